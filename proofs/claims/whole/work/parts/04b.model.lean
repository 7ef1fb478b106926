def fX10_addsBeard (M0 : zM) (a1 : Int32) : Option (Int32 × zM) :=
  (some (M0.1 1 1)).bind fun x1 =>
  (some (zst M0 1 1 ((M0.1 1 1) + (1 : Int32)))).bind fun M2 =>
  (fX10_beardSpot x1 (0 : Int32)).bind fun x3 =>
  (zix x3 59).bind fun j4 =>
  (some (zst M2 1 j4 a1)).bind fun M5 =>
  (fX10_beardSpot x1 (1 : Int32)).bind fun x6 =>
  (zix x6 59).bind fun j7 =>
  (some (zst M5 1 j7 (10 : Int32))).bind fun M8 =>
  (fX10_beardSpot x1 (2 : Int32)).bind fun x9 =>
  (zix x9 59).bind fun j10 =>
  (some (zst M8 1 j10 (0 : Int32))).bind fun M11 =>
  (fX10_beardSpot x1 (3 : Int32)).bind fun x12 =>
  (zix x12 59).bind fun j13 =>
  (some (zst M11 1 j13 (-1 : Int32))).bind fun M14 =>
  some (x1, M14)
abbrev rX10_addsBeard : Room := { frames := 1, cells := 0, slots := 0, locals := 21 }
theorem arX10_addsBeard : zAr yX10_addsBeard RX10 1 := ⟨rfl, by decide, by decide, by decide +kernel⟩
set_option maxHeartbeats 4000000 in
theorem kX10_addsBeard (l : Launch) {w : zWd} (hw : zIsM w) {M0 M' : zM} {a1 : Int32} {r : Int32} (h : fX10_addsBeard M0 a1 = some (r, M')) : Met l yX10_addsBeard (Cond.code yX10_addsBeard cX10_addsBeard 3 (some .int) :: zU) rX10_addsBeard (zPre w M0 [.ref (za w 0), .int a1]) (zQ w (some (.int r)) M') 0 0 (zA w) := by
  refine z_metN (own := RX10) (lv := [(0, .ref (za w 0)), (1, .int a1)]) hw.1 (by decide) (Nat.le_of_ble_eq_true rfl) rfl rfl ?_
  intro p e s m args below meth c G hr hlk hH ls hl
  unfold fX10_addsBeard at h
  refine lv_aload_n G.x G.b dX10_addsBeard_0 rfl (lv_at hl 0 rfl) ?_
  refine z_get (v := .ref (za w 1)) (k := 0) G hH.1 (mM0 hw) vc10 inU10 0 (by decide) u767 rfl dX10_addsBeard_1 ?_
  refine lv_iconst (v := (1 : Int32)) G.x G.b dX10_addsBeard_4 (by decide) ?_
  refine z_iald (k := 1) G hH.1 (mM1 hw) (by decide : zix (1 : Int32) 59 = some 1) dX10_addsBeard_5 ?_
  obtain ⟨x1, ex1, h⟩ := z_let h
  refine z_nmI ex1 ?_
  refine lv_istore_n (lv' := [(2, .int x1), (0, .ref (za w 0)), (1, .int a1)]) G.x G.b dX10_addsBeard_6 rfl hl (Nat.le_of_ble_eq_true rfl) rfl (fun ls hl => ?_)
  refine lv_aload_n G.x G.b dX10_addsBeard_7 rfl (lv_at hl 1 rfl) ?_
  refine z_get (v := .ref (za w 1)) (k := 0) G hH.1 (mM0 hw) vc10 inU10 0 (by decide) u767 rfl dX10_addsBeard_8 ?_
  refine lv_iconst (v := (1 : Int32)) G.x G.b dX10_addsBeard_11 (by decide) ?_
  refine lv_dup2_11 G.x G.b dX10_addsBeard_12 rfl rfl ?_
  refine z_iald (k := 1) G hH.1 (mM1 hw) (by decide : zix (1 : Int32) 59 = some 1) dX10_addsBeard_13 ?_
  refine lv_iconst (v := (1 : Int32)) G.x G.b dX10_addsBeard_14 (by decide) ?_
  refine lv_iadd G.x G.b dX10_addsBeard_15 ?_
  obtain ⟨M2, eM2, h⟩ := z_let h
  refine z_iastN (k := 1) G hH (mM1 hw) (by decide : zix (1 : Int32) 59 = some 1) dX10_addsBeard_16 eM2 (fun H locs hH => ?_)
  refine lv_aload_n G.x G.b dX10_addsBeard_17 rfl (lv_at hl 1 rfl) ?_
  refine z_get (v := .ref (za w 1)) (k := 0) G hH.1 (mM0 hw) vc10 inU10 0 (by decide) u767 rfl dX10_addsBeard_18 ?_
  refine lv_iload_n G.x G.b dX10_addsBeard_21 rfl (lv_at hl 0 rfl) ?_
  refine lv_iconst (v := (0 : Int32)) G.x G.b dX10_addsBeard_22 (by decide) ?_
  obtain ⟨x3, ex3, h⟩ := z_bind h
  refine z_rdI (z_runS (As := [.int x1, .int (0 : Int32)]) (rest := [.ref (za w 1)]) G hH hl.1 (kX10_beardSpot l hw.1 ex3) arX10_beardSpot u886 u887 u11 u888 rfl rfl rfl (Nat.le_of_ble_eq_true rfl) (Nat.le_of_ble_eq_true rfl) rfl (Nat.le_of_ble_eq_true rfl) dX10_addsBeard_23) ?_
  refine lv_iload_n G.x G.b dX10_addsBeard_26 rfl (lv_at hl 2 rfl) ?_
  obtain ⟨j4, ej4, h⟩ := z_bind h
  obtain ⟨M5, eM5, h⟩ := z_let h
  refine z_iastN (k := 1) G hH (mM1 hw) ej4 dX10_addsBeard_27 eM5 (fun H locs hH => ?_)
  refine lv_aload_n G.x G.b dX10_addsBeard_28 rfl (lv_at hl 1 rfl) ?_
  refine z_get (v := .ref (za w 1)) (k := 0) G hH.1 (mM0 hw) vc10 inU10 0 (by decide) u767 rfl dX10_addsBeard_29 ?_
  refine lv_iload_n G.x G.b dX10_addsBeard_32 rfl (lv_at hl 0 rfl) ?_
  refine lv_iconst (v := (1 : Int32)) G.x G.b dX10_addsBeard_33 (by decide) ?_
  obtain ⟨x6, ex6, h⟩ := z_bind h
  refine z_rdI (z_runS (As := [.int x1, .int (1 : Int32)]) (rest := [.ref (za w 1)]) G hH hl.1 (kX10_beardSpot l hw.1 ex6) arX10_beardSpot u886 u887 u11 u888 rfl rfl rfl (Nat.le_of_ble_eq_true rfl) (Nat.le_of_ble_eq_true rfl) rfl (Nat.le_of_ble_eq_true rfl) dX10_addsBeard_34) ?_
  refine lv_bipush (v := (10 : Int32)) G.x G.b dX10_addsBeard_37 (by decide) ?_
  obtain ⟨j7, ej7, h⟩ := z_bind h
  obtain ⟨M8, eM8, h⟩ := z_let h
  refine z_iastN (k := 1) G hH (mM1 hw) ej7 dX10_addsBeard_39 eM8 (fun H locs hH => ?_)
  refine lv_aload_n G.x G.b dX10_addsBeard_40 rfl (lv_at hl 1 rfl) ?_
  refine z_get (v := .ref (za w 1)) (k := 0) G hH.1 (mM0 hw) vc10 inU10 0 (by decide) u767 rfl dX10_addsBeard_41 ?_
  refine lv_iload_n G.x G.b dX10_addsBeard_44 rfl (lv_at hl 0 rfl) ?_
  refine lv_iconst (v := (2 : Int32)) G.x G.b dX10_addsBeard_45 (by decide) ?_
  obtain ⟨x9, ex9, h⟩ := z_bind h
  refine z_rdI (z_runS (As := [.int x1, .int (2 : Int32)]) (rest := [.ref (za w 1)]) G hH hl.1 (kX10_beardSpot l hw.1 ex9) arX10_beardSpot u886 u887 u11 u888 rfl rfl rfl (Nat.le_of_ble_eq_true rfl) (Nat.le_of_ble_eq_true rfl) rfl (Nat.le_of_ble_eq_true rfl) dX10_addsBeard_46) ?_
  refine lv_iconst (v := (0 : Int32)) G.x G.b dX10_addsBeard_49 (by decide) ?_
  obtain ⟨j10, ej10, h⟩ := z_bind h
  obtain ⟨M11, eM11, h⟩ := z_let h
  refine z_iastN (k := 1) G hH (mM1 hw) ej10 dX10_addsBeard_50 eM11 (fun H locs hH => ?_)
  refine lv_aload_n G.x G.b dX10_addsBeard_51 rfl (lv_at hl 1 rfl) ?_
  refine z_get (v := .ref (za w 1)) (k := 0) G hH.1 (mM0 hw) vc10 inU10 0 (by decide) u767 rfl dX10_addsBeard_52 ?_
  refine lv_iload_n G.x G.b dX10_addsBeard_55 rfl (lv_at hl 0 rfl) ?_
  refine lv_iconst (v := (3 : Int32)) G.x G.b dX10_addsBeard_56 (by decide) ?_
  obtain ⟨x12, ex12, h⟩ := z_bind h
  refine z_rdI (z_runS (As := [.int x1, .int (3 : Int32)]) (rest := [.ref (za w 1)]) G hH hl.1 (kX10_beardSpot l hw.1 ex12) arX10_beardSpot u886 u887 u11 u888 rfl rfl rfl (Nat.le_of_ble_eq_true rfl) (Nat.le_of_ble_eq_true rfl) rfl (Nat.le_of_ble_eq_true rfl) dX10_addsBeard_57) ?_
  refine lv_iconst (v := (-1 : Int32)) G.x G.b dX10_addsBeard_60 (by decide) ?_
  obtain ⟨j13, ej13, h⟩ := z_bind h
  obtain ⟨M14, eM14, h⟩ := z_let h
  refine z_iastN (k := 1) G hH (mM1 hw) ej13 dX10_addsBeard_61 eM14 (fun H locs hH => ?_)
  refine lv_iload_n G.x G.b dX10_addsBeard_62 rfl (lv_at hl 0 rfl) ?_
  exact z_retI G hr hlk hH h dX10_addsBeard_63
def fX10_beard (M0 : zM) (a1 : Int32) : Option (Int32 × zM) :=
  (fX10_isKind a1).bind fun x1 =>
  if x1 = (0 : Int32) then (zb2 (fX10_finds M0 (-1000000001 : Int32)) fun x8 M9 =>
  some (x8, M9)) else (if (M0.1 1 1) = (8 : Int32) then (zb2 (fX10_finds M0 (-1000000002 : Int32)) fun x6 M7 =>
  some (x6, M7)) else (zb2 (fX10_addsBeard M0 a1) fun x4 M5 =>
  some (x4, M5)))
abbrev rX10_beard : Room := { frames := 2, cells := 0, slots := 0, locals := 45 }
theorem arX10_beard : zAr yX10_beard RX10 1 := ⟨rfl, by decide, by decide, by decide +kernel⟩
set_option maxHeartbeats 4000000 in
theorem kX10_beard (l : Launch) {w : zWd} (hw : zIsM w) {M0 M' : zM} {a1 : Int32} {r : Int32} (h : fX10_beard M0 a1 = some (r, M')) : Met l yX10_beard (Cond.code yX10_beard cX10_beard 2 (some .int) :: zU) rX10_beard (zPre w M0 [.ref (za w 0), .int a1]) (zQ w (some (.int r)) M') 0 0 (zA w) := by
  refine z_metN (own := RX10) (lv := [(0, .ref (za w 0)), (1, .int a1)]) hw.1 (by decide) (Nat.le_of_ble_eq_true rfl) rfl rfl ?_
  intro p e s m args below meth c G hr hlk hH ls hl
  unfold fX10_beard at h
  refine lv_iload_n G.x G.b dX10_beard_0 rfl (lv_at hl 1 rfl) ?_
  obtain ⟨x1, ex1, h⟩ := z_bind h
  refine z_rdI (z_runS (As := [.int a1]) (rest := []) G hH hl.1 (kX10_isKind l hw.1 ex1) arX10_isKind u901 u902 u11 u903 rfl rfl rfl (Nat.le_of_ble_eq_true rfl) (Nat.le_of_ble_eq_true rfl) rfl (Nat.le_of_ble_eq_true rfl) dX10_beard_1) ?_
  refine lv_if_ne (tgt := 14) G.x G.b dX10_beard_4 (by decide) (fun c2 => ?_) (fun c2 => ?_)
  · have h := z_ifn c2 h
    refine lv_aload_n G.x G.b dX10_beard_14 rfl (lv_at hl 0 rfl) ?_
    refine z_get (v := .ref (za w 1)) (k := 0) G hH.1 (mM0 hw) vc10 inU10 0 (by decide) u767 rfl dX10_beard_15 ?_
    refine lv_iconst (v := (1 : Int32)) G.x G.b dX10_beard_18 (by decide) ?_
    refine z_iald (k := 1) G hH.1 (mM1 hw) (by decide : zix (1 : Int32) 59 = some 1) dX10_beard_19 ?_
    refine lv_bipush (v := (8 : Int32)) G.x G.b dX10_beard_20 (by decide) ?_
    refine lv_icmp_ne (tgt := 34) G.x G.b dX10_beard_22 (by decide) (fun c3 => ?_) (fun c3 => ?_)
    · have h := z_ifn c3 h
      refine lv_aload_n G.x G.b dX10_beard_34 rfl (lv_at hl 0 rfl) ?_
      refine lv_iload_n G.x G.b dX10_beard_35 rfl (lv_at hl 1 rfl) ?_
      obtain ⟨x4, M5, eM5, h⟩ := z_b2 h
      refine z_aftI (z_runV (k := 0) (As := [.int a1]) (rest := []) G hH hl.1 (kX10_addsBeard l hw eM5) (mM0 hw) vc10 arX10_addsBeard u905 u907 us27 u11 u908 rfl rfl rfl (Nat.le_of_ble_eq_true rfl) (Nat.le_of_ble_eq_true rfl) rfl (Nat.le_of_ble_eq_true rfl) dX10_beard_36) hH (fun H locs hH => ?_)
      exact z_retI G hr hlk hH h dX10_beard_39
    · have h := z_if c3 h
      refine lv_aload_n G.x G.b dX10_beard_25 rfl (lv_at hl 0 rfl) ?_
      refine lv_ldc G.x G.b G.o (G.t u904) dX10_beard_26 ?_
      obtain ⟨x6, M7, eM7, h⟩ := z_b2 h
      refine z_aftI (z_runV (k := 0) (As := [.int (-1000000002 : Int32)]) (rest := []) G hH hl.1 (kX10_finds l hw eM7) (mM0 hw) vc10 arX10_finds u834 u836 us16 u11 u837 rfl rfl rfl (Nat.le_of_ble_eq_true rfl) (Nat.le_of_ble_eq_true rfl) rfl (Nat.le_of_ble_eq_true rfl) dX10_beard_28) hH (fun H locs hH => ?_)
      refine lv_goto (tgt := 39) G.x G.b dX10_beard_31 (by decide) ?_
      exact z_retI G hr hlk hH h dX10_beard_39
  · have h := z_if c2 h
    refine lv_aload_n G.x G.b dX10_beard_7 rfl (lv_at hl 0 rfl) ?_
    refine lv_ldc G.x G.b G.o (G.t u833) dX10_beard_8 ?_
    obtain ⟨x8, M9, eM9, h⟩ := z_b2 h
    refine z_aftI (z_runV (k := 0) (As := [.int (-1000000001 : Int32)]) (rest := []) G hH hl.1 (kX10_finds l hw eM9) (mM0 hw) vc10 arX10_finds u834 u836 us16 u11 u837 rfl rfl rfl (Nat.le_of_ble_eq_true rfl) (Nat.le_of_ble_eq_true rfl) rfl (Nat.le_of_ble_eq_true rfl) dX10_beard_10) hH (fun H locs hH => ?_)
    exact z_retI G hr hlk hH h dX10_beard_13
def fX10_of (M0 : zM) (a1 : Int32) (a2 : Int32) : Option (Int32 × zM) :=
  (fX10_isBeard M0 a1).bind fun x1 =>
  if x1 = (0 : Int32) then (zb2 (fX10_finds M0 (-1000000001 : Int32)) fun x3 M4 =>
  some (x3, M4)) else ((fX10_in a2.toInt64 (0 : Int64) (5 : Int64)).bind fun x5 =>
  if x5 = (0 : Int32) then (zb2 (fX10_finds M0 (-1000000001 : Int32)) fun x12 M13 =>
  some (x12, M13)) else (if (3 : Int32) < a2 then (if a2 = (4 : Int32) then ((fX10_costsOf M0 a1).bind fun x10 =>
  some (x10, M0)) else ((fX10_gainsOf M0 a1).bind fun x9 =>
  some (((100 : Int32) + x9), M0))) else ((fX10_its M0 a1 a2).bind fun x11 =>
  some (x11, M0))))
abbrev rX10_of : Room := { frames := 3, cells := 0, slots := 0, locals := 65 }
theorem arX10_of : zAr yX10_of RX10 2 := ⟨rfl, by decide, by decide, by decide +kernel⟩
set_option maxHeartbeats 4000000 in
theorem kX10_of (l : Launch) {w : zWd} (hw : zIsM w) {M0 M' : zM} {a1 : Int32} {a2 : Int32} {r : Int32} (h : fX10_of M0 a1 a2 = some (r, M')) : Met l yX10_of (Cond.code yX10_of cX10_of 3 (some .int) :: zU) rX10_of (zPre w M0 [.ref (za w 0), .int a1, .int a2]) (zQ w (some (.int r)) M') 0 0 (zA w) := by
  refine z_metN (own := RX10) (lv := [(0, .ref (za w 0)), (1, .int a1), (2, .int a2)]) hw.1 (by decide) (Nat.le_of_ble_eq_true rfl) rfl rfl ?_
  intro p e s m args below meth c G hr hlk hH ls hl
  unfold fX10_of at h
  refine lv_aload_n G.x G.b dX10_of_0 rfl (lv_at hl 0 rfl) ?_
  refine lv_iload_n G.x G.b dX10_of_1 rfl (lv_at hl 1 rfl) ?_
  obtain ⟨x1, ex1, h⟩ := z_bind h
  refine z_rdI (z_runV (k := 0) (As := [.int a1]) (rest := []) G hH hl.1 (kX10_isBeard l hw ex1) (mM0 hw) vc10 arX10_isBeard u842 u844 us17 u11 u845 rfl rfl rfl (Nat.le_of_ble_eq_true rfl) (Nat.le_of_ble_eq_true rfl) rfl (Nat.le_of_ble_eq_true rfl) dX10_of_2) ?_
  refine lv_if_eq (tgt := 20) G.x G.b dX10_of_5 (by decide) (fun c2 => ?_) (fun c2 => ?_)
  · have h := z_if c2 h
    refine lv_aload_n G.x G.b dX10_of_20 rfl (lv_at hl 0 rfl) ?_
    refine lv_ldc G.x G.b G.o (G.t u833) dX10_of_21 ?_
    obtain ⟨x3, M4, eM4, h⟩ := z_b2 h
    refine z_aftI (z_runV (k := 0) (As := [.int (-1000000001 : Int32)]) (rest := []) G hH hl.1 (kX10_finds l hw eM4) (mM0 hw) vc10 arX10_finds u834 u836 us16 u11 u837 rfl rfl rfl (Nat.le_of_ble_eq_true rfl) (Nat.le_of_ble_eq_true rfl) rfl (Nat.le_of_ble_eq_true rfl) dX10_of_23) hH (fun H locs hH => ?_)
    exact z_retI G hr hlk hH h dX10_of_26
  · have h := z_ifn c2 h
    refine lv_iload_n G.x G.b dX10_of_8 rfl (lv_at hl 2 rfl) ?_
    refine lv_i2l (v := a2.toInt64) G.x G.b dX10_of_9 rfl ?_
    refine lv_lconst (v := (0 : Int64)) G.x G.b dX10_of_10 (by decide) ?_
    refine lv_ldc2 G.x G.b G.o (G.t u823) dX10_of_11 ?_
    obtain ⟨x5, ex5, h⟩ := z_bind h
    refine z_rdI (z_runS (As := [.long a2.toInt64, .long (0 : Int64), .long (5 : Int64)]) (rest := []) G hH hl.1 (kX10_in l hw.1 ex5) arX10_in u824 u825 u11 u826 rfl rfl rfl (Nat.le_of_ble_eq_true rfl) (Nat.le_of_ble_eq_true rfl) rfl (Nat.le_of_ble_eq_true rfl) dX10_of_14) ?_
    refine lv_if_ne (tgt := 27) G.x G.b dX10_of_17 (by decide) (fun c6 => ?_) (fun c6 => ?_)
    · have h := z_ifn c6 h
      refine lv_iload_n G.x G.b dX10_of_27 rfl (lv_at hl 2 rfl) ?_
      refine lv_iconst (v := (3 : Int32)) G.x G.b dX10_of_28 (by decide) ?_
      refine lv_icmp_gt (tgt := 41) G.x G.b dX10_of_29 (by decide) (fun c7 => ?_) (fun c7 => ?_)
      · have h := z_if c7 h
        refine lv_iload_n G.x G.b dX10_of_41 rfl (lv_at hl 2 rfl) ?_
        refine lv_iconst (v := (4 : Int32)) G.x G.b dX10_of_42 (by decide) ?_
        refine lv_icmp_ne (tgt := 54) G.x G.b dX10_of_43 (by decide) (fun c8 => ?_) (fun c8 => ?_)
        · have h := z_ifn c8 h
          refine lv_bipush (v := (100 : Int32)) G.x G.b dX10_of_54 (by decide) ?_
          refine lv_aload_n G.x G.b dX10_of_56 rfl (lv_at hl 0 rfl) ?_
          refine lv_iload_n G.x G.b dX10_of_57 rfl (lv_at hl 1 rfl) ?_
          obtain ⟨x9, ex9, h⟩ := z_bind h
          refine z_rdI (z_runV (k := 0) (As := [.int a1]) (rest := [.int (100 : Int32)]) G hH hl.1 (kX10_gainsOf l hw ex9) (mM0 hw) vc10 arX10_gainsOf u917 u919 us29 u11 u920 rfl rfl rfl (Nat.le_of_ble_eq_true rfl) (Nat.le_of_ble_eq_true rfl) rfl (Nat.le_of_ble_eq_true rfl) dX10_of_58) ?_
          refine lv_iadd G.x G.b dX10_of_61 ?_
          exact z_retI G hr hlk hH h dX10_of_62
        · have h := z_if c8 h
          refine lv_aload_n G.x G.b dX10_of_46 rfl (lv_at hl 0 rfl) ?_
          refine lv_iload_n G.x G.b dX10_of_47 rfl (lv_at hl 1 rfl) ?_
          obtain ⟨x10, ex10, h⟩ := z_bind h
          refine z_rdI (z_runV (k := 0) (As := [.int a1]) (rest := []) G hH hl.1 (kX10_costsOf l hw ex10) (mM0 hw) vc10 arX10_costsOf u913 u915 us28 u11 u916 rfl rfl rfl (Nat.le_of_ble_eq_true rfl) (Nat.le_of_ble_eq_true rfl) rfl (Nat.le_of_ble_eq_true rfl) dX10_of_48) ?_
          refine lv_goto (tgt := 62) G.x G.b dX10_of_51 (by decide) ?_
          exact z_retI G hr hlk hH h dX10_of_62
      · have h := z_ifn c7 h
        refine lv_aload_n G.x G.b dX10_of_32 rfl (lv_at hl 0 rfl) ?_
        refine lv_iload_n G.x G.b dX10_of_33 rfl (lv_at hl 1 rfl) ?_
        refine lv_iload_n G.x G.b dX10_of_34 rfl (lv_at hl 2 rfl) ?_
        obtain ⟨x11, ex11, h⟩ := z_bind h
        refine z_rdI (z_runV (k := 0) (As := [.int a1, .int a2]) (rest := []) G hH hl.1 (kX10_its l hw ex11) (mM0 hw) vc10 arX10_its u882 u884 us24 u11 u885 rfl rfl rfl (Nat.le_of_ble_eq_true rfl) (Nat.le_of_ble_eq_true rfl) rfl (Nat.le_of_ble_eq_true rfl) dX10_of_35) ?_
        refine lv_goto (tgt := 62) G.x G.b dX10_of_38 (by decide) ?_
        exact z_retI G hr hlk hH h dX10_of_62
    · have h := z_if c6 h
      refine lv_aload_n G.x G.b dX10_of_20 rfl (lv_at hl 0 rfl) ?_
      refine lv_ldc G.x G.b G.o (G.t u833) dX10_of_21 ?_
      obtain ⟨x12, M13, eM13, h⟩ := z_b2 h
      refine z_aftI (z_runV (k := 0) (As := [.int (-1000000001 : Int32)]) (rest := []) G hH hl.1 (kX10_finds l hw eM13) (mM0 hw) vc10 arX10_finds u834 u836 us16 u11 u837 rfl rfl rfl (Nat.le_of_ble_eq_true rfl) (Nat.le_of_ble_eq_true rfl) rfl (Nat.le_of_ble_eq_true rfl) dX10_of_23) hH (fun H locs hH => ?_)
      exact z_retI G hr hlk hH h dX10_of_26
def fX10_can (M0 : zM) (a1 : Int32) (a2 : Int32) (a3 : Int32) : Option (Int32 × zM) :=
  (fX10_isBeard M0 a1).bind fun x1 =>
  if x1 = (0 : Int32) then (zb2 (fX10_finds M0 (-1000000001 : Int32)) fun x3 M4 =>
  some (x3, M4)) else ((fX10_isHouse a2).bind fun x5 =>
  if x5 = (0 : Int32) then (zb2 (fX10_finds M0 (-1000000001 : Int32)) fun x7 M8 =>
  some (x7, M8)) else ((fX10_in a3.toInt64 (0 : Int64) (1 : Int64)).bind fun x9 =>
  if x9 = (0 : Int32) then (zb2 (fX10_finds M0 (-1000000001 : Int32)) fun x14 M15 =>
  some (x14, M15)) else (if a3 = (0 : Int32) then ((fX10_meetsOf M0 a1 a2).bind fun x13 =>
  some (((100 : Int32) + x13), M0)) else ((fX10_leavesOf M0 a1).bind fun x12 =>
  some (((100 : Int32) + x12), M0)))))
abbrev rX10_can : Room := { frames := 3, cells := 0, slots := 0, locals := 69 }
theorem arX10_can : zAr yX10_can RX10 3 := ⟨rfl, by decide, by decide, by decide +kernel⟩
set_option maxHeartbeats 4000000 in
theorem kX10_can (l : Launch) {w : zWd} (hw : zIsM w) {M0 M' : zM} {a1 : Int32} {a2 : Int32} {a3 : Int32} {r : Int32} (h : fX10_can M0 a1 a2 a3 = some (r, M')) : Met l yX10_can (Cond.code yX10_can cX10_can 4 (some .int) :: zU) rX10_can (zPre w M0 [.ref (za w 0), .int a1, .int a2, .int a3]) (zQ w (some (.int r)) M') 0 0 (zA w) := by
  refine z_metN (own := RX10) (lv := [(0, .ref (za w 0)), (1, .int a1), (2, .int a2), (3, .int a3)]) hw.1 (by decide) (Nat.le_of_ble_eq_true rfl) rfl rfl ?_
  intro p e s m args below meth c G hr hlk hH ls hl
  unfold fX10_can at h
  refine lv_aload_n G.x G.b dX10_can_0 rfl (lv_at hl 0 rfl) ?_
  refine lv_iload_n G.x G.b dX10_can_1 rfl (lv_at hl 1 rfl) ?_
  obtain ⟨x1, ex1, h⟩ := z_bind h
  refine z_rdI (z_runV (k := 0) (As := [.int a1]) (rest := []) G hH hl.1 (kX10_isBeard l hw ex1) (mM0 hw) vc10 arX10_isBeard u842 u844 us17 u11 u845 rfl rfl rfl (Nat.le_of_ble_eq_true rfl) (Nat.le_of_ble_eq_true rfl) rfl (Nat.le_of_ble_eq_true rfl) dX10_can_2) ?_
  refine lv_if_eq (tgt := 25) G.x G.b dX10_can_5 (by decide) (fun c2 => ?_) (fun c2 => ?_)
  · have h := z_if c2 h
    refine lv_aload_n G.x G.b dX10_can_25 rfl (lv_at hl 0 rfl) ?_
    refine lv_ldc G.x G.b G.o (G.t u833) dX10_can_26 ?_
    obtain ⟨x3, M4, eM4, h⟩ := z_b2 h
    refine z_aftI (z_runV (k := 0) (As := [.int (-1000000001 : Int32)]) (rest := []) G hH hl.1 (kX10_finds l hw eM4) (mM0 hw) vc10 arX10_finds u834 u836 us16 u11 u837 rfl rfl rfl (Nat.le_of_ble_eq_true rfl) (Nat.le_of_ble_eq_true rfl) rfl (Nat.le_of_ble_eq_true rfl) dX10_can_28) hH (fun H locs hH => ?_)
    exact z_retI G hr hlk hH h dX10_can_31
  · have h := z_ifn c2 h
    refine lv_iload_n G.x G.b dX10_can_8 rfl (lv_at hl 2 rfl) ?_
    obtain ⟨x5, ex5, h⟩ := z_bind h
    refine z_rdI (z_runS (As := [.int a2]) (rest := []) G hH hl.1 (kX10_isHouse l hw.1 ex5) arX10_isHouse u820 u821 u11 u822 rfl rfl rfl (Nat.le_of_ble_eq_true rfl) (Nat.le_of_ble_eq_true rfl) rfl (Nat.le_of_ble_eq_true rfl) dX10_can_9) ?_
    refine lv_if_eq (tgt := 25) G.x G.b dX10_can_12 (by decide) (fun c6 => ?_) (fun c6 => ?_)
    · have h := z_if c6 h
      refine lv_aload_n G.x G.b dX10_can_25 rfl (lv_at hl 0 rfl) ?_
      refine lv_ldc G.x G.b G.o (G.t u833) dX10_can_26 ?_
      obtain ⟨x7, M8, eM8, h⟩ := z_b2 h
      refine z_aftI (z_runV (k := 0) (As := [.int (-1000000001 : Int32)]) (rest := []) G hH hl.1 (kX10_finds l hw eM8) (mM0 hw) vc10 arX10_finds u834 u836 us16 u11 u837 rfl rfl rfl (Nat.le_of_ble_eq_true rfl) (Nat.le_of_ble_eq_true rfl) rfl (Nat.le_of_ble_eq_true rfl) dX10_can_28) hH (fun H locs hH => ?_)
      exact z_retI G hr hlk hH h dX10_can_31
    · have h := z_ifn c6 h
      refine lv_iload_n G.x G.b dX10_can_15 rfl (lv_at hl 3 rfl) ?_
      refine lv_i2l (v := a3.toInt64) G.x G.b dX10_can_16 rfl ?_
      refine lv_lconst (v := (0 : Int64)) G.x G.b dX10_can_17 (by decide) ?_
      refine lv_lconst (v := (1 : Int64)) G.x G.b dX10_can_18 (by decide) ?_
      obtain ⟨x9, ex9, h⟩ := z_bind h
      refine z_rdI (z_runS (As := [.long a3.toInt64, .long (0 : Int64), .long (1 : Int64)]) (rest := []) G hH hl.1 (kX10_in l hw.1 ex9) arX10_in u824 u825 u11 u826 rfl rfl rfl (Nat.le_of_ble_eq_true rfl) (Nat.le_of_ble_eq_true rfl) rfl (Nat.le_of_ble_eq_true rfl) dX10_can_19) ?_
      refine lv_if_ne (tgt := 32) G.x G.b dX10_can_22 (by decide) (fun c10 => ?_) (fun c10 => ?_)
      · have h := z_ifn c10 h
        refine lv_bipush (v := (100 : Int32)) G.x G.b dX10_can_32 (by decide) ?_
        refine lv_iload_n G.x G.b dX10_can_34 rfl (lv_at hl 3 rfl) ?_
        refine lv_if_ne (tgt := 47) G.x G.b dX10_can_35 (by decide) (fun c11 => ?_) (fun c11 => ?_)
        · have h := z_ifn c11 h
          refine lv_aload_n G.x G.b dX10_can_47 rfl (lv_at hl 0 rfl) ?_
          refine lv_iload_n G.x G.b dX10_can_48 rfl (lv_at hl 1 rfl) ?_
          obtain ⟨x12, ex12, h⟩ := z_bind h
          refine z_rdI (z_runV (k := 0) (As := [.int a1]) (rest := [.int (100 : Int32)]) G hH hl.1 (kX10_leavesOf l hw ex12) (mM0 hw) vc10 arX10_leavesOf u929 u931 us31 u11 u932 rfl rfl rfl (Nat.le_of_ble_eq_true rfl) (Nat.le_of_ble_eq_true rfl) rfl (Nat.le_of_ble_eq_true rfl) dX10_can_49) ?_
          refine lv_iadd G.x G.b dX10_can_52 ?_
          exact z_retI G hr hlk hH h dX10_can_53
        · have h := z_if c11 h
          refine lv_aload_n G.x G.b dX10_can_38 rfl (lv_at hl 0 rfl) ?_
          refine lv_iload_n G.x G.b dX10_can_39 rfl (lv_at hl 1 rfl) ?_
          refine lv_iload_n G.x G.b dX10_can_40 rfl (lv_at hl 2 rfl) ?_
          obtain ⟨x13, ex13, h⟩ := z_bind h
          refine z_rdI (z_runV (k := 0) (As := [.int a1, .int a2]) (rest := [.int (100 : Int32)]) G hH hl.1 (kX10_meetsOf l hw ex13) (mM0 hw) vc10 arX10_meetsOf u925 u927 us30 u11 u928 rfl rfl rfl (Nat.le_of_ble_eq_true rfl) (Nat.le_of_ble_eq_true rfl) rfl (Nat.le_of_ble_eq_true rfl) dX10_can_41) ?_
          refine lv_goto (tgt := 52) G.x G.b dX10_can_44 (by decide) ?_
          refine lv_iadd G.x G.b dX10_can_52 ?_
          exact z_retI G hr hlk hH h dX10_can_53
      · have h := z_if c10 h
        refine lv_aload_n G.x G.b dX10_can_25 rfl (lv_at hl 0 rfl) ?_
        refine lv_ldc G.x G.b G.o (G.t u833) dX10_can_26 ?_
        obtain ⟨x14, M15, eM15, h⟩ := z_b2 h
        refine z_aftI (z_runV (k := 0) (As := [.int (-1000000001 : Int32)]) (rest := []) G hH hl.1 (kX10_finds l hw eM15) (mM0 hw) vc10 arX10_finds u834 u836 us16 u11 u837 rfl rfl rfl (Nat.le_of_ble_eq_true rfl) (Nat.le_of_ble_eq_true rfl) rfl (Nat.le_of_ble_eq_true rfl) dX10_can_28) hH (fun H locs hH => ?_)
        exact z_retI G hr hlk hH h dX10_can_31
def fX10_set (M0 : zM) (a1 : Int32) (a2 : Int32) (a3 : Int32) : Option (Int32 × zM) :=
  (fX10_in a2.toInt64 (1 : Int64) (2 : Int64)).bind fun x1 =>
  zj (fun (x2 : Int32) =>
  (fX10_isBeard M0 a1).bind fun x4 =>
  if x4 = (0 : Int32) then (zb2 (fX10_finds M0 (-1000000001 : Int32)) fun x6 M7 =>
  some (x6, M7)) else (if x2 = (0 : Int32) then (zb2 (fX10_finds M0 (-1000000001 : Int32)) fun x9 M10 =>
  some (x9, M10)) else ((fX10_beardSpot a1 a2).bind fun x11 =>
  zb2 (fX10_becomes M0 x11 a3) fun x12 M13 =>
  some (x12, M13)))) fun J40_3 =>
  zj (J40_3 (0 : Int32)) fun J39_14 =>
  if x1 = (0 : Int32) then (J39_14) else (zj (fun (y16 : Int64) =>
  (fX10_in a3.toInt64 (0 : Int64) y16).bind fun x18 =>
  if x18 = (0 : Int32) then (J39_14) else (J40_3 (1 : Int32))) fun J29_17 =>
  if a2 = (1 : Int32) then (J29_17 (99 : Int64)) else (J29_17 (999 : Int64)))
abbrev rX10_set : Room := { frames := 2, cells := 0, slots := 0, locals := 46 }
theorem arX10_set : zAr yX10_set RX10 3 := ⟨rfl, by decide, by decide, by decide +kernel⟩
set_option maxHeartbeats 4000000 in
theorem kX10_set (l : Launch) {w : zWd} (hw : zIsM w) {M0 M' : zM} {a1 : Int32} {a2 : Int32} {a3 : Int32} {r : Int32} (h : fX10_set M0 a1 a2 a3 = some (r, M')) : Met l yX10_set (Cond.code yX10_set cX10_set 5 (some .int) :: zU) rX10_set (zPre w M0 [.ref (za w 0), .int a1, .int a2, .int a3]) (zQ w (some (.int r)) M') 0 0 (zA w) := by
  refine z_metN (own := RX10) (lv := [(0, .ref (za w 0)), (1, .int a1), (2, .int a2), (3, .int a3)]) hw.1 (by decide) (Nat.le_of_ble_eq_true rfl) rfl rfl ?_
  intro p e s m args below meth c G hr hlk hH ls hl
  unfold fX10_set at h
  refine lv_iload_n G.x G.b dX10_set_0 rfl (lv_at hl 2 rfl) ?_
  refine lv_i2l (v := a2.toInt64) G.x G.b dX10_set_1 rfl ?_
  refine lv_lconst (v := (1 : Int64)) G.x G.b dX10_set_2 (by decide) ?_
  refine lv_ldc2 G.x G.b G.o (G.t u850) dX10_set_3 ?_
  obtain ⟨x1, ex1, h⟩ := z_bind h
  refine z_rdI (z_runS (As := [.long a2.toInt64, .long (1 : Int64), .long (2 : Int64)]) (rest := []) G hH hl.1 (kX10_in l hw.1 ex1) arX10_in u824 u825 u11 u826 rfl rfl rfl (Nat.le_of_ble_eq_true rfl) (Nat.le_of_ble_eq_true rfl) rfl (Nat.le_of_ble_eq_true rfl) dX10_set_6) ?_
  obtain ⟨J40_3, hJ40_3, h⟩ := z_j h
  have kJ40_3 : ∀ (x2 : Int32) (ls : Array Slot), J40_3 x2 = some (r, M') → lv_has ls 5 [(0, .ref (za w 0)), (1, .int a1), (2, .int a2), (3, .int a3)] → zGo p l e rX10_set s m args below meth c (zQ w (some (.int r)) M') (zA w) s.heap [] (F0 m 40 ls [.int x2]) := by
    intro x2 ls h hl
    rw [hJ40_3] at h
    refine lv_istore (lv' := [(4, .int x2), (0, .ref (za w 0)), (1, .int a1), (2, .int a2), (3, .int a3)]) G.x G.b dX10_set_40 hl (Nat.le_of_ble_eq_true rfl) rfl (fun ls hl => ?_)
    refine lv_aload_n G.x G.b dX10_set_42 rfl (lv_at hl 1 rfl) ?_
    refine lv_iload_n G.x G.b dX10_set_43 rfl (lv_at hl 2 rfl) ?_
    obtain ⟨x4, ex4, h⟩ := z_bind h
    refine z_rdI (z_runV (k := 0) (As := [.int a1]) (rest := []) G hH hl.1 (kX10_isBeard l hw ex4) (mM0 hw) vc10 arX10_isBeard u842 u844 us17 u11 u845 rfl rfl rfl (Nat.le_of_ble_eq_true rfl) (Nat.le_of_ble_eq_true rfl) rfl (Nat.le_of_ble_eq_true rfl) dX10_set_44) ?_
    refine lv_if_eq (tgt := 68) G.x G.b dX10_set_47 (by decide) (fun c5 => ?_) (fun c5 => ?_)
    · have h := z_if c5 h
      refine lv_aload_n G.x G.b dX10_set_68 rfl (lv_at hl 1 rfl) ?_
      refine lv_ldc G.x G.b G.o (G.t u833) dX10_set_69 ?_
      obtain ⟨x6, M7, eM7, h⟩ := z_b2 h
      refine z_aftI (z_runV (k := 0) (As := [.int (-1000000001 : Int32)]) (rest := []) G hH hl.1 (kX10_finds l hw eM7) (mM0 hw) vc10 arX10_finds u834 u836 us16 u11 u837 rfl rfl rfl (Nat.le_of_ble_eq_true rfl) (Nat.le_of_ble_eq_true rfl) rfl (Nat.le_of_ble_eq_true rfl) dX10_set_71) hH (fun H locs hH => ?_)
      exact z_retI G hr hlk hH h dX10_set_74
    · have h := z_ifn c5 h
      refine lv_iload G.x G.b dX10_set_50 (lv_at hl 0 rfl) ?_
      refine lv_if_eq (tgt := 68) G.x G.b dX10_set_52 (by decide) (fun c8 => ?_) (fun c8 => ?_)
      · have h := z_if c8 h
        refine lv_aload_n G.x G.b dX10_set_68 rfl (lv_at hl 1 rfl) ?_
        refine lv_ldc G.x G.b G.o (G.t u833) dX10_set_69 ?_
        obtain ⟨x9, M10, eM10, h⟩ := z_b2 h
        refine z_aftI (z_runV (k := 0) (As := [.int (-1000000001 : Int32)]) (rest := []) G hH hl.1 (kX10_finds l hw eM10) (mM0 hw) vc10 arX10_finds u834 u836 us16 u11 u837 rfl rfl rfl (Nat.le_of_ble_eq_true rfl) (Nat.le_of_ble_eq_true rfl) rfl (Nat.le_of_ble_eq_true rfl) dX10_set_71) hH (fun H locs hH => ?_)
        exact z_retI G hr hlk hH h dX10_set_74
      · have h := z_ifn c8 h
        refine lv_aload_n G.x G.b dX10_set_55 rfl (lv_at hl 1 rfl) ?_
        refine lv_iload_n G.x G.b dX10_set_56 rfl (lv_at hl 2 rfl) ?_
        refine lv_iload_n G.x G.b dX10_set_57 rfl (lv_at hl 3 rfl) ?_
        obtain ⟨x11, ex11, h⟩ := z_bind h
        refine z_rdI (z_runS (As := [.int a1, .int a2]) (rest := [.ref (za w 0)]) G hH hl.1 (kX10_beardSpot l hw.1 ex11) arX10_beardSpot u886 u887 u11 u888 rfl rfl rfl (Nat.le_of_ble_eq_true rfl) (Nat.le_of_ble_eq_true rfl) rfl (Nat.le_of_ble_eq_true rfl) dX10_set_58) ?_
        refine lv_iload_n G.x G.b dX10_set_61 rfl (lv_at hl 4 rfl) ?_
        obtain ⟨x12, M13, eM13, h⟩ := z_b2 h
        refine z_aftI (z_runV (k := 0) (As := [.int x11, .int a3]) (rest := []) G hH hl.1 (kX10_becomes l hw eM13) (mM0 hw) vc10 arX10_becomes u829 u831 us15 u11 u832 rfl rfl rfl (Nat.le_of_ble_eq_true rfl) (Nat.le_of_ble_eq_true rfl) rfl (Nat.le_of_ble_eq_true rfl) dX10_set_62) hH (fun H locs hH => ?_)
        refine lv_goto (tgt := 74) G.x G.b dX10_set_65 (by decide) ?_
        exact z_retI G hr hlk hH h dX10_set_74
  obtain ⟨J39_14, hJ39_14, h⟩ := z_j h
  have kJ39_14 : ∀ (ls : Array Slot), J39_14 = some (r, M') → lv_has ls 5 [(0, .ref (za w 0)), (1, .int a1), (2, .int a2), (3, .int a3)] → zGo p l e rX10_set s m args below meth c (zQ w (some (.int r)) M') (zA w) s.heap [] (F0 m 39 ls []) := by
    intro ls h hl
    rw [hJ39_14] at h
    refine lv_iconst (v := (0 : Int32)) G.x G.b dX10_set_39 (by decide) ?_
    exact kJ40_3 (0 : Int32) ls h (lv_sub hl [0, 1, 2, 3] rfl)
  refine lv_if_eq (tgt := 39) G.x G.b dX10_set_9 (by decide) (fun c15 => ?_) (fun c15 => ?_)
  · have h := z_if c15 h
    exact kJ39_14 ls h (lv_sub hl [0, 1, 2, 3] rfl)
  · have h := z_ifn c15 h
    refine lv_iload_n G.x G.b dX10_set_12 rfl (lv_at hl 3 rfl) ?_
    refine lv_i2l (v := a3.toInt64) G.x G.b dX10_set_13 rfl ?_
    refine lv_lconst (v := (0 : Int64)) G.x G.b dX10_set_14 (by decide) ?_
    refine lv_iload_n G.x G.b dX10_set_15 rfl (lv_at hl 2 rfl) ?_
    refine lv_iconst (v := (1 : Int32)) G.x G.b dX10_set_16 (by decide) ?_
    obtain ⟨J29_17, hJ29_17, h⟩ := z_j h
    have kJ29_17 : ∀ (y16 : Int64) (ls : Array Slot), J29_17 y16 = some (r, M') → lv_has ls 5 [(0, .ref (za w 0)), (1, .int a1), (2, .int a2), (3, .int a3)] → zGo p l e rX10_set s m args below meth c (zQ w (some (.int r)) M') (zA w) s.heap [] (F0 m 29 ls [.long y16, .long (0 : Int64), .long a3.toInt64]) := by
      intro y16 ls h hl
      rw [hJ29_17] at h
      obtain ⟨x18, ex18, h⟩ := z_bind h
      refine z_rdI (z_runS (As := [.long a3.toInt64, .long (0 : Int64), .long y16]) (rest := []) G hH hl.1 (kX10_in l hw.1 ex18) arX10_in u824 u825 u11 u826 rfl rfl rfl (Nat.le_of_ble_eq_true rfl) (Nat.le_of_ble_eq_true rfl) rfl (Nat.le_of_ble_eq_true rfl) dX10_set_29) ?_
      refine lv_if_eq (tgt := 39) G.x G.b dX10_set_32 (by decide) (fun c19 => ?_) (fun c19 => ?_)
      · have h := z_if c19 h
        exact kJ39_14 ls h (lv_sub hl [0, 1, 2, 3] rfl)
      · have h := z_ifn c19 h
        refine lv_iconst (v := (1 : Int32)) G.x G.b dX10_set_35 (by decide) ?_
        refine lv_goto (tgt := 40) G.x G.b dX10_set_36 (by decide) ?_
        exact kJ40_3 (1 : Int32) ls h (lv_sub hl [0, 1, 2, 3] rfl)
    refine lv_icmp_ne (tgt := 26) G.x G.b dX10_set_17 (by decide) (fun c20 => ?_) (fun c20 => ?_)
    · have h := z_ifn c20 h
      refine lv_ldc2 G.x G.b G.o (G.t u938) dX10_set_26 ?_
      exact kJ29_17 (999 : Int64) ls h (lv_sub hl [0, 1, 2, 3] rfl)
    · have h := z_if c20 h
      refine lv_ldc2 G.x G.b G.o (G.t u937) dX10_set_20 ?_
      refine lv_goto (tgt := 29) G.x G.b dX10_set_23 (by decide) ?_
      exact kJ29_17 (99 : Int64) ls h (lv_sub hl [0, 1, 2, 3] rfl)
def fX10_turn (M0 : zM) (a1 : Int32) (a2 : Int32) : Option (Int32 × zM) :=
  (fX10_isBeard M0 a1).bind fun x1 =>
  if x1 = (0 : Int32) then (zb2 (fX10_finds M0 (-1000000001 : Int32)) fun x3 M4 =>
  some (x3, M4)) else ((fX10_isKind a2).bind fun x5 =>
  if x5 = (0 : Int32) then (zb2 (fX10_finds M0 (-1000000001 : Int32)) fun x7 M8 =>
  some (x7, M8)) else ((fX10_beardSpot a1 (0 : Int32)).bind fun x9 =>
  zb2 (fX10_becomes M0 x9 a2) fun x10 M11 =>
  some (x10, M11)))
abbrev rX10_turn : Room := { frames := 2, cells := 0, slots := 0, locals := 46 }
theorem arX10_turn : zAr yX10_turn RX10 2 := ⟨rfl, by decide, by decide, by decide +kernel⟩
set_option maxHeartbeats 4000000 in
theorem kX10_turn (l : Launch) {w : zWd} (hw : zIsM w) {M0 M' : zM} {a1 : Int32} {a2 : Int32} {r : Int32} (h : fX10_turn M0 a1 a2 = some (r, M')) : Met l yX10_turn (Cond.code yX10_turn cX10_turn 3 (some .int) :: zU) rX10_turn (zPre w M0 [.ref (za w 0), .int a1, .int a2]) (zQ w (some (.int r)) M') 0 0 (zA w) := by
  refine z_metN (own := RX10) (lv := [(0, .ref (za w 0)), (1, .int a1), (2, .int a2)]) hw.1 (by decide) (Nat.le_of_ble_eq_true rfl) rfl rfl ?_
  intro p e s m args below meth c G hr hlk hH ls hl
  unfold fX10_turn at h
  refine lv_aload_n G.x G.b dX10_turn_0 rfl (lv_at hl 0 rfl) ?_
  refine lv_iload_n G.x G.b dX10_turn_1 rfl (lv_at hl 1 rfl) ?_
  obtain ⟨x1, ex1, h⟩ := z_bind h
  refine z_rdI (z_runV (k := 0) (As := [.int a1]) (rest := []) G hH hl.1 (kX10_isBeard l hw ex1) (mM0 hw) vc10 arX10_isBeard u842 u844 us17 u11 u845 rfl rfl rfl (Nat.le_of_ble_eq_true rfl) (Nat.le_of_ble_eq_true rfl) rfl (Nat.le_of_ble_eq_true rfl) dX10_turn_2) ?_
  refine lv_if_eq (tgt := 28) G.x G.b dX10_turn_5 (by decide) (fun c2 => ?_) (fun c2 => ?_)
  · have h := z_if c2 h
    refine lv_aload_n G.x G.b dX10_turn_28 rfl (lv_at hl 0 rfl) ?_
    refine lv_ldc G.x G.b G.o (G.t u833) dX10_turn_29 ?_
    obtain ⟨x3, M4, eM4, h⟩ := z_b2 h
    refine z_aftI (z_runV (k := 0) (As := [.int (-1000000001 : Int32)]) (rest := []) G hH hl.1 (kX10_finds l hw eM4) (mM0 hw) vc10 arX10_finds u834 u836 us16 u11 u837 rfl rfl rfl (Nat.le_of_ble_eq_true rfl) (Nat.le_of_ble_eq_true rfl) rfl (Nat.le_of_ble_eq_true rfl) dX10_turn_31) hH (fun H locs hH => ?_)
    exact z_retI G hr hlk hH h dX10_turn_34
  · have h := z_ifn c2 h
    refine lv_iload_n G.x G.b dX10_turn_8 rfl (lv_at hl 2 rfl) ?_
    obtain ⟨x5, ex5, h⟩ := z_bind h
    refine z_rdI (z_runS (As := [.int a2]) (rest := []) G hH hl.1 (kX10_isKind l hw.1 ex5) arX10_isKind u901 u902 u11 u903 rfl rfl rfl (Nat.le_of_ble_eq_true rfl) (Nat.le_of_ble_eq_true rfl) rfl (Nat.le_of_ble_eq_true rfl) dX10_turn_9) ?_
    refine lv_if_eq (tgt := 28) G.x G.b dX10_turn_12 (by decide) (fun c6 => ?_) (fun c6 => ?_)
    · have h := z_if c6 h
      refine lv_aload_n G.x G.b dX10_turn_28 rfl (lv_at hl 0 rfl) ?_
      refine lv_ldc G.x G.b G.o (G.t u833) dX10_turn_29 ?_
      obtain ⟨x7, M8, eM8, h⟩ := z_b2 h
      refine z_aftI (z_runV (k := 0) (As := [.int (-1000000001 : Int32)]) (rest := []) G hH hl.1 (kX10_finds l hw eM8) (mM0 hw) vc10 arX10_finds u834 u836 us16 u11 u837 rfl rfl rfl (Nat.le_of_ble_eq_true rfl) (Nat.le_of_ble_eq_true rfl) rfl (Nat.le_of_ble_eq_true rfl) dX10_turn_31) hH (fun H locs hH => ?_)
      exact z_retI G hr hlk hH h dX10_turn_34
    · have h := z_ifn c6 h
      refine lv_aload_n G.x G.b dX10_turn_15 rfl (lv_at hl 0 rfl) ?_
      refine lv_iload_n G.x G.b dX10_turn_16 rfl (lv_at hl 1 rfl) ?_
      refine lv_iconst (v := (0 : Int32)) G.x G.b dX10_turn_17 (by decide) ?_
      obtain ⟨x9, ex9, h⟩ := z_bind h
      refine z_rdI (z_runS (As := [.int a1, .int (0 : Int32)]) (rest := [.ref (za w 0)]) G hH hl.1 (kX10_beardSpot l hw.1 ex9) arX10_beardSpot u886 u887 u11 u888 rfl rfl rfl (Nat.le_of_ble_eq_true rfl) (Nat.le_of_ble_eq_true rfl) rfl (Nat.le_of_ble_eq_true rfl) dX10_turn_18) ?_
      refine lv_iload_n G.x G.b dX10_turn_21 rfl (lv_at hl 2 rfl) ?_
      obtain ⟨x10, M11, eM11, h⟩ := z_b2 h
      refine z_aftI (z_runV (k := 0) (As := [.int x9, .int a2]) (rest := []) G hH hl.1 (kX10_becomes l hw eM11) (mM0 hw) vc10 arX10_becomes u829 u831 us15 u11 u832 rfl rfl rfl (Nat.le_of_ble_eq_true rfl) (Nat.le_of_ble_eq_true rfl) rfl (Nat.le_of_ble_eq_true rfl) dX10_turn_22) hH (fun H locs hH => ?_)
      refine lv_goto (tgt := 34) G.x G.b dX10_turn_25 (by decide) ?_
      exact z_retI G hr hlk hH h dX10_turn_34
def fX10_isUnder (a1 : Int32) (a2 : Int32) : Option Int32 :=
  if a2 = (0 : Int32) then (zbl (1 : Int32)) else (if a1 = a2 then (zbl (1 : Int32)) else (zj (if a1 = (5 : Int32) then (if a2 = (2 : Int32) then (zbl (1 : Int32)) else (zbl (0 : Int32))) else (zbl (0 : Int32))) fun J19_3 =>
  if a1 = (4 : Int32) then (if a2 = (1 : Int32) then (zbl (1 : Int32)) else (J19_3)) else (J19_3)))
abbrev rX10_isUnder : Room := { frames := 0, cells := 0, slots := 0, locals := 0 }
theorem arX10_isUnder : zAr yX10_isUnder RX10 2 := ⟨rfl, by decide, by decide, by decide +kernel⟩
set_option maxHeartbeats 4000000 in
theorem kX10_isUnder (l : Launch) {w : zWd} (ho : zOk w) {M0 : zM} {a1 : Int32} {a2 : Int32} {r : Int32} (h : fX10_isUnder a1 a2 = some r) : Met l yX10_isUnder (Cond.code yX10_isUnder cX10_isUnder 2 (some .boolean) :: zU) rX10_isUnder (zPre w M0 [.int a1, .int a2]) (zR (some (.int r))) 0 0 zNo := by
  refine z_metN (own := RX10) (lv := [(0, .int a1), (1, .int a2)]) ho (by decide) (Nat.le_of_ble_eq_true rfl) rfl rfl ?_
  intro p e s m args below meth c G hr hlk hH ls hl
  unfold fX10_isUnder at h
  refine lv_iload_n G.x G.b dX10_isUnder_0 rfl (lv_at hl 1 rfl) ?_
  refine lv_if_eq (tgt := 29) G.x G.b dX10_isUnder_1 (by decide) (fun c1 => ?_) (fun c1 => ?_)
  · have h := z_if c1 h
    refine lv_iconst (v := (1 : Int32)) G.x G.b dX10_isUnder_29 (by decide) ?_
    refine lv_goto (tgt := 34) G.x G.b dX10_isUnder_30 (by decide) ?_
    exact z_rtZ G hr hlk h dX10_isUnder_34
  · have h := z_ifn c1 h
    refine lv_iload_n G.x G.b dX10_isUnder_4 rfl (lv_at hl 0 rfl) ?_
    refine lv_iload_n G.x G.b dX10_isUnder_5 rfl (lv_at hl 1 rfl) ?_
    refine lv_icmp_eq (tgt := 29) G.x G.b dX10_isUnder_6 (by decide) (fun c2 => ?_) (fun c2 => ?_)
    · have h := z_if c2 h
      refine lv_iconst (v := (1 : Int32)) G.x G.b dX10_isUnder_29 (by decide) ?_
      refine lv_goto (tgt := 34) G.x G.b dX10_isUnder_30 (by decide) ?_
      exact z_rtZ G hr hlk h dX10_isUnder_34
    · have h := z_ifn c2 h
      refine lv_iload_n G.x G.b dX10_isUnder_9 rfl (lv_at hl 0 rfl) ?_
      refine lv_iconst (v := (4 : Int32)) G.x G.b dX10_isUnder_10 (by decide) ?_
      obtain ⟨J19_3, hJ19_3, h⟩ := z_j h
      have kJ19_3 : ∀ (ls : Array Slot), J19_3 = some r → lv_has ls 2 [(0, .int a1), (1, .int a2)] → zGo p l e rX10_isUnder s m args below meth c (zR (some (.int r))) zNo s.heap [] (F0 m 19 ls []) := by
        intro ls h hl
        rw [hJ19_3] at h
        refine lv_iload_n G.x G.b dX10_isUnder_19 rfl (lv_at hl 0 rfl) ?_
        refine lv_iconst (v := (5 : Int32)) G.x G.b dX10_isUnder_20 (by decide) ?_
        refine lv_icmp_ne (tgt := 33) G.x G.b dX10_isUnder_21 (by decide) (fun c4 => ?_) (fun c4 => ?_)
        · have h := z_ifn c4 h
          refine lv_iconst (v := (0 : Int32)) G.x G.b dX10_isUnder_33 (by decide) ?_
          exact z_rtZ G hr hlk h dX10_isUnder_34
        · have h := z_if c4 h
          refine lv_iload_n G.x G.b dX10_isUnder_24 rfl (lv_at hl 1 rfl) ?_
          refine lv_iconst (v := (2 : Int32)) G.x G.b dX10_isUnder_25 (by decide) ?_
          refine lv_icmp_ne (tgt := 33) G.x G.b dX10_isUnder_26 (by decide) (fun c5 => ?_) (fun c5 => ?_)
          · have h := z_ifn c5 h
            refine lv_iconst (v := (0 : Int32)) G.x G.b dX10_isUnder_33 (by decide) ?_
            exact z_rtZ G hr hlk h dX10_isUnder_34
          · have h := z_if c5 h
            refine lv_iconst (v := (1 : Int32)) G.x G.b dX10_isUnder_29 (by decide) ?_
            refine lv_goto (tgt := 34) G.x G.b dX10_isUnder_30 (by decide) ?_
            exact z_rtZ G hr hlk h dX10_isUnder_34
      refine lv_icmp_ne (tgt := 19) G.x G.b dX10_isUnder_11 (by decide) (fun c6 => ?_) (fun c6 => ?_)
      · have h := z_ifn c6 h
        exact kJ19_3 ls h (lv_sub hl [0, 1] rfl)
      · have h := z_if c6 h
        refine lv_iload_n G.x G.b dX10_isUnder_14 rfl (lv_at hl 1 rfl) ?_
        refine lv_iconst (v := (1 : Int32)) G.x G.b dX10_isUnder_15 (by decide) ?_
        refine lv_icmp_eq (tgt := 29) G.x G.b dX10_isUnder_16 (by decide) (fun c7 => ?_) (fun c7 => ?_)
        · have h := z_if c7 h
          refine lv_iconst (v := (1 : Int32)) G.x G.b dX10_isUnder_29 (by decide) ?_
          refine lv_goto (tgt := 34) G.x G.b dX10_isUnder_30 (by decide) ?_
          exact z_rtZ G hr hlk h dX10_isUnder_34
        · have h := z_ifn c7 h
          exact kJ19_3 ls h (lv_sub hl [0, 1] rfl)
def fX10_as (M0 : zM) (a1 : Int32) (a2 : Int32) : Option (Int32 × zM) :=
  (fX10_isBeard M0 a1).bind fun x1 =>
  if x1 = (0 : Int32) then (zb2 (fX10_finds M0 (-1000000001 : Int32)) fun x3 M4 =>
  some (x3, M4)) else ((fX10_isKind a2).bind fun x5 =>
  if x5 = (0 : Int32) then (zb2 (fX10_finds M0 (-1000000001 : Int32)) fun x13 M14 =>
  some (x13, M14)) else ((fX10_its M0 a1 (0 : Int32)).bind fun x7 =>
  (fX10_isUnder x7 a2).bind fun x8 =>
  if x8 = (0 : Int32) then (zb2 (fX10_finds M0 (-1000000003 : Int32)) fun x10 M11 =>
  some (x10, M11)) else ((fX10_its M0 a1 (1 : Int32)).bind fun x12 =>
  some (x12, M0))))
abbrev rX10_as : Room := { frames := 2, cells := 0, slots := 0, locals := 46 }
theorem arX10_as : zAr yX10_as RX10 2 := ⟨rfl, by decide, by decide, by decide +kernel⟩
set_option maxHeartbeats 4000000 in
theorem kX10_as (l : Launch) {w : zWd} (hw : zIsM w) {M0 M' : zM} {a1 : Int32} {a2 : Int32} {r : Int32} (h : fX10_as M0 a1 a2 = some (r, M')) : Met l yX10_as (Cond.code yX10_as cX10_as 3 (some .int) :: zU) rX10_as (zPre w M0 [.ref (za w 0), .int a1, .int a2]) (zQ w (some (.int r)) M') 0 0 (zA w) := by
  refine z_metN (own := RX10) (lv := [(0, .ref (za w 0)), (1, .int a1), (2, .int a2)]) hw.1 (by decide) (Nat.le_of_ble_eq_true rfl) rfl rfl ?_
  intro p e s m args below meth c G hr hlk hH ls hl
  unfold fX10_as at h
  refine lv_aload_n G.x G.b dX10_as_0 rfl (lv_at hl 0 rfl) ?_
  refine lv_iload_n G.x G.b dX10_as_1 rfl (lv_at hl 1 rfl) ?_
  obtain ⟨x1, ex1, h⟩ := z_bind h
  refine z_rdI (z_runV (k := 0) (As := [.int a1]) (rest := []) G hH hl.1 (kX10_isBeard l hw ex1) (mM0 hw) vc10 arX10_isBeard u842 u844 us17 u11 u845 rfl rfl rfl (Nat.le_of_ble_eq_true rfl) (Nat.le_of_ble_eq_true rfl) rfl (Nat.le_of_ble_eq_true rfl) dX10_as_2) ?_
  refine lv_if_eq (tgt := 15) G.x G.b dX10_as_5 (by decide) (fun c2 => ?_) (fun c2 => ?_)
  · have h := z_if c2 h
    refine lv_aload_n G.x G.b dX10_as_15 rfl (lv_at hl 0 rfl) ?_
    refine lv_ldc G.x G.b G.o (G.t u833) dX10_as_16 ?_
    obtain ⟨x3, M4, eM4, h⟩ := z_b2 h
    refine z_aftI (z_runV (k := 0) (As := [.int (-1000000001 : Int32)]) (rest := []) G hH hl.1 (kX10_finds l hw eM4) (mM0 hw) vc10 arX10_finds u834 u836 us16 u11 u837 rfl rfl rfl (Nat.le_of_ble_eq_true rfl) (Nat.le_of_ble_eq_true rfl) rfl (Nat.le_of_ble_eq_true rfl) dX10_as_18) hH (fun H locs hH => ?_)
    exact z_retI G hr hlk hH h dX10_as_21
  · have h := z_ifn c2 h
    refine lv_iload_n G.x G.b dX10_as_8 rfl (lv_at hl 2 rfl) ?_
    obtain ⟨x5, ex5, h⟩ := z_bind h
    refine z_rdI (z_runS (As := [.int a2]) (rest := []) G hH hl.1 (kX10_isKind l hw.1 ex5) arX10_isKind u901 u902 u11 u903 rfl rfl rfl (Nat.le_of_ble_eq_true rfl) (Nat.le_of_ble_eq_true rfl) rfl (Nat.le_of_ble_eq_true rfl) dX10_as_9) ?_
    refine lv_if_ne (tgt := 22) G.x G.b dX10_as_12 (by decide) (fun c6 => ?_) (fun c6 => ?_)
    · have h := z_ifn c6 h
      refine lv_aload_n G.x G.b dX10_as_22 rfl (lv_at hl 0 rfl) ?_
      refine lv_iload_n G.x G.b dX10_as_23 rfl (lv_at hl 1 rfl) ?_
      refine lv_iconst (v := (0 : Int32)) G.x G.b dX10_as_24 (by decide) ?_
      obtain ⟨x7, ex7, h⟩ := z_bind h
      refine z_rdI (z_runV (k := 0) (As := [.int a1, .int (0 : Int32)]) (rest := []) G hH hl.1 (kX10_its l hw ex7) (mM0 hw) vc10 arX10_its u882 u884 us24 u11 u885 rfl rfl rfl (Nat.le_of_ble_eq_true rfl) (Nat.le_of_ble_eq_true rfl) rfl (Nat.le_of_ble_eq_true rfl) dX10_as_25) ?_
      refine lv_iload_n G.x G.b dX10_as_28 rfl (lv_at hl 2 rfl) ?_
      obtain ⟨x8, ex8, h⟩ := z_bind h
      refine z_rdI (z_runS (As := [.int x7, .int a2]) (rest := []) G hH hl.1 (kX10_isUnder l hw.1 ex8) arX10_isUnder u947 u948 u11 u949 rfl rfl rfl (Nat.le_of_ble_eq_true rfl) (Nat.le_of_ble_eq_true rfl) rfl (Nat.le_of_ble_eq_true rfl) dX10_as_29) ?_
      refine lv_if_eq (tgt := 44) G.x G.b dX10_as_32 (by decide) (fun c9 => ?_) (fun c9 => ?_)
      · have h := z_if c9 h
        refine lv_aload_n G.x G.b dX10_as_44 rfl (lv_at hl 0 rfl) ?_
        refine lv_ldc G.x G.b G.o (G.t u950) dX10_as_45 ?_
        obtain ⟨x10, M11, eM11, h⟩ := z_b2 h
        refine z_aftI (z_runV (k := 0) (As := [.int (-1000000003 : Int32)]) (rest := []) G hH hl.1 (kX10_finds l hw eM11) (mM0 hw) vc10 arX10_finds u834 u836 us16 u11 u837 rfl rfl rfl (Nat.le_of_ble_eq_true rfl) (Nat.le_of_ble_eq_true rfl) rfl (Nat.le_of_ble_eq_true rfl) dX10_as_47) hH (fun H locs hH => ?_)
        exact z_retI G hr hlk hH h dX10_as_50
      · have h := z_ifn c9 h
        refine lv_aload_n G.x G.b dX10_as_35 rfl (lv_at hl 0 rfl) ?_
        refine lv_iload_n G.x G.b dX10_as_36 rfl (lv_at hl 1 rfl) ?_
        refine lv_iconst (v := (1 : Int32)) G.x G.b dX10_as_37 (by decide) ?_
        obtain ⟨x12, ex12, h⟩ := z_bind h
        refine z_rdI (z_runV (k := 0) (As := [.int a1, .int (1 : Int32)]) (rest := []) G hH hl.1 (kX10_its l hw ex12) (mM0 hw) vc10 arX10_its u882 u884 us24 u11 u885 rfl rfl rfl (Nat.le_of_ble_eq_true rfl) (Nat.le_of_ble_eq_true rfl) rfl (Nat.le_of_ble_eq_true rfl) dX10_as_38) ?_
        refine lv_goto (tgt := 50) G.x G.b dX10_as_41 (by decide) ?_
        exact z_retI G hr hlk hH h dX10_as_50
    · have h := z_if c6 h
      refine lv_aload_n G.x G.b dX10_as_15 rfl (lv_at hl 0 rfl) ?_
      refine lv_ldc G.x G.b G.o (G.t u833) dX10_as_16 ?_
      obtain ⟨x13, M14, eM14, h⟩ := z_b2 h
      refine z_aftI (z_runV (k := 0) (As := [.int (-1000000001 : Int32)]) (rest := []) G hH hl.1 (kX10_finds l hw eM14) (mM0 hw) vc10 arX10_finds u834 u836 us16 u11 u837 rfl rfl rfl (Nat.le_of_ble_eq_true rfl) (Nat.le_of_ble_eq_true rfl) rfl (Nat.le_of_ble_eq_true rfl) dX10_as_18) hH (fun H locs hH => ?_)
      exact z_retI G hr hlk hH h dX10_as_21
def fX10_addsWearer (M0 : zM) (a1 : Int32) : Option (Int32 × zM) :=
  (some (M0.1 1 2)).bind fun x1 =>
  (some (zst M0 1 2 ((M0.1 1 2) + (1 : Int32)))).bind fun M2 =>
  (fX10_wearerSpot x1 (0 : Int32)).bind fun x3 =>
  (zix x3 59).bind fun j4 =>
  (some (zst M2 1 j4 a1)).bind fun M5 =>
  (fX10_wearerSpot x1 (1 : Int32)).bind fun x6 =>
  (zix x6 59).bind fun j7 =>
  (some (zst M5 1 j7 x1)).bind fun M8 =>
  some (x1, M8)
abbrev rX10_addsWearer : Room := { frames := 1, cells := 0, slots := 0, locals := 21 }
theorem arX10_addsWearer : zAr yX10_addsWearer RX10 1 := ⟨rfl, by decide, by decide, by decide +kernel⟩
set_option maxHeartbeats 4000000 in
theorem kX10_addsWearer (l : Launch) {w : zWd} (hw : zIsM w) {M0 M' : zM} {a1 : Int32} {r : Int32} (h : fX10_addsWearer M0 a1 = some (r, M')) : Met l yX10_addsWearer (Cond.code yX10_addsWearer cX10_addsWearer 3 (some .int) :: zU) rX10_addsWearer (zPre w M0 [.ref (za w 0), .int a1]) (zQ w (some (.int r)) M') 0 0 (zA w) := by
  refine z_metN (own := RX10) (lv := [(0, .ref (za w 0)), (1, .int a1)]) hw.1 (by decide) (Nat.le_of_ble_eq_true rfl) rfl rfl ?_
  intro p e s m args below meth c G hr hlk hH ls hl
  unfold fX10_addsWearer at h
  refine lv_aload_n G.x G.b dX10_addsWearer_0 rfl (lv_at hl 0 rfl) ?_
  refine z_get (v := .ref (za w 1)) (k := 0) G hH.1 (mM0 hw) vc10 inU10 0 (by decide) u767 rfl dX10_addsWearer_1 ?_
  refine lv_iconst (v := (2 : Int32)) G.x G.b dX10_addsWearer_4 (by decide) ?_
  refine z_iald (k := 1) G hH.1 (mM1 hw) (by decide : zix (2 : Int32) 59 = some 2) dX10_addsWearer_5 ?_
  obtain ⟨x1, ex1, h⟩ := z_let h
  refine z_nmI ex1 ?_
  refine lv_istore_n (lv' := [(2, .int x1), (0, .ref (za w 0)), (1, .int a1)]) G.x G.b dX10_addsWearer_6 rfl hl (Nat.le_of_ble_eq_true rfl) rfl (fun ls hl => ?_)
  refine lv_aload_n G.x G.b dX10_addsWearer_7 rfl (lv_at hl 1 rfl) ?_
  refine z_get (v := .ref (za w 1)) (k := 0) G hH.1 (mM0 hw) vc10 inU10 0 (by decide) u767 rfl dX10_addsWearer_8 ?_
  refine lv_iconst (v := (2 : Int32)) G.x G.b dX10_addsWearer_11 (by decide) ?_
  refine lv_dup2_11 G.x G.b dX10_addsWearer_12 rfl rfl ?_
  refine z_iald (k := 1) G hH.1 (mM1 hw) (by decide : zix (2 : Int32) 59 = some 2) dX10_addsWearer_13 ?_
  refine lv_iconst (v := (1 : Int32)) G.x G.b dX10_addsWearer_14 (by decide) ?_
  refine lv_iadd G.x G.b dX10_addsWearer_15 ?_
  obtain ⟨M2, eM2, h⟩ := z_let h
  refine z_iastN (k := 1) G hH (mM1 hw) (by decide : zix (2 : Int32) 59 = some 2) dX10_addsWearer_16 eM2 (fun H locs hH => ?_)
  refine lv_aload_n G.x G.b dX10_addsWearer_17 rfl (lv_at hl 1 rfl) ?_
  refine z_get (v := .ref (za w 1)) (k := 0) G hH.1 (mM0 hw) vc10 inU10 0 (by decide) u767 rfl dX10_addsWearer_18 ?_
  refine lv_iload_n G.x G.b dX10_addsWearer_21 rfl (lv_at hl 0 rfl) ?_
  refine lv_iconst (v := (0 : Int32)) G.x G.b dX10_addsWearer_22 (by decide) ?_
  obtain ⟨x3, ex3, h⟩ := z_bind h
  refine z_rdI (z_runS (As := [.int x1, .int (0 : Int32)]) (rest := [.ref (za w 1)]) G hH hl.1 (kX10_wearerSpot l hw.1 ex3) arX10_wearerSpot u867 u868 u11 u869 rfl rfl rfl (Nat.le_of_ble_eq_true rfl) (Nat.le_of_ble_eq_true rfl) rfl (Nat.le_of_ble_eq_true rfl) dX10_addsWearer_23) ?_
  refine lv_iload_n G.x G.b dX10_addsWearer_26 rfl (lv_at hl 2 rfl) ?_
  obtain ⟨j4, ej4, h⟩ := z_bind h
  obtain ⟨M5, eM5, h⟩ := z_let h
  refine z_iastN (k := 1) G hH (mM1 hw) ej4 dX10_addsWearer_27 eM5 (fun H locs hH => ?_)
  refine lv_aload_n G.x G.b dX10_addsWearer_28 rfl (lv_at hl 1 rfl) ?_
  refine z_get (v := .ref (za w 1)) (k := 0) G hH.1 (mM0 hw) vc10 inU10 0 (by decide) u767 rfl dX10_addsWearer_29 ?_
  refine lv_iload_n G.x G.b dX10_addsWearer_32 rfl (lv_at hl 0 rfl) ?_
  refine lv_iconst (v := (1 : Int32)) G.x G.b dX10_addsWearer_33 (by decide) ?_
  obtain ⟨x6, ex6, h⟩ := z_bind h
  refine z_rdI (z_runS (As := [.int x1, .int (1 : Int32)]) (rest := [.ref (za w 1)]) G hH hl.1 (kX10_wearerSpot l hw.1 ex6) arX10_wearerSpot u867 u868 u11 u869 rfl rfl rfl (Nat.le_of_ble_eq_true rfl) (Nat.le_of_ble_eq_true rfl) rfl (Nat.le_of_ble_eq_true rfl) dX10_addsWearer_34) ?_
  refine lv_iload_n G.x G.b dX10_addsWearer_37 rfl (lv_at hl 0 rfl) ?_
  obtain ⟨j7, ej7, h⟩ := z_bind h
  obtain ⟨M8, eM8, h⟩ := z_let h
  refine z_iastN (k := 1) G hH (mM1 hw) ej7 dX10_addsWearer_38 eM8 (fun H locs hH => ?_)
  refine lv_iload_n G.x G.b dX10_addsWearer_39 rfl (lv_at hl 0 rfl) ?_
  exact z_retI G hr hlk hH h dX10_addsWearer_40
def fX10_wearer (M0 : zM) (a1 : Int32) : Option (Int32 × zM) :=
  (fX10_in a1.toInt64 (0 : Int64) (9999 : Int64)).bind fun x1 =>
  if x1 = (0 : Int32) then (zb2 (fX10_finds M0 (-1000000001 : Int32)) fun x8 M9 =>
  some (x8, M9)) else (if (M0.1 1 2) = (6 : Int32) then (zb2 (fX10_finds M0 (-1000000002 : Int32)) fun x6 M7 =>
  some (x6, M7)) else (zb2 (fX10_addsWearer M0 a1) fun x4 M5 =>
  some (x4, M5)))
abbrev rX10_wearer : Room := { frames := 2, cells := 0, slots := 0, locals := 43 }
theorem arX10_wearer : zAr yX10_wearer RX10 1 := ⟨rfl, by decide, by decide, by decide +kernel⟩
set_option maxHeartbeats 4000000 in
theorem kX10_wearer (l : Launch) {w : zWd} (hw : zIsM w) {M0 M' : zM} {a1 : Int32} {r : Int32} (h : fX10_wearer M0 a1 = some (r, M')) : Met l yX10_wearer (Cond.code yX10_wearer cX10_wearer 2 (some .int) :: zU) rX10_wearer (zPre w M0 [.ref (za w 0), .int a1]) (zQ w (some (.int r)) M') 0 0 (zA w) := by
  refine z_metN (own := RX10) (lv := [(0, .ref (za w 0)), (1, .int a1)]) hw.1 (by decide) (Nat.le_of_ble_eq_true rfl) rfl rfl ?_
  intro p e s m args below meth c G hr hlk hH ls hl
  unfold fX10_wearer at h
  refine lv_iload_n G.x G.b dX10_wearer_0 rfl (lv_at hl 1 rfl) ?_
  refine lv_i2l (v := a1.toInt64) G.x G.b dX10_wearer_1 rfl ?_
  refine lv_lconst (v := (0 : Int64)) G.x G.b dX10_wearer_2 (by decide) ?_
  refine lv_ldc2 G.x G.b G.o (G.t u955) dX10_wearer_3 ?_
  obtain ⟨x1, ex1, h⟩ := z_bind h
  refine z_rdI (z_runS (As := [.long a1.toInt64, .long (0 : Int64), .long (9999 : Int64)]) (rest := []) G hH hl.1 (kX10_in l hw.1 ex1) arX10_in u824 u825 u11 u826 rfl rfl rfl (Nat.le_of_ble_eq_true rfl) (Nat.le_of_ble_eq_true rfl) rfl (Nat.le_of_ble_eq_true rfl) dX10_wearer_6) ?_
  refine lv_if_ne (tgt := 19) G.x G.b dX10_wearer_9 (by decide) (fun c2 => ?_) (fun c2 => ?_)
  · have h := z_ifn c2 h
    refine lv_aload_n G.x G.b dX10_wearer_19 rfl (lv_at hl 0 rfl) ?_
    refine z_get (v := .ref (za w 1)) (k := 0) G hH.1 (mM0 hw) vc10 inU10 0 (by decide) u767 rfl dX10_wearer_20 ?_
    refine lv_iconst (v := (2 : Int32)) G.x G.b dX10_wearer_23 (by decide) ?_
    refine z_iald (k := 1) G hH.1 (mM1 hw) (by decide : zix (2 : Int32) 59 = some 2) dX10_wearer_24 ?_
    refine lv_bipush (v := (6 : Int32)) G.x G.b dX10_wearer_25 (by decide) ?_
    refine lv_icmp_ne (tgt := 39) G.x G.b dX10_wearer_27 (by decide) (fun c3 => ?_) (fun c3 => ?_)
    · have h := z_ifn c3 h
      refine lv_aload_n G.x G.b dX10_wearer_39 rfl (lv_at hl 0 rfl) ?_
      refine lv_iload_n G.x G.b dX10_wearer_40 rfl (lv_at hl 1 rfl) ?_
      obtain ⟨x4, M5, eM5, h⟩ := z_b2 h
      refine z_aftI (z_runV (k := 0) (As := [.int a1]) (rest := []) G hH hl.1 (kX10_addsWearer l hw eM5) (mM0 hw) vc10 arX10_addsWearer u956 u958 us32 u11 u959 rfl rfl rfl (Nat.le_of_ble_eq_true rfl) (Nat.le_of_ble_eq_true rfl) rfl (Nat.le_of_ble_eq_true rfl) dX10_wearer_41) hH (fun H locs hH => ?_)
      exact z_retI G hr hlk hH h dX10_wearer_44
    · have h := z_if c3 h
      refine lv_aload_n G.x G.b dX10_wearer_30 rfl (lv_at hl 0 rfl) ?_
      refine lv_ldc G.x G.b G.o (G.t u904) dX10_wearer_31 ?_
      obtain ⟨x6, M7, eM7, h⟩ := z_b2 h
      refine z_aftI (z_runV (k := 0) (As := [.int (-1000000002 : Int32)]) (rest := []) G hH hl.1 (kX10_finds l hw eM7) (mM0 hw) vc10 arX10_finds u834 u836 us16 u11 u837 rfl rfl rfl (Nat.le_of_ble_eq_true rfl) (Nat.le_of_ble_eq_true rfl) rfl (Nat.le_of_ble_eq_true rfl) dX10_wearer_33) hH (fun H locs hH => ?_)
      refine lv_goto (tgt := 44) G.x G.b dX10_wearer_36 (by decide) ?_
      exact z_retI G hr hlk hH h dX10_wearer_44
  · have h := z_if c2 h
    refine lv_aload_n G.x G.b dX10_wearer_12 rfl (lv_at hl 0 rfl) ?_
    refine lv_ldc G.x G.b G.o (G.t u833) dX10_wearer_13 ?_
    obtain ⟨x8, M9, eM9, h⟩ := z_b2 h
    refine z_aftI (z_runV (k := 0) (As := [.int (-1000000001 : Int32)]) (rest := []) G hH hl.1 (kX10_finds l hw eM9) (mM0 hw) vc10 arX10_finds u834 u836 us16 u11 u837 rfl rfl rfl (Nat.le_of_ble_eq_true rfl) (Nat.le_of_ble_eq_true rfl) rfl (Nat.le_of_ble_eq_true rfl) dX10_wearer_15) hH (fun H locs hH => ?_)
    exact z_retI G hr hlk hH h dX10_wearer_18
def fX10_wearerOf (M0 : zM) (a1 : Int32) (a2 : Int32) : Option (Int32 × zM) :=
  (fX10_isWearer M0 a1).bind fun x1 =>
  if x1 = (0 : Int32) then (zb2 (fX10_finds M0 (-1000000001 : Int32)) fun x3 M4 =>
  some (x3, M4)) else ((fX10_in a2.toInt64 (0 : Int64) (3 : Int64)).bind fun x5 =>
  if x5 = (0 : Int32) then (zb2 (fX10_finds M0 (-1000000001 : Int32)) fun x12 M13 =>
  some (x12, M13)) else (if (1 : Int32) < a2 then (if a2 = (2 : Int32) then ((fX10_wornBy M0 a1).bind fun x10 =>
  some (x10, M0)) else ((fX10_placeOf M0 a1).bind fun x9 =>
  some (x9, M0))) else ((fX10_theirs M0 a1 a2).bind fun x11 =>
  some (x11, M0))))
abbrev rX10_wearerOf : Room := { frames := 3, cells := 0, slots := 0, locals := 66 }
theorem arX10_wearerOf : zAr yX10_wearerOf RX10 2 := ⟨rfl, by decide, by decide, by decide +kernel⟩
set_option maxHeartbeats 4000000 in
theorem kX10_wearerOf (l : Launch) {w : zWd} (hw : zIsM w) {M0 M' : zM} {a1 : Int32} {a2 : Int32} {r : Int32} (h : fX10_wearerOf M0 a1 a2 = some (r, M')) : Met l yX10_wearerOf (Cond.code yX10_wearerOf cX10_wearerOf 3 (some .int) :: zU) rX10_wearerOf (zPre w M0 [.ref (za w 0), .int a1, .int a2]) (zQ w (some (.int r)) M') 0 0 (zA w) := by
  refine z_metN (own := RX10) (lv := [(0, .ref (za w 0)), (1, .int a1), (2, .int a2)]) hw.1 (by decide) (Nat.le_of_ble_eq_true rfl) rfl rfl ?_
  intro p e s m args below meth c G hr hlk hH ls hl
  unfold fX10_wearerOf at h
  refine lv_aload_n G.x G.b dX10_wearerOf_0 rfl (lv_at hl 0 rfl) ?_
  refine lv_iload_n G.x G.b dX10_wearerOf_1 rfl (lv_at hl 1 rfl) ?_
  obtain ⟨x1, ex1, h⟩ := z_bind h
  refine z_rdI (z_runV (k := 0) (As := [.int a1]) (rest := []) G hH hl.1 (kX10_isWearer l hw ex1) (mM0 hw) vc10 arX10_isWearer u964 u966 us33 u11 u967 rfl rfl rfl (Nat.le_of_ble_eq_true rfl) (Nat.le_of_ble_eq_true rfl) rfl (Nat.le_of_ble_eq_true rfl) dX10_wearerOf_2) ?_
  refine lv_if_eq (tgt := 20) G.x G.b dX10_wearerOf_5 (by decide) (fun c2 => ?_) (fun c2 => ?_)
  · have h := z_if c2 h
    refine lv_aload_n G.x G.b dX10_wearerOf_20 rfl (lv_at hl 0 rfl) ?_
    refine lv_ldc G.x G.b G.o (G.t u833) dX10_wearerOf_21 ?_
    obtain ⟨x3, M4, eM4, h⟩ := z_b2 h
    refine z_aftI (z_runV (k := 0) (As := [.int (-1000000001 : Int32)]) (rest := []) G hH hl.1 (kX10_finds l hw eM4) (mM0 hw) vc10 arX10_finds u834 u836 us16 u11 u837 rfl rfl rfl (Nat.le_of_ble_eq_true rfl) (Nat.le_of_ble_eq_true rfl) rfl (Nat.le_of_ble_eq_true rfl) dX10_wearerOf_23) hH (fun H locs hH => ?_)
    exact z_retI G hr hlk hH h dX10_wearerOf_26
  · have h := z_ifn c2 h
    refine lv_iload_n G.x G.b dX10_wearerOf_8 rfl (lv_at hl 2 rfl) ?_
    refine lv_i2l (v := a2.toInt64) G.x G.b dX10_wearerOf_9 rfl ?_
    refine lv_lconst (v := (0 : Int64)) G.x G.b dX10_wearerOf_10 (by decide) ?_
    refine lv_ldc2 G.x G.b G.o (G.t u968) dX10_wearerOf_11 ?_
    obtain ⟨x5, ex5, h⟩ := z_bind h
    refine z_rdI (z_runS (As := [.long a2.toInt64, .long (0 : Int64), .long (3 : Int64)]) (rest := []) G hH hl.1 (kX10_in l hw.1 ex5) arX10_in u824 u825 u11 u826 rfl rfl rfl (Nat.le_of_ble_eq_true rfl) (Nat.le_of_ble_eq_true rfl) rfl (Nat.le_of_ble_eq_true rfl) dX10_wearerOf_14) ?_
    refine lv_if_ne (tgt := 27) G.x G.b dX10_wearerOf_17 (by decide) (fun c6 => ?_) (fun c6 => ?_)
    · have h := z_ifn c6 h
      refine lv_iload_n G.x G.b dX10_wearerOf_27 rfl (lv_at hl 2 rfl) ?_
      refine lv_iconst (v := (1 : Int32)) G.x G.b dX10_wearerOf_28 (by decide) ?_
      refine lv_icmp_gt (tgt := 41) G.x G.b dX10_wearerOf_29 (by decide) (fun c7 => ?_) (fun c7 => ?_)
      · have h := z_if c7 h
        refine lv_iload_n G.x G.b dX10_wearerOf_41 rfl (lv_at hl 2 rfl) ?_
        refine lv_iconst (v := (2 : Int32)) G.x G.b dX10_wearerOf_42 (by decide) ?_
        refine lv_icmp_ne (tgt := 54) G.x G.b dX10_wearerOf_43 (by decide) (fun c8 => ?_) (fun c8 => ?_)
        · have h := z_ifn c8 h
          refine lv_aload_n G.x G.b dX10_wearerOf_54 rfl (lv_at hl 0 rfl) ?_
          refine lv_iload_n G.x G.b dX10_wearerOf_55 rfl (lv_at hl 1 rfl) ?_
          obtain ⟨x9, ex9, h⟩ := z_bind h
          refine z_rdI (z_runV (k := 0) (As := [.int a1]) (rest := []) G hH hl.1 (kX10_placeOf l hw ex9) (mM0 hw) vc10 arX10_placeOf u859 u861 us20 u11 u862 rfl rfl rfl (Nat.le_of_ble_eq_true rfl) (Nat.le_of_ble_eq_true rfl) rfl (Nat.le_of_ble_eq_true rfl) dX10_wearerOf_56) ?_
          exact z_retI G hr hlk hH h dX10_wearerOf_59
        · have h := z_if c8 h
          refine lv_aload_n G.x G.b dX10_wearerOf_46 rfl (lv_at hl 0 rfl) ?_
          refine lv_iload_n G.x G.b dX10_wearerOf_47 rfl (lv_at hl 1 rfl) ?_
          obtain ⟨x10, ex10, h⟩ := z_bind h
          refine z_rdI (z_runV (k := 0) (As := [.int a1]) (rest := []) G hH hl.1 (kX10_wornBy l hw ex10) (mM0 hw) vc10 arX10_wornBy u969 u971 us34 u11 u972 rfl rfl rfl (Nat.le_of_ble_eq_true rfl) (Nat.le_of_ble_eq_true rfl) rfl (Nat.le_of_ble_eq_true rfl) dX10_wearerOf_48) ?_
          refine lv_goto (tgt := 59) G.x G.b dX10_wearerOf_51 (by decide) ?_
          exact z_retI G hr hlk hH h dX10_wearerOf_59
      · have h := z_ifn c7 h
        refine lv_aload_n G.x G.b dX10_wearerOf_32 rfl (lv_at hl 0 rfl) ?_
        refine lv_iload_n G.x G.b dX10_wearerOf_33 rfl (lv_at hl 1 rfl) ?_
        refine lv_iload_n G.x G.b dX10_wearerOf_34 rfl (lv_at hl 2 rfl) ?_
        obtain ⟨x11, ex11, h⟩ := z_bind h
        refine z_rdI (z_runV (k := 0) (As := [.int a1, .int a2]) (rest := []) G hH hl.1 (kX10_theirs l hw ex11) (mM0 hw) vc10 arX10_theirs u863 u865 us21 u11 u866 rfl rfl rfl (Nat.le_of_ble_eq_true rfl) (Nat.le_of_ble_eq_true rfl) rfl (Nat.le_of_ble_eq_true rfl) dX10_wearerOf_35) ?_
        refine lv_goto (tgt := 59) G.x G.b dX10_wearerOf_38 (by decide) ?_
        exact z_retI G hr hlk hH h dX10_wearerOf_59
    · have h := z_if c6 h
      refine lv_aload_n G.x G.b dX10_wearerOf_20 rfl (lv_at hl 0 rfl) ?_
      refine lv_ldc G.x G.b G.o (G.t u833) dX10_wearerOf_21 ?_
      obtain ⟨x12, M13, eM13, h⟩ := z_b2 h
      refine z_aftI (z_runV (k := 0) (As := [.int (-1000000001 : Int32)]) (rest := []) G hH hl.1 (kX10_finds l hw eM13) (mM0 hw) vc10 arX10_finds u834 u836 us16 u11 u837 rfl rfl rfl (Nat.le_of_ble_eq_true rfl) (Nat.le_of_ble_eq_true rfl) rfl (Nat.le_of_ble_eq_true rfl) dX10_wearerOf_23) hH (fun H locs hH => ?_)
      exact z_retI G hr hlk hH h dX10_wearerOf_26
def fX10_give (M0 : zM) (a1 : Int32) (a2 : Int32) (a3 : Int32) : Option (Int32 × zM) :=
  (fX10_in a2.toInt64 (0 : Int64) (1 : Int64)).bind fun x1 =>
  zj (fun (x2 : Int32) =>
  (fX10_isWearer M0 a1).bind fun x4 =>
  if x4 = (0 : Int32) then (zb2 (fX10_finds M0 (-1000000001 : Int32)) fun x6 M7 =>
  some (x6, M7)) else (if x2 = (0 : Int32) then (zb2 (fX10_finds M0 (-1000000001 : Int32)) fun x9 M10 =>
  some (x9, M10)) else ((fX10_wearerSpot a1 a2).bind fun x11 =>
  zb2 (fX10_becomes M0 x11 a3) fun x12 M13 =>
  some (x12, M13)))) fun J37_3 =>
  zj (J37_3 (0 : Int32)) fun J36_14 =>
  if x1 = (0 : Int32) then (J36_14) else (zj (fun (y16 : Int64) =>
  (fX10_in a3.toInt64 (0 : Int64) y16).bind fun x18 =>
  if x18 = (0 : Int32) then (J36_14) else (J37_3 (1 : Int32))) fun J26_17 =>
  if a2 = (0 : Int32) then (J26_17 (9999 : Int64)) else (J26_17 (5 : Int64)))
abbrev rX10_give : Room := { frames := 2, cells := 0, slots := 0, locals := 46 }
theorem arX10_give : zAr yX10_give RX10 3 := ⟨rfl, by decide, by decide, by decide +kernel⟩
set_option maxHeartbeats 4000000 in
theorem kX10_give (l : Launch) {w : zWd} (hw : zIsM w) {M0 M' : zM} {a1 : Int32} {a2 : Int32} {a3 : Int32} {r : Int32} (h : fX10_give M0 a1 a2 a3 = some (r, M')) : Met l yX10_give (Cond.code yX10_give cX10_give 5 (some .int) :: zU) rX10_give (zPre w M0 [.ref (za w 0), .int a1, .int a2, .int a3]) (zQ w (some (.int r)) M') 0 0 (zA w) := by
  refine z_metN (own := RX10) (lv := [(0, .ref (za w 0)), (1, .int a1), (2, .int a2), (3, .int a3)]) hw.1 (by decide) (Nat.le_of_ble_eq_true rfl) rfl rfl ?_
  intro p e s m args below meth c G hr hlk hH ls hl
  unfold fX10_give at h
  refine lv_iload_n G.x G.b dX10_give_0 rfl (lv_at hl 2 rfl) ?_
  refine lv_i2l (v := a2.toInt64) G.x G.b dX10_give_1 rfl ?_
  refine lv_lconst (v := (0 : Int64)) G.x G.b dX10_give_2 (by decide) ?_
  refine lv_lconst (v := (1 : Int64)) G.x G.b dX10_give_3 (by decide) ?_
  obtain ⟨x1, ex1, h⟩ := z_bind h
  refine z_rdI (z_runS (As := [.long a2.toInt64, .long (0 : Int64), .long (1 : Int64)]) (rest := []) G hH hl.1 (kX10_in l hw.1 ex1) arX10_in u824 u825 u11 u826 rfl rfl rfl (Nat.le_of_ble_eq_true rfl) (Nat.le_of_ble_eq_true rfl) rfl (Nat.le_of_ble_eq_true rfl) dX10_give_4) ?_
  obtain ⟨J37_3, hJ37_3, h⟩ := z_j h
  have kJ37_3 : ∀ (x2 : Int32) (ls : Array Slot), J37_3 x2 = some (r, M') → lv_has ls 5 [(0, .ref (za w 0)), (1, .int a1), (2, .int a2), (3, .int a3)] → zGo p l e rX10_give s m args below meth c (zQ w (some (.int r)) M') (zA w) s.heap [] (F0 m 37 ls [.int x2]) := by
    intro x2 ls h hl
    rw [hJ37_3] at h
    refine lv_istore (lv' := [(4, .int x2), (0, .ref (za w 0)), (1, .int a1), (2, .int a2), (3, .int a3)]) G.x G.b dX10_give_37 hl (Nat.le_of_ble_eq_true rfl) rfl (fun ls hl => ?_)
    refine lv_aload_n G.x G.b dX10_give_39 rfl (lv_at hl 1 rfl) ?_
    refine lv_iload_n G.x G.b dX10_give_40 rfl (lv_at hl 2 rfl) ?_
    obtain ⟨x4, ex4, h⟩ := z_bind h
    refine z_rdI (z_runV (k := 0) (As := [.int a1]) (rest := []) G hH hl.1 (kX10_isWearer l hw ex4) (mM0 hw) vc10 arX10_isWearer u964 u966 us33 u11 u967 rfl rfl rfl (Nat.le_of_ble_eq_true rfl) (Nat.le_of_ble_eq_true rfl) rfl (Nat.le_of_ble_eq_true rfl) dX10_give_41) ?_
    refine lv_if_eq (tgt := 65) G.x G.b dX10_give_44 (by decide) (fun c5 => ?_) (fun c5 => ?_)
    · have h := z_if c5 h
      refine lv_aload_n G.x G.b dX10_give_65 rfl (lv_at hl 1 rfl) ?_
      refine lv_ldc G.x G.b G.o (G.t u833) dX10_give_66 ?_
      obtain ⟨x6, M7, eM7, h⟩ := z_b2 h
      refine z_aftI (z_runV (k := 0) (As := [.int (-1000000001 : Int32)]) (rest := []) G hH hl.1 (kX10_finds l hw eM7) (mM0 hw) vc10 arX10_finds u834 u836 us16 u11 u837 rfl rfl rfl (Nat.le_of_ble_eq_true rfl) (Nat.le_of_ble_eq_true rfl) rfl (Nat.le_of_ble_eq_true rfl) dX10_give_68) hH (fun H locs hH => ?_)
      exact z_retI G hr hlk hH h dX10_give_71
    · have h := z_ifn c5 h
      refine lv_iload G.x G.b dX10_give_47 (lv_at hl 0 rfl) ?_
      refine lv_if_eq (tgt := 65) G.x G.b dX10_give_49 (by decide) (fun c8 => ?_) (fun c8 => ?_)
      · have h := z_if c8 h
        refine lv_aload_n G.x G.b dX10_give_65 rfl (lv_at hl 1 rfl) ?_
        refine lv_ldc G.x G.b G.o (G.t u833) dX10_give_66 ?_
        obtain ⟨x9, M10, eM10, h⟩ := z_b2 h
        refine z_aftI (z_runV (k := 0) (As := [.int (-1000000001 : Int32)]) (rest := []) G hH hl.1 (kX10_finds l hw eM10) (mM0 hw) vc10 arX10_finds u834 u836 us16 u11 u837 rfl rfl rfl (Nat.le_of_ble_eq_true rfl) (Nat.le_of_ble_eq_true rfl) rfl (Nat.le_of_ble_eq_true rfl) dX10_give_68) hH (fun H locs hH => ?_)
        exact z_retI G hr hlk hH h dX10_give_71
      · have h := z_ifn c8 h
        refine lv_aload_n G.x G.b dX10_give_52 rfl (lv_at hl 1 rfl) ?_
        refine lv_iload_n G.x G.b dX10_give_53 rfl (lv_at hl 2 rfl) ?_
        refine lv_iload_n G.x G.b dX10_give_54 rfl (lv_at hl 3 rfl) ?_
        obtain ⟨x11, ex11, h⟩ := z_bind h
        refine z_rdI (z_runS (As := [.int a1, .int a2]) (rest := [.ref (za w 0)]) G hH hl.1 (kX10_wearerSpot l hw.1 ex11) arX10_wearerSpot u867 u868 u11 u869 rfl rfl rfl (Nat.le_of_ble_eq_true rfl) (Nat.le_of_ble_eq_true rfl) rfl (Nat.le_of_ble_eq_true rfl) dX10_give_55) ?_
        refine lv_iload_n G.x G.b dX10_give_58 rfl (lv_at hl 4 rfl) ?_
        obtain ⟨x12, M13, eM13, h⟩ := z_b2 h
        refine z_aftI (z_runV (k := 0) (As := [.int x11, .int a3]) (rest := []) G hH hl.1 (kX10_becomes l hw eM13) (mM0 hw) vc10 arX10_becomes u829 u831 us15 u11 u832 rfl rfl rfl (Nat.le_of_ble_eq_true rfl) (Nat.le_of_ble_eq_true rfl) rfl (Nat.le_of_ble_eq_true rfl) dX10_give_59) hH (fun H locs hH => ?_)
        refine lv_goto (tgt := 71) G.x G.b dX10_give_62 (by decide) ?_
        exact z_retI G hr hlk hH h dX10_give_71
  obtain ⟨J36_14, hJ36_14, h⟩ := z_j h
  have kJ36_14 : ∀ (ls : Array Slot), J36_14 = some (r, M') → lv_has ls 5 [(0, .ref (za w 0)), (1, .int a1), (2, .int a2), (3, .int a3)] → zGo p l e rX10_give s m args below meth c (zQ w (some (.int r)) M') (zA w) s.heap [] (F0 m 36 ls []) := by
    intro ls h hl
    rw [hJ36_14] at h
    refine lv_iconst (v := (0 : Int32)) G.x G.b dX10_give_36 (by decide) ?_
    exact kJ37_3 (0 : Int32) ls h (lv_sub hl [0, 1, 2, 3] rfl)
  refine lv_if_eq (tgt := 36) G.x G.b dX10_give_7 (by decide) (fun c15 => ?_) (fun c15 => ?_)
  · have h := z_if c15 h
    exact kJ36_14 ls h (lv_sub hl [0, 1, 2, 3] rfl)
  · have h := z_ifn c15 h
    refine lv_iload_n G.x G.b dX10_give_10 rfl (lv_at hl 3 rfl) ?_
    refine lv_i2l (v := a3.toInt64) G.x G.b dX10_give_11 rfl ?_
    refine lv_lconst (v := (0 : Int64)) G.x G.b dX10_give_12 (by decide) ?_
    refine lv_iload_n G.x G.b dX10_give_13 rfl (lv_at hl 2 rfl) ?_
    obtain ⟨J26_17, hJ26_17, h⟩ := z_j h
    have kJ26_17 : ∀ (y16 : Int64) (ls : Array Slot), J26_17 y16 = some (r, M') → lv_has ls 5 [(0, .ref (za w 0)), (1, .int a1), (2, .int a2), (3, .int a3)] → zGo p l e rX10_give s m args below meth c (zQ w (some (.int r)) M') (zA w) s.heap [] (F0 m 26 ls [.long y16, .long (0 : Int64), .long a3.toInt64]) := by
      intro y16 ls h hl
      rw [hJ26_17] at h
      obtain ⟨x18, ex18, h⟩ := z_bind h
      refine z_rdI (z_runS (As := [.long a3.toInt64, .long (0 : Int64), .long y16]) (rest := []) G hH hl.1 (kX10_in l hw.1 ex18) arX10_in u824 u825 u11 u826 rfl rfl rfl (Nat.le_of_ble_eq_true rfl) (Nat.le_of_ble_eq_true rfl) rfl (Nat.le_of_ble_eq_true rfl) dX10_give_26) ?_
      refine lv_if_eq (tgt := 36) G.x G.b dX10_give_29 (by decide) (fun c19 => ?_) (fun c19 => ?_)
      · have h := z_if c19 h
        exact kJ36_14 ls h (lv_sub hl [0, 1, 2, 3] rfl)
      · have h := z_ifn c19 h
        refine lv_iconst (v := (1 : Int32)) G.x G.b dX10_give_32 (by decide) ?_
        refine lv_goto (tgt := 37) G.x G.b dX10_give_33 (by decide) ?_
        exact kJ37_3 (1 : Int32) ls h (lv_sub hl [0, 1, 2, 3] rfl)
    refine lv_if_ne (tgt := 23) G.x G.b dX10_give_14 (by decide) (fun c20 => ?_) (fun c20 => ?_)
    · have h := z_ifn c20 h
      refine lv_ldc2 G.x G.b G.o (G.t u823) dX10_give_23 ?_
      exact kJ26_17 (5 : Int64) ls h (lv_sub hl [0, 1, 2, 3] rfl)
    · have h := z_if c20 h
      refine lv_ldc2 G.x G.b G.o (G.t u955) dX10_give_17 ?_
      refine lv_goto (tgt := 26) G.x G.b dX10_give_20 (by decide) ?_
      exact kJ26_17 (9999 : Int64) ls h (lv_sub hl [0, 1, 2, 3] rfl)
def fX10_hire (M0 : zM) (a1 : Int32) (a2 : Int32) : Option (Int32 × zM) :=
  (fX10_isWearer M0 a1).bind fun x1 =>
  if x1 = (0 : Int32) then (zb2 (fX10_finds M0 (-1000000001 : Int32)) fun x3 M4 =>
  some (x3, M4)) else ((fX10_isBeard M0 a2).bind fun x5 =>
  if x5 = (0 : Int32) then (zb2 (fX10_finds M0 (-1000000001 : Int32)) fun x19 M20 =>
  some (x19, M20)) else ((fX10_wornBy M0 a1).bind fun x7 =>
  if x7 = (-1 : Int32) then ((fX10_its M0 a2 (3 : Int32)).bind fun x11 =>
  if x11 = (-1 : Int32) then ((fX10_beardSpot a2 (3 : Int32)).bind fun x13 =>
  (zix x13 59).bind fun j14 =>
  (some (zst M0 1 j14 a1)).bind fun M15 =>
  (fX10_costsOf M15 a2).bind fun x16 =>
  some (x16, M15)) else (zb2 (fX10_finds M0 (-1000000005 : Int32)) fun x17 M18 =>
  some (x17, M18))) else (zb2 (fX10_finds M0 (-1000000005 : Int32)) fun x9 M10 =>
  some (x9, M10))))
abbrev rX10_hire : Room := { frames := 3, cells := 0, slots := 0, locals := 66 }
theorem arX10_hire : zAr yX10_hire RX10 2 := ⟨rfl, by decide, by decide, by decide +kernel⟩
set_option maxHeartbeats 4000000 in
theorem kX10_hire (l : Launch) {w : zWd} (hw : zIsM w) {M0 M' : zM} {a1 : Int32} {a2 : Int32} {r : Int32} (h : fX10_hire M0 a1 a2 = some (r, M')) : Met l yX10_hire (Cond.code yX10_hire cX10_hire 3 (some .int) :: zU) rX10_hire (zPre w M0 [.ref (za w 0), .int a1, .int a2]) (zQ w (some (.int r)) M') 0 0 (zA w) := by
  refine z_metN (own := RX10) (lv := [(0, .ref (za w 0)), (1, .int a1), (2, .int a2)]) hw.1 (by decide) (Nat.le_of_ble_eq_true rfl) rfl rfl ?_
  intro p e s m args below meth c G hr hlk hH ls hl
  unfold fX10_hire at h
  refine lv_aload_n G.x G.b dX10_hire_0 rfl (lv_at hl 0 rfl) ?_
  refine lv_iload_n G.x G.b dX10_hire_1 rfl (lv_at hl 1 rfl) ?_
  obtain ⟨x1, ex1, h⟩ := z_bind h
  refine z_rdI (z_runV (k := 0) (As := [.int a1]) (rest := []) G hH hl.1 (kX10_isWearer l hw ex1) (mM0 hw) vc10 arX10_isWearer u964 u966 us33 u11 u967 rfl rfl rfl (Nat.le_of_ble_eq_true rfl) (Nat.le_of_ble_eq_true rfl) rfl (Nat.le_of_ble_eq_true rfl) dX10_hire_2) ?_
  refine lv_if_eq (tgt := 16) G.x G.b dX10_hire_5 (by decide) (fun c2 => ?_) (fun c2 => ?_)
  · have h := z_if c2 h
    refine lv_aload_n G.x G.b dX10_hire_16 rfl (lv_at hl 0 rfl) ?_
    refine lv_ldc G.x G.b G.o (G.t u833) dX10_hire_17 ?_
    obtain ⟨x3, M4, eM4, h⟩ := z_b2 h
    refine z_aftI (z_runV (k := 0) (As := [.int (-1000000001 : Int32)]) (rest := []) G hH hl.1 (kX10_finds l hw eM4) (mM0 hw) vc10 arX10_finds u834 u836 us16 u11 u837 rfl rfl rfl (Nat.le_of_ble_eq_true rfl) (Nat.le_of_ble_eq_true rfl) rfl (Nat.le_of_ble_eq_true rfl) dX10_hire_19) hH (fun H locs hH => ?_)
    exact z_retI G hr hlk hH h dX10_hire_22
  · have h := z_ifn c2 h
    refine lv_aload_n G.x G.b dX10_hire_8 rfl (lv_at hl 0 rfl) ?_
    refine lv_iload_n G.x G.b dX10_hire_9 rfl (lv_at hl 2 rfl) ?_
    obtain ⟨x5, ex5, h⟩ := z_bind h
    refine z_rdI (z_runV (k := 0) (As := [.int a2]) (rest := []) G hH hl.1 (kX10_isBeard l hw ex5) (mM0 hw) vc10 arX10_isBeard u842 u844 us17 u11 u845 rfl rfl rfl (Nat.le_of_ble_eq_true rfl) (Nat.le_of_ble_eq_true rfl) rfl (Nat.le_of_ble_eq_true rfl) dX10_hire_10) ?_
    refine lv_if_ne (tgt := 23) G.x G.b dX10_hire_13 (by decide) (fun c6 => ?_) (fun c6 => ?_)
    · have h := z_ifn c6 h
      refine lv_aload_n G.x G.b dX10_hire_23 rfl (lv_at hl 0 rfl) ?_
      refine lv_iload_n G.x G.b dX10_hire_24 rfl (lv_at hl 1 rfl) ?_
      obtain ⟨x7, ex7, h⟩ := z_bind h
      refine z_rdI (z_runV (k := 0) (As := [.int a1]) (rest := []) G hH hl.1 (kX10_wornBy l hw ex7) (mM0 hw) vc10 arX10_wornBy u969 u971 us34 u11 u972 rfl rfl rfl (Nat.le_of_ble_eq_true rfl) (Nat.le_of_ble_eq_true rfl) rfl (Nat.le_of_ble_eq_true rfl) dX10_hire_25) ?_
      refine lv_iconst (v := (-1 : Int32)) G.x G.b dX10_hire_28 (by decide) ?_
      refine lv_icmp_ne (tgt := 42) G.x G.b dX10_hire_29 (by decide) (fun c8 => ?_) (fun c8 => ?_)
      · have h := z_ifn c8 h
        refine lv_aload_n G.x G.b dX10_hire_42 rfl (lv_at hl 0 rfl) ?_
        refine lv_ldc G.x G.b G.o (G.t u981) dX10_hire_43 ?_
        obtain ⟨x9, M10, eM10, h⟩ := z_b2 h
        refine z_aftI (z_runV (k := 0) (As := [.int (-1000000005 : Int32)]) (rest := []) G hH hl.1 (kX10_finds l hw eM10) (mM0 hw) vc10 arX10_finds u834 u836 us16 u11 u837 rfl rfl rfl (Nat.le_of_ble_eq_true rfl) (Nat.le_of_ble_eq_true rfl) rfl (Nat.le_of_ble_eq_true rfl) dX10_hire_45) hH (fun H locs hH => ?_)
        exact z_retI G hr hlk hH h dX10_hire_48
      · have h := z_if c8 h
        refine lv_aload_n G.x G.b dX10_hire_32 rfl (lv_at hl 0 rfl) ?_
        refine lv_iload_n G.x G.b dX10_hire_33 rfl (lv_at hl 2 rfl) ?_
        refine lv_iconst (v := (3 : Int32)) G.x G.b dX10_hire_34 (by decide) ?_
        obtain ⟨x11, ex11, h⟩ := z_bind h
        refine z_rdI (z_runV (k := 0) (As := [.int a2, .int (3 : Int32)]) (rest := []) G hH hl.1 (kX10_its l hw ex11) (mM0 hw) vc10 arX10_its u882 u884 us24 u11 u885 rfl rfl rfl (Nat.le_of_ble_eq_true rfl) (Nat.le_of_ble_eq_true rfl) rfl (Nat.le_of_ble_eq_true rfl) dX10_hire_35) ?_
        refine lv_iconst (v := (-1 : Int32)) G.x G.b dX10_hire_38 (by decide) ?_
        refine lv_icmp_eq (tgt := 49) G.x G.b dX10_hire_39 (by decide) (fun c12 => ?_) (fun c12 => ?_)
        · have h := z_if c12 h
          refine lv_aload_n G.x G.b dX10_hire_49 rfl (lv_at hl 0 rfl) ?_
          refine z_get (v := .ref (za w 1)) (k := 0) G hH.1 (mM0 hw) vc10 inU10 0 (by decide) u767 rfl dX10_hire_50 ?_
          refine lv_iload_n G.x G.b dX10_hire_53 rfl (lv_at hl 2 rfl) ?_
          refine lv_iconst (v := (3 : Int32)) G.x G.b dX10_hire_54 (by decide) ?_
          obtain ⟨x13, ex13, h⟩ := z_bind h
          refine z_rdI (z_runS (As := [.int a2, .int (3 : Int32)]) (rest := [.ref (za w 1)]) G hH hl.1 (kX10_beardSpot l hw.1 ex13) arX10_beardSpot u886 u887 u11 u888 rfl rfl rfl (Nat.le_of_ble_eq_true rfl) (Nat.le_of_ble_eq_true rfl) rfl (Nat.le_of_ble_eq_true rfl) dX10_hire_55) ?_
          refine lv_iload_n G.x G.b dX10_hire_58 rfl (lv_at hl 1 rfl) ?_
          obtain ⟨j14, ej14, h⟩ := z_bind h
          obtain ⟨M15, eM15, h⟩ := z_let h
          refine z_iastN (k := 1) G hH (mM1 hw) ej14 dX10_hire_59 eM15 (fun H locs hH => ?_)
          refine lv_aload_n G.x G.b dX10_hire_60 rfl (lv_at hl 0 rfl) ?_
          refine lv_iload_n G.x G.b dX10_hire_61 rfl (lv_at hl 2 rfl) ?_
          obtain ⟨x16, ex16, h⟩ := z_bind h
          refine z_rdI (z_runV (k := 0) (As := [.int a2]) (rest := []) G hH hl.1 (kX10_costsOf l hw ex16) (mM0 hw) vc10 arX10_costsOf u913 u915 us28 u11 u916 rfl rfl rfl (Nat.le_of_ble_eq_true rfl) (Nat.le_of_ble_eq_true rfl) rfl (Nat.le_of_ble_eq_true rfl) dX10_hire_62) ?_
          exact z_retI G hr hlk hH h dX10_hire_65
        · have h := z_ifn c12 h
          refine lv_aload_n G.x G.b dX10_hire_42 rfl (lv_at hl 0 rfl) ?_
          refine lv_ldc G.x G.b G.o (G.t u981) dX10_hire_43 ?_
          obtain ⟨x17, M18, eM18, h⟩ := z_b2 h
          refine z_aftI (z_runV (k := 0) (As := [.int (-1000000005 : Int32)]) (rest := []) G hH hl.1 (kX10_finds l hw eM18) (mM0 hw) vc10 arX10_finds u834 u836 us16 u11 u837 rfl rfl rfl (Nat.le_of_ble_eq_true rfl) (Nat.le_of_ble_eq_true rfl) rfl (Nat.le_of_ble_eq_true rfl) dX10_hire_45) hH (fun H locs hH => ?_)
          exact z_retI G hr hlk hH h dX10_hire_48
    · have h := z_if c6 h
      refine lv_aload_n G.x G.b dX10_hire_16 rfl (lv_at hl 0 rfl) ?_
      refine lv_ldc G.x G.b G.o (G.t u833) dX10_hire_17 ?_
      obtain ⟨x19, M20, eM20, h⟩ := z_b2 h
      refine z_aftI (z_runV (k := 0) (As := [.int (-1000000001 : Int32)]) (rest := []) G hH hl.1 (kX10_finds l hw eM20) (mM0 hw) vc10 arX10_finds u834 u836 us16 u11 u837 rfl rfl rfl (Nat.le_of_ble_eq_true rfl) (Nat.le_of_ble_eq_true rfl) rfl (Nat.le_of_ble_eq_true rfl) dX10_hire_19) hH (fun H locs hH => ?_)
      exact z_retI G hr hlk hH h dX10_hire_22
def fX10_back (M0 : zM) (a1 : Int32) : Option (Int32 × zM) :=
  (fX10_isBeard M0 a1).bind fun x1 =>
  if x1 = (0 : Int32) then (zb2 (fX10_finds M0 (-1000000001 : Int32)) fun x10 M11 =>
  some (x10, M11)) else ((fX10_its M0 a1 (3 : Int32)).bind fun x3 =>
  if x3 = (-1 : Int32) then (zb2 (fX10_finds M0 (-1000000005 : Int32)) fun x8 M9 =>
  some (x8, M9)) else ((fX10_beardSpot a1 (3 : Int32)).bind fun x5 =>
  zb2 (fX10_becomes M0 x5 (-1 : Int32)) fun x6 M7 =>
  some (x6, M7)))
abbrev rX10_back : Room := { frames := 2, cells := 0, slots := 0, locals := 46 }
theorem arX10_back : zAr yX10_back RX10 1 := ⟨rfl, by decide, by decide, by decide +kernel⟩
set_option maxHeartbeats 4000000 in
theorem kX10_back (l : Launch) {w : zWd} (hw : zIsM w) {M0 M' : zM} {a1 : Int32} {r : Int32} (h : fX10_back M0 a1 = some (r, M')) : Met l yX10_back (Cond.code yX10_back cX10_back 2 (some .int) :: zU) rX10_back (zPre w M0 [.ref (za w 0), .int a1]) (zQ w (some (.int r)) M') 0 0 (zA w) := by
  refine z_metN (own := RX10) (lv := [(0, .ref (za w 0)), (1, .int a1)]) hw.1 (by decide) (Nat.le_of_ble_eq_true rfl) rfl rfl ?_
  intro p e s m args below meth c G hr hlk hH ls hl
  unfold fX10_back at h
  refine lv_aload_n G.x G.b dX10_back_0 rfl (lv_at hl 0 rfl) ?_
  refine lv_iload_n G.x G.b dX10_back_1 rfl (lv_at hl 1 rfl) ?_
  obtain ⟨x1, ex1, h⟩ := z_bind h
  refine z_rdI (z_runV (k := 0) (As := [.int a1]) (rest := []) G hH hl.1 (kX10_isBeard l hw ex1) (mM0 hw) vc10 arX10_isBeard u842 u844 us17 u11 u845 rfl rfl rfl (Nat.le_of_ble_eq_true rfl) (Nat.le_of_ble_eq_true rfl) rfl (Nat.le_of_ble_eq_true rfl) dX10_back_2) ?_
  refine lv_if_ne (tgt := 15) G.x G.b dX10_back_5 (by decide) (fun c2 => ?_) (fun c2 => ?_)
  · have h := z_ifn c2 h
    refine lv_aload_n G.x G.b dX10_back_15 rfl (lv_at hl 0 rfl) ?_
    refine lv_iload_n G.x G.b dX10_back_16 rfl (lv_at hl 1 rfl) ?_
    refine lv_iconst (v := (3 : Int32)) G.x G.b dX10_back_17 (by decide) ?_
    obtain ⟨x3, ex3, h⟩ := z_bind h
    refine z_rdI (z_runV (k := 0) (As := [.int a1, .int (3 : Int32)]) (rest := []) G hH hl.1 (kX10_its l hw ex3) (mM0 hw) vc10 arX10_its u882 u884 us24 u11 u885 rfl rfl rfl (Nat.le_of_ble_eq_true rfl) (Nat.le_of_ble_eq_true rfl) rfl (Nat.le_of_ble_eq_true rfl) dX10_back_18) ?_
    refine lv_iconst (v := (-1 : Int32)) G.x G.b dX10_back_21 (by decide) ?_
    refine lv_icmp_ne (tgt := 34) G.x G.b dX10_back_22 (by decide) (fun c4 => ?_) (fun c4 => ?_)
    · have h := z_ifn c4 h
      refine lv_aload_n G.x G.b dX10_back_34 rfl (lv_at hl 0 rfl) ?_
      refine lv_iload_n G.x G.b dX10_back_35 rfl (lv_at hl 1 rfl) ?_
      refine lv_iconst (v := (3 : Int32)) G.x G.b dX10_back_36 (by decide) ?_
      obtain ⟨x5, ex5, h⟩ := z_bind h
      refine z_rdI (z_runS (As := [.int a1, .int (3 : Int32)]) (rest := [.ref (za w 0)]) G hH hl.1 (kX10_beardSpot l hw.1 ex5) arX10_beardSpot u886 u887 u11 u888 rfl rfl rfl (Nat.le_of_ble_eq_true rfl) (Nat.le_of_ble_eq_true rfl) rfl (Nat.le_of_ble_eq_true rfl) dX10_back_37) ?_
      refine lv_iconst (v := (-1 : Int32)) G.x G.b dX10_back_40 (by decide) ?_
      obtain ⟨x6, M7, eM7, h⟩ := z_b2 h
      refine z_aftI (z_runV (k := 0) (As := [.int x5, .int (-1 : Int32)]) (rest := []) G hH hl.1 (kX10_becomes l hw eM7) (mM0 hw) vc10 arX10_becomes u829 u831 us15 u11 u832 rfl rfl rfl (Nat.le_of_ble_eq_true rfl) (Nat.le_of_ble_eq_true rfl) rfl (Nat.le_of_ble_eq_true rfl) dX10_back_41) hH (fun H locs hH => ?_)
      exact z_retI G hr hlk hH h dX10_back_44
    · have h := z_if c4 h
      refine lv_aload_n G.x G.b dX10_back_25 rfl (lv_at hl 0 rfl) ?_
      refine lv_ldc G.x G.b G.o (G.t u981) dX10_back_26 ?_
      obtain ⟨x8, M9, eM9, h⟩ := z_b2 h
      refine z_aftI (z_runV (k := 0) (As := [.int (-1000000005 : Int32)]) (rest := []) G hH hl.1 (kX10_finds l hw eM9) (mM0 hw) vc10 arX10_finds u834 u836 us16 u11 u837 rfl rfl rfl (Nat.le_of_ble_eq_true rfl) (Nat.le_of_ble_eq_true rfl) rfl (Nat.le_of_ble_eq_true rfl) dX10_back_28) hH (fun H locs hH => ?_)
      refine lv_goto (tgt := 44) G.x G.b dX10_back_31 (by decide) ?_
      exact z_retI G hr hlk hH h dX10_back_44
  · have h := z_if c2 h
    refine lv_aload_n G.x G.b dX10_back_8 rfl (lv_at hl 0 rfl) ?_
    refine lv_ldc G.x G.b G.o (G.t u833) dX10_back_9 ?_
    obtain ⟨x10, M11, eM11, h⟩ := z_b2 h
    refine z_aftI (z_runV (k := 0) (As := [.int (-1000000001 : Int32)]) (rest := []) G hH hl.1 (kX10_finds l hw eM11) (mM0 hw) vc10 arX10_finds u834 u836 us16 u11 u837 rfl rfl rfl (Nat.le_of_ble_eq_true rfl) (Nat.le_of_ble_eq_true rfl) rfl (Nat.le_of_ble_eq_true rfl) dX10_back_11) hH (fun H locs hH => ?_)
    exact z_retI G hr hlk hH h dX10_back_14
def fX10_goesOut (M0 : zM) (a1 : Int32) (a2 : Int32) : Option zM :=
  (fX10_placeOf M0 a1).bind fun x1 =>
  (fX10_meetsOf M0 a2 x1).bind fun x2 =>
  (fX10_leavesOf M0 a2).bind fun x3 =>
  (fX10_gainsOf M0 a2).bind fun x4 =>
  (fX10_wearerSpot a1 (0 : Int32)).bind fun x5 =>
  (fX10_theirs M0 a1 (0 : Int32)).bind fun x6 =>
  (fX10_held (x6 + x2) (0 : Int32) (9999 : Int32)).bind fun x7 =>
  (zix x5 59).bind fun j8 =>
  (some (zst M0 1 j8 x7)).bind fun M9 =>
  (fX10_beardSpot a2 (2 : Int32)).bind fun x10 =>
  (fX10_its M9 a2 (2 : Int32)).bind fun x11 =>
  zj (fun (x12 : Int32) =>
  (fX10_held (x11 + x12) (0 : Int32) (999 : Int32)).bind fun x14 =>
  (zix x10 59).bind fun j15 =>
  (some (zst M9 1 j15 x14)).bind fun M16 =>
  (fX10_houseSpot x1 (1 : Int32)).bind fun x17 =>
  (fX10_house M16 x1 (1 : Int32)).bind fun x18 =>
  (fX10_held (x18 + x3) (-50 : Int32) (50 : Int32)).bind fun x19 =>
  (zix x17 59).bind fun j20 =>
  (some (zst M16 1 j20 x19)).bind fun M21 =>
  (fX10_houseSpot x1 (0 : Int32)).bind fun x22 =>
  (zix x22 59).bind fun j23 =>
  (some (zst M21 1 j23 a2)).bind fun M24 =>
  (fX10_beardSpot a2 (1 : Int32)).bind fun x25 =>
  (fX10_its M24 a2 (1 : Int32)).bind fun x26 =>
  (fX10_held (x26 + x4) (0 : Int32) (99 : Int32)).bind fun x27 =>
  (zix x25 59).bind fun j28 =>
  (some (zst M24 1 j28 x27)).bind fun M29 =>
  some M29) fun J79_13 =>
  if x2 ≤ (0 : Int32) then (J79_13 (1 : Int32)) else (J79_13 (3 : Int32))
abbrev rX10_goesOut : Room := { frames := 3, cells := 0, slots := 0, locals := 69 }
theorem arX10_goesOut : zAr yX10_goesOut RX10 2 := ⟨rfl, by decide, by decide, by decide +kernel⟩
set_option maxHeartbeats 4000000 in
theorem kX10_goesOut (l : Launch) {w : zWd} (hw : zIsM w) {M0 M' : zM} {a1 : Int32} {a2 : Int32} (h : fX10_goesOut M0 a1 a2 = some M') : Met l yX10_goesOut (Cond.code yX10_goesOut cX10_goesOut 7 (none) :: zU) rX10_goesOut (zPre w M0 [.ref (za w 0), .int a1, .int a2]) (zQ w (none) M') 0 0 (zA w) := by
  refine z_metN (own := RX10) (lv := [(0, .ref (za w 0)), (1, .int a1), (2, .int a2)]) hw.1 (by decide) (Nat.le_of_ble_eq_true rfl) rfl rfl ?_
  intro p e s m args below meth c G hr hlk hH ls hl
  unfold fX10_goesOut at h
  refine lv_aload_n G.x G.b dX10_goesOut_0 rfl (lv_at hl 0 rfl) ?_
  refine lv_iload_n G.x G.b dX10_goesOut_1 rfl (lv_at hl 1 rfl) ?_
  obtain ⟨x1, ex1, h⟩ := z_bind h
  refine z_rdI (z_runV (k := 0) (As := [.int a1]) (rest := []) G hH hl.1 (kX10_placeOf l hw ex1) (mM0 hw) vc10 arX10_placeOf u859 u861 us20 u11 u862 rfl rfl rfl (Nat.le_of_ble_eq_true rfl) (Nat.le_of_ble_eq_true rfl) rfl (Nat.le_of_ble_eq_true rfl) dX10_goesOut_2) ?_
  refine lv_istore_n (lv' := [(3, .int x1), (0, .ref (za w 0)), (1, .int a1), (2, .int a2)]) G.x G.b dX10_goesOut_5 rfl hl (Nat.le_of_ble_eq_true rfl) rfl (fun ls hl => ?_)
  refine lv_aload_n G.x G.b dX10_goesOut_6 rfl (lv_at hl 1 rfl) ?_
  refine lv_iload_n G.x G.b dX10_goesOut_7 rfl (lv_at hl 3 rfl) ?_
  refine lv_iload_n G.x G.b dX10_goesOut_8 rfl (lv_at hl 0 rfl) ?_
  obtain ⟨x2, ex2, h⟩ := z_bind h
  refine z_rdI (z_runV (k := 0) (As := [.int a2, .int x1]) (rest := []) G hH hl.1 (kX10_meetsOf l hw ex2) (mM0 hw) vc10 arX10_meetsOf u925 u927 us30 u11 u928 rfl rfl rfl (Nat.le_of_ble_eq_true rfl) (Nat.le_of_ble_eq_true rfl) rfl (Nat.le_of_ble_eq_true rfl) dX10_goesOut_9) ?_
  refine lv_istore (lv' := [(4, .int x2), (3, .int x1), (0, .ref (za w 0)), (1, .int a1), (2, .int a2)]) G.x G.b dX10_goesOut_12 hl (Nat.le_of_ble_eq_true rfl) rfl (fun ls hl => ?_)
  refine lv_aload_n G.x G.b dX10_goesOut_14 rfl (lv_at hl 2 rfl) ?_
  refine lv_iload_n G.x G.b dX10_goesOut_15 rfl (lv_at hl 4 rfl) ?_
  obtain ⟨x3, ex3, h⟩ := z_bind h
  refine z_rdI (z_runV (k := 0) (As := [.int a2]) (rest := []) G hH hl.1 (kX10_leavesOf l hw ex3) (mM0 hw) vc10 arX10_leavesOf u929 u931 us31 u11 u932 rfl rfl rfl (Nat.le_of_ble_eq_true rfl) (Nat.le_of_ble_eq_true rfl) rfl (Nat.le_of_ble_eq_true rfl) dX10_goesOut_16) ?_
  refine lv_istore (lv' := [(5, .int x3), (4, .int x2), (3, .int x1), (0, .ref (za w 0)), (1, .int a1), (2, .int a2)]) G.x G.b dX10_goesOut_19 hl (Nat.le_of_ble_eq_true rfl) rfl (fun ls hl => ?_)
  refine lv_aload_n G.x G.b dX10_goesOut_21 rfl (lv_at hl 3 rfl) ?_
  refine lv_iload_n G.x G.b dX10_goesOut_22 rfl (lv_at hl 5 rfl) ?_
  obtain ⟨x4, ex4, h⟩ := z_bind h
  refine z_rdI (z_runV (k := 0) (As := [.int a2]) (rest := []) G hH hl.1 (kX10_gainsOf l hw ex4) (mM0 hw) vc10 arX10_gainsOf u917 u919 us29 u11 u920 rfl rfl rfl (Nat.le_of_ble_eq_true rfl) (Nat.le_of_ble_eq_true rfl) rfl (Nat.le_of_ble_eq_true rfl) dX10_goesOut_23) ?_
  refine lv_istore (lv' := [(6, .int x4), (5, .int x3), (4, .int x2), (3, .int x1), (0, .ref (za w 0)), (1, .int a1), (2, .int a2)]) G.x G.b dX10_goesOut_26 hl (Nat.le_of_ble_eq_true rfl) rfl (fun ls hl => ?_)
  refine lv_aload_n G.x G.b dX10_goesOut_28 rfl (lv_at hl 4 rfl) ?_
  refine z_get (v := .ref (za w 1)) (k := 0) G hH.1 (mM0 hw) vc10 inU10 0 (by decide) u767 rfl dX10_goesOut_29 ?_
  refine lv_iload_n G.x G.b dX10_goesOut_32 rfl (lv_at hl 5 rfl) ?_
  refine lv_iconst (v := (0 : Int32)) G.x G.b dX10_goesOut_33 (by decide) ?_
  obtain ⟨x5, ex5, h⟩ := z_bind h
  refine z_rdI (z_runS (As := [.int a1, .int (0 : Int32)]) (rest := [.ref (za w 1)]) G hH hl.1 (kX10_wearerSpot l hw.1 ex5) arX10_wearerSpot u867 u868 u11 u869 rfl rfl rfl (Nat.le_of_ble_eq_true rfl) (Nat.le_of_ble_eq_true rfl) rfl (Nat.le_of_ble_eq_true rfl) dX10_goesOut_34) ?_
  refine lv_aload_n G.x G.b dX10_goesOut_37 rfl (lv_at hl 4 rfl) ?_
  refine lv_iload_n G.x G.b dX10_goesOut_38 rfl (lv_at hl 5 rfl) ?_
  refine lv_iconst (v := (0 : Int32)) G.x G.b dX10_goesOut_39 (by decide) ?_
  obtain ⟨x6, ex6, h⟩ := z_bind h
  refine z_rdI (z_runV (k := 0) (As := [.int a1, .int (0 : Int32)]) (rest := [.int x5, .ref (za w 1)]) G hH hl.1 (kX10_theirs l hw ex6) (mM0 hw) vc10 arX10_theirs u863 u865 us21 u11 u866 rfl rfl rfl (Nat.le_of_ble_eq_true rfl) (Nat.le_of_ble_eq_true rfl) rfl (Nat.le_of_ble_eq_true rfl) dX10_goesOut_40) ?_
  refine lv_iload G.x G.b dX10_goesOut_43 (lv_at hl 2 rfl) ?_
  refine lv_iadd G.x G.b dX10_goesOut_45 ?_
  refine lv_iconst (v := (0 : Int32)) G.x G.b dX10_goesOut_46 (by decide) ?_
  refine lv_sipush (v := (9999 : Int32)) G.x G.b dX10_goesOut_47 (by decide) ?_
  obtain ⟨x7, ex7, h⟩ := z_bind h
  refine z_rdI (z_runS (As := [.int (x6 + x2), .int (0 : Int32), .int (9999 : Int32)]) (rest := [.int x5, .ref (za w 1)]) G hH hl.1 (kX10_held l hw.1 ex7) arX10_held u1008 u1009 u11 u1010 rfl rfl rfl (Nat.le_of_ble_eq_true rfl) (Nat.le_of_ble_eq_true rfl) rfl (Nat.le_of_ble_eq_true rfl) dX10_goesOut_50) ?_
  obtain ⟨j8, ej8, h⟩ := z_bind h
  obtain ⟨M9, eM9, h⟩ := z_let h
  refine z_iastN (k := 1) G hH (mM1 hw) ej8 dX10_goesOut_53 eM9 (fun H locs hH => ?_)
  refine lv_aload_n G.x G.b dX10_goesOut_54 rfl (lv_at hl 4 rfl) ?_
  refine z_get (v := .ref (za w 1)) (k := 0) G hH.1 (mM0 hw) vc10 inU10 0 (by decide) u767 rfl dX10_goesOut_55 ?_
  refine lv_iload_n G.x G.b dX10_goesOut_58 rfl (lv_at hl 6 rfl) ?_
  refine lv_iconst (v := (2 : Int32)) G.x G.b dX10_goesOut_59 (by decide) ?_
  obtain ⟨x10, ex10, h⟩ := z_bind h
  refine z_rdI (z_runS (As := [.int a2, .int (2 : Int32)]) (rest := [.ref (za w 1)]) G hH hl.1 (kX10_beardSpot l hw.1 ex10) arX10_beardSpot u886 u887 u11 u888 rfl rfl rfl (Nat.le_of_ble_eq_true rfl) (Nat.le_of_ble_eq_true rfl) rfl (Nat.le_of_ble_eq_true rfl) dX10_goesOut_60) ?_
  refine lv_aload_n G.x G.b dX10_goesOut_63 rfl (lv_at hl 4 rfl) ?_
  refine lv_iload_n G.x G.b dX10_goesOut_64 rfl (lv_at hl 6 rfl) ?_
  refine lv_iconst (v := (2 : Int32)) G.x G.b dX10_goesOut_65 (by decide) ?_
  obtain ⟨x11, ex11, h⟩ := z_bind h
  refine z_rdI (z_runV (k := 0) (As := [.int a2, .int (2 : Int32)]) (rest := [.int x10, .ref (za w 1)]) G hH hl.1 (kX10_its l hw ex11) (mM0 hw) vc10 arX10_its u882 u884 us24 u11 u885 rfl rfl rfl (Nat.le_of_ble_eq_true rfl) (Nat.le_of_ble_eq_true rfl) rfl (Nat.le_of_ble_eq_true rfl) dX10_goesOut_66) ?_
  refine lv_iload G.x G.b dX10_goesOut_69 (lv_at hl 2 rfl) ?_
  obtain ⟨J79_13, hJ79_13, h⟩ := z_j h
  have kJ79_13 : ∀ (x12 : Int32) (ls : Array Slot), J79_13 x12 = some M' → lv_has ls 7 [(0, .ref (za w 0)), (2, .int a2), (3, .int x1), (5, .int x3), (6, .int x4)] → zGo p l e rX10_goesOut s m args below meth c (zQ w (none) M') (zA w) H locs (F0 m 79 ls [.int x12, .int x11, .int x10, .ref (za w 1)]) := by
    intro x12 ls h hl
    rw [hJ79_13] at h
    refine lv_iadd G.x G.b dX10_goesOut_79 ?_
    refine lv_iconst (v := (0 : Int32)) G.x G.b dX10_goesOut_80 (by decide) ?_
    refine lv_sipush (v := (999 : Int32)) G.x G.b dX10_goesOut_81 (by decide) ?_
    obtain ⟨x14, ex14, h⟩ := z_bind h
    refine z_rdI (z_runS (As := [.int (x11 + x12), .int (0 : Int32), .int (999 : Int32)]) (rest := [.int x10, .ref (za w 1)]) G hH hl.1 (kX10_held l hw.1 ex14) arX10_held u1008 u1009 u11 u1010 rfl rfl rfl (Nat.le_of_ble_eq_true rfl) (Nat.le_of_ble_eq_true rfl) rfl (Nat.le_of_ble_eq_true rfl) dX10_goesOut_84) ?_
    obtain ⟨j15, ej15, h⟩ := z_bind h
    obtain ⟨M16, eM16, h⟩ := z_let h
    refine z_iastN (k := 1) G hH (mM1 hw) ej15 dX10_goesOut_87 eM16 (fun H locs hH => ?_)
    refine lv_aload_n G.x G.b dX10_goesOut_88 rfl (lv_at hl 0 rfl) ?_
    refine z_get (v := .ref (za w 1)) (k := 0) G hH.1 (mM0 hw) vc10 inU10 0 (by decide) u767 rfl dX10_goesOut_89 ?_
    refine lv_iload_n G.x G.b dX10_goesOut_92 rfl (lv_at hl 2 rfl) ?_
    refine lv_iconst (v := (1 : Int32)) G.x G.b dX10_goesOut_93 (by decide) ?_
    obtain ⟨x17, ex17, h⟩ := z_bind h
    refine z_rdI (z_runS (As := [.int x1, .int (1 : Int32)]) (rest := [.ref (za w 1)]) G hH hl.1 (kX10_houseSpot l hw.1 ex17) arX10_houseSpot u764 u765 u11 u766 rfl rfl rfl (Nat.le_of_ble_eq_true rfl) (Nat.le_of_ble_eq_true rfl) rfl (Nat.le_of_ble_eq_true rfl) dX10_goesOut_94) ?_
    refine lv_aload_n G.x G.b dX10_goesOut_97 rfl (lv_at hl 0 rfl) ?_
    refine lv_iload_n G.x G.b dX10_goesOut_98 rfl (lv_at hl 2 rfl) ?_
    refine lv_iconst (v := (1 : Int32)) G.x G.b dX10_goesOut_99 (by decide) ?_
    obtain ⟨x18, ex18, h⟩ := z_bind h
    refine z_rdI (z_runV (k := 0) (As := [.int x1, .int (1 : Int32)]) (rest := [.int x17, .ref (za w 1)]) G hH hl.1 (kX10_house l hw ex18) (mM0 hw) vc10 arX10_house u851 u853 us18 u11 u854 rfl rfl rfl (Nat.le_of_ble_eq_true rfl) (Nat.le_of_ble_eq_true rfl) rfl (Nat.le_of_ble_eq_true rfl) dX10_goesOut_100) ?_
    refine lv_iload G.x G.b dX10_goesOut_103 (lv_at hl 3 rfl) ?_
    refine lv_iadd G.x G.b dX10_goesOut_105 ?_
    refine lv_bipush (v := (-50 : Int32)) G.x G.b dX10_goesOut_106 (by decide) ?_
    refine lv_bipush (v := (50 : Int32)) G.x G.b dX10_goesOut_108 (by decide) ?_
    obtain ⟨x19, ex19, h⟩ := z_bind h
    refine z_rdI (z_runS (As := [.int (x18 + x3), .int (-50 : Int32), .int (50 : Int32)]) (rest := [.int x17, .ref (za w 1)]) G hH hl.1 (kX10_held l hw.1 ex19) arX10_held u1008 u1009 u11 u1010 rfl rfl rfl (Nat.le_of_ble_eq_true rfl) (Nat.le_of_ble_eq_true rfl) rfl (Nat.le_of_ble_eq_true rfl) dX10_goesOut_110) ?_
    obtain ⟨j20, ej20, h⟩ := z_bind h
    obtain ⟨M21, eM21, h⟩ := z_let h
    refine z_iastN (k := 1) G hH (mM1 hw) ej20 dX10_goesOut_113 eM21 (fun H locs hH => ?_)
    refine lv_aload_n G.x G.b dX10_goesOut_114 rfl (lv_at hl 0 rfl) ?_
    refine z_get (v := .ref (za w 1)) (k := 0) G hH.1 (mM0 hw) vc10 inU10 0 (by decide) u767 rfl dX10_goesOut_115 ?_
    refine lv_iload_n G.x G.b dX10_goesOut_118 rfl (lv_at hl 2 rfl) ?_
    refine lv_iconst (v := (0 : Int32)) G.x G.b dX10_goesOut_119 (by decide) ?_
    obtain ⟨x22, ex22, h⟩ := z_bind h
    refine z_rdI (z_runS (As := [.int x1, .int (0 : Int32)]) (rest := [.ref (za w 1)]) G hH hl.1 (kX10_houseSpot l hw.1 ex22) arX10_houseSpot u764 u765 u11 u766 rfl rfl rfl (Nat.le_of_ble_eq_true rfl) (Nat.le_of_ble_eq_true rfl) rfl (Nat.le_of_ble_eq_true rfl) dX10_goesOut_120) ?_
    refine lv_iload_n G.x G.b dX10_goesOut_123 rfl (lv_at hl 1 rfl) ?_
    obtain ⟨j23, ej23, h⟩ := z_bind h
    obtain ⟨M24, eM24, h⟩ := z_let h
    refine z_iastN (k := 1) G hH (mM1 hw) ej23 dX10_goesOut_124 eM24 (fun H locs hH => ?_)
    refine lv_aload_n G.x G.b dX10_goesOut_125 rfl (lv_at hl 0 rfl) ?_
    refine z_get (v := .ref (za w 1)) (k := 0) G hH.1 (mM0 hw) vc10 inU10 0 (by decide) u767 rfl dX10_goesOut_126 ?_
    refine lv_iload_n G.x G.b dX10_goesOut_129 rfl (lv_at hl 1 rfl) ?_
    refine lv_iconst (v := (1 : Int32)) G.x G.b dX10_goesOut_130 (by decide) ?_
    obtain ⟨x25, ex25, h⟩ := z_bind h
    refine z_rdI (z_runS (As := [.int a2, .int (1 : Int32)]) (rest := [.ref (za w 1)]) G hH hl.1 (kX10_beardSpot l hw.1 ex25) arX10_beardSpot u886 u887 u11 u888 rfl rfl rfl (Nat.le_of_ble_eq_true rfl) (Nat.le_of_ble_eq_true rfl) rfl (Nat.le_of_ble_eq_true rfl) dX10_goesOut_131) ?_
    refine lv_aload_n G.x G.b dX10_goesOut_134 rfl (lv_at hl 0 rfl) ?_
    refine lv_iload_n G.x G.b dX10_goesOut_135 rfl (lv_at hl 1 rfl) ?_
    refine lv_iconst (v := (1 : Int32)) G.x G.b dX10_goesOut_136 (by decide) ?_
    obtain ⟨x26, ex26, h⟩ := z_bind h
    refine z_rdI (z_runV (k := 0) (As := [.int a2, .int (1 : Int32)]) (rest := [.int x25, .ref (za w 1)]) G hH hl.1 (kX10_its l hw ex26) (mM0 hw) vc10 arX10_its u882 u884 us24 u11 u885 rfl rfl rfl (Nat.le_of_ble_eq_true rfl) (Nat.le_of_ble_eq_true rfl) rfl (Nat.le_of_ble_eq_true rfl) dX10_goesOut_137) ?_
    refine lv_iload G.x G.b dX10_goesOut_140 (lv_at hl 4 rfl) ?_
    refine lv_iadd G.x G.b dX10_goesOut_142 ?_
    refine lv_iconst (v := (0 : Int32)) G.x G.b dX10_goesOut_143 (by decide) ?_
    refine lv_bipush (v := (99 : Int32)) G.x G.b dX10_goesOut_144 (by decide) ?_
    obtain ⟨x27, ex27, h⟩ := z_bind h
    refine z_rdI (z_runS (As := [.int (x26 + x4), .int (0 : Int32), .int (99 : Int32)]) (rest := [.int x25, .ref (za w 1)]) G hH hl.1 (kX10_held l hw.1 ex27) arX10_held u1008 u1009 u11 u1010 rfl rfl rfl (Nat.le_of_ble_eq_true rfl) (Nat.le_of_ble_eq_true rfl) rfl (Nat.le_of_ble_eq_true rfl) dX10_goesOut_146) ?_
    obtain ⟨j28, ej28, h⟩ := z_bind h
    obtain ⟨M29, eM29, h⟩ := z_let h
    refine z_iastN (k := 1) G hH (mM1 hw) ej28 dX10_goesOut_149 eM29 (fun H locs hH => ?_)
    exact z_retV G hr hlk hH h dX10_goesOut_150
  refine lv_if_le (tgt := 78) G.x G.b dX10_goesOut_71 (by decide) (fun c30 => ?_) (fun c30 => ?_)
  · have h := z_if c30 h
    refine lv_iconst (v := (1 : Int32)) G.x G.b dX10_goesOut_78 (by decide) ?_
    exact kJ79_13 (1 : Int32) ls h (lv_sub hl [4, 6, 3, 1, 0] rfl)
  · have h := z_ifn c30 h
    refine lv_iconst (v := (3 : Int32)) G.x G.b dX10_goesOut_74 (by decide) ?_
    refine lv_goto (tgt := 79) G.x G.b dX10_goesOut_75 (by decide) ?_
    exact kJ79_13 (3 : Int32) ls h (lv_sub hl [4, 6, 3, 1, 0] rfl)
def fX10_wears (M0 : zM) (a1 : Int32) (a2 : Int32) : Option zM :=
  (fX10_costsOf M0 a2).bind fun x1 =>
  (fX10_theirs M0 a1 (0 : Int32)).bind fun x2 =>
  if x1 ≤ x2 then ((fX10_wearerSpot a1 (0 : Int32)).bind fun x4 =>
  (zix x4 59).bind fun j5 =>
  (zix x4 59).bind fun j6 =>
  (some (zst M0 1 j6 ((M0.1 1 j5) - x1))).bind fun M7 =>
  (fX10_goesOut M7 a1 a2).bind fun M8 =>
  some M8) else ((fX10_beardSpot a2 (3 : Int32)).bind fun x9 =>
  (zix x9 59).bind fun j10 =>
  (some (zst M0 1 j10 (-1 : Int32))).bind fun M11 =>
  some M11)
abbrev rX10_wears : Room := { frames := 4, cells := 0, slots := 0, locals := 95 }
theorem arX10_wears : zAr yX10_wears RX10 2 := ⟨rfl, by decide, by decide, by decide +kernel⟩
set_option maxHeartbeats 4000000 in
theorem kX10_wears (l : Launch) {w : zWd} (hw : zIsM w) {M0 M' : zM} {a1 : Int32} {a2 : Int32} (h : fX10_wears M0 a1 a2 = some M') : Met l yX10_wears (Cond.code yX10_wears cX10_wears 4 (none) :: zU) rX10_wears (zPre w M0 [.ref (za w 0), .int a1, .int a2]) (zQ w (none) M') 0 0 (zA w) := by
  refine z_metN (own := RX10) (lv := [(0, .ref (za w 0)), (1, .int a1), (2, .int a2)]) hw.1 (by decide) (Nat.le_of_ble_eq_true rfl) rfl rfl ?_
  intro p e s m args below meth c G hr hlk hH ls hl
  unfold fX10_wears at h
  refine lv_aload_n G.x G.b dX10_wears_0 rfl (lv_at hl 0 rfl) ?_
  refine lv_iload_n G.x G.b dX10_wears_1 rfl (lv_at hl 2 rfl) ?_
  obtain ⟨x1, ex1, h⟩ := z_bind h
  refine z_rdI (z_runV (k := 0) (As := [.int a2]) (rest := []) G hH hl.1 (kX10_costsOf l hw ex1) (mM0 hw) vc10 arX10_costsOf u913 u915 us28 u11 u916 rfl rfl rfl (Nat.le_of_ble_eq_true rfl) (Nat.le_of_ble_eq_true rfl) rfl (Nat.le_of_ble_eq_true rfl) dX10_wears_2) ?_
  refine lv_istore_n (lv' := [(3, .int x1), (0, .ref (za w 0)), (1, .int a1), (2, .int a2)]) G.x G.b dX10_wears_5 rfl hl (Nat.le_of_ble_eq_true rfl) rfl (fun ls hl => ?_)
  refine lv_aload_n G.x G.b dX10_wears_6 rfl (lv_at hl 1 rfl) ?_
  refine lv_iload_n G.x G.b dX10_wears_7 rfl (lv_at hl 2 rfl) ?_
  refine lv_iconst (v := (0 : Int32)) G.x G.b dX10_wears_8 (by decide) ?_
  obtain ⟨x2, ex2, h⟩ := z_bind h
  refine z_rdI (z_runV (k := 0) (As := [.int a1, .int (0 : Int32)]) (rest := []) G hH hl.1 (kX10_theirs l hw ex2) (mM0 hw) vc10 arX10_theirs u863 u865 us21 u11 u866 rfl rfl rfl (Nat.le_of_ble_eq_true rfl) (Nat.le_of_ble_eq_true rfl) rfl (Nat.le_of_ble_eq_true rfl) dX10_wears_9) ?_
  refine lv_iload_n G.x G.b dX10_wears_12 rfl (lv_at hl 0 rfl) ?_
  refine lv_icmp_ge (tgt := 28) G.x G.b dX10_wears_13 (by decide) (fun c3 => ?_) (fun c3 => ?_)
  · have h := z_if c3 h
    refine lv_aload_n G.x G.b dX10_wears_28 rfl (lv_at hl 1 rfl) ?_
    refine z_get (v := .ref (za w 1)) (k := 0) G hH.1 (mM0 hw) vc10 inU10 0 (by decide) u767 rfl dX10_wears_29 ?_
    refine lv_iload_n G.x G.b dX10_wears_32 rfl (lv_at hl 2 rfl) ?_
    refine lv_iconst (v := (0 : Int32)) G.x G.b dX10_wears_33 (by decide) ?_
    obtain ⟨x4, ex4, h⟩ := z_bind h
    refine z_rdI (z_runS (As := [.int a1, .int (0 : Int32)]) (rest := [.ref (za w 1)]) G hH hl.1 (kX10_wearerSpot l hw.1 ex4) arX10_wearerSpot u867 u868 u11 u869 rfl rfl rfl (Nat.le_of_ble_eq_true rfl) (Nat.le_of_ble_eq_true rfl) rfl (Nat.le_of_ble_eq_true rfl) dX10_wears_34) ?_
    refine lv_dup2_11 G.x G.b dX10_wears_37 rfl rfl ?_
    obtain ⟨j5, ej5, h⟩ := z_bind h
    refine z_iald (k := 1) G hH.1 (mM1 hw) ej5 dX10_wears_38 ?_
    refine lv_iload_n G.x G.b dX10_wears_39 rfl (lv_at hl 0 rfl) ?_
    refine lv_isub G.x G.b dX10_wears_40 ?_
    obtain ⟨j6, ej6, h⟩ := z_bind h
    obtain ⟨M7, eM7, h⟩ := z_let h
    refine z_iastN (k := 1) G hH (mM1 hw) ej6 dX10_wears_41 eM7 (fun H locs hH => ?_)
    refine lv_aload_n G.x G.b dX10_wears_42 rfl (lv_at hl 1 rfl) ?_
    refine lv_iload_n G.x G.b dX10_wears_43 rfl (lv_at hl 2 rfl) ?_
    refine lv_iload_n G.x G.b dX10_wears_44 rfl (lv_at hl 3 rfl) ?_
    obtain ⟨M8, eM8, h⟩ := z_bind h
    refine z_aftV (z_runV (k := 0) (As := [.int a1, .int a2]) (rest := []) G hH hl.1 (kX10_goesOut l hw eM8) (mM0 hw) vc10 arX10_goesOut u1004 u1006 us38 u11 u1007 rfl rfl rfl (Nat.le_of_ble_eq_true rfl) (Nat.le_of_ble_eq_true rfl) rfl (Nat.le_of_ble_eq_true rfl) dX10_wears_45) hH (fun H locs hH => ?_)
    exact z_retV G hr hlk hH h dX10_wears_48
  · have h := z_ifn c3 h
    refine lv_aload_n G.x G.b dX10_wears_16 rfl (lv_at hl 1 rfl) ?_
    refine z_get (v := .ref (za w 1)) (k := 0) G hH.1 (mM0 hw) vc10 inU10 0 (by decide) u767 rfl dX10_wears_17 ?_
    refine lv_iload_n G.x G.b dX10_wears_20 rfl (lv_at hl 3 rfl) ?_
    refine lv_iconst (v := (3 : Int32)) G.x G.b dX10_wears_21 (by decide) ?_
    obtain ⟨x9, ex9, h⟩ := z_bind h
    refine z_rdI (z_runS (As := [.int a2, .int (3 : Int32)]) (rest := [.ref (za w 1)]) G hH hl.1 (kX10_beardSpot l hw.1 ex9) arX10_beardSpot u886 u887 u11 u888 rfl rfl rfl (Nat.le_of_ble_eq_true rfl) (Nat.le_of_ble_eq_true rfl) rfl (Nat.le_of_ble_eq_true rfl) dX10_wears_22) ?_
    refine lv_iconst (v := (-1 : Int32)) G.x G.b dX10_wears_25 (by decide) ?_
    obtain ⟨j10, ej10, h⟩ := z_bind h
    obtain ⟨M11, eM11, h⟩ := z_let h
    refine z_iastN (k := 1) G hH (mM1 hw) ej10 dX10_wears_26 eM11 (fun H locs hH => ?_)
    exact z_retV G hr hlk hH h dX10_wears_27
def bX10_night_37 (E90_4 : zM → Option zM) (rc8 : zM → Int32 → Option zM) (M6 : zM) (x7 : Int32) : Option zM :=
  if (M6.1 1 1) ≤ x7 then (E90_4 M6) else ((fX10_isMonday M6).bind fun x10 =>
  if x10 = (0 : Int32) then (E90_4 M6) else ((fX10_beardSpot x7 (2 : Int32)).bind fun x12 =>
  (fX10_its M6 x7 (3 : Int32)).bind fun x13 =>
  zj (fun (x14 : Int32) =>
  (zix x12 59).bind fun j16 =>
  (some (zst M6 1 j16 x14)).bind fun M17 =>
  (some (x7 + (1 : Int32))).bind fun x18 =>
  rc8 M17 x18) fun J83_15 =>
  if x13 = (-1 : Int32) then (J83_15 (0 : Int32)) else ((fX10_its M6 x7 (2 : Int32)).bind fun x20 =>
  J83_15 x20)))
def lX10_night_37 (E90_4 : zM → Option zM) : Nat → zM → Int32 → Option zM := zL2 (bX10_night_37 E90_4)
def bX10_night_2 (E35_2 : zM → Option zM) (rc23 : zM → Int32 → Option zM) (M21 : zM) (x22 : Int32) : Option zM :=
  if (M21.1 1 2) ≤ x22 then (E35_2 M21) else ((fX10_wornBy M21 x22).bind fun x25 =>
  zj (fun (M26 : zM) =>
  (some (x22 + (1 : Int32))).bind fun x28 =>
  rc23 M26 x28) fun J29_27 =>
  if x25 = (-1 : Int32) then (J29_27 M21) else ((fX10_wears M21 x22 x25).bind fun M30 =>
  J29_27 M30))
def lX10_night_2 (E35_2 : zM → Option zM) : Nat → zM → Int32 → Option zM := zL2 (bX10_night_2 E35_2)
def fX10_night (M0 : zM) : Option zM :=
  zj (fun (M1 : zM) =>
  zj (fun (M3 : zM) =>
  (some (zst M3 1 0 ((M3.1 1 0) + (1 : Int32)))).bind fun M5 =>
  some M5) fun E90_4 =>
  lX10_night_37 E90_4 zFuel M1 (0 : Int32)) fun E35_2 =>
  lX10_night_2 E35_2 zFuel M0 (0 : Int32)
abbrev rX10_night : Room := { frames := 5, cells := 0, slots := 0, locals := 118 }
theorem arX10_night : zAr yX10_night RX10 0 := ⟨rfl, by decide, by decide, by decide +kernel⟩
set_option maxHeartbeats 4000000 in
theorem kX10_night (l : Launch) {w : zWd} (hw : zIsM w) {M0 M' : zM} (h : fX10_night M0 = some M') : Met l yX10_night (Cond.code yX10_night cX10_night 3 (none) :: zU) rX10_night (zPre w M0 [.ref (za w 0)]) (zQ w (none) M') 0 0 (zA w) := by
  refine z_metN (own := RX10) (lv := [(0, .ref (za w 0))]) hw.1 (by decide) (Nat.le_of_ble_eq_true rfl) rfl rfl ?_
  intro p e s m args below meth c G hr hlk hH ls hl
  unfold fX10_night at h
  refine lv_iconst (v := (0 : Int32)) G.x G.b dX10_night_0 (by decide) ?_
  refine lv_istore_n (lv' := [(1, .int (0 : Int32)), (0, .ref (za w 0))]) G.x G.b dX10_night_1 rfl hl (Nat.le_of_ble_eq_true rfl) rfl (fun ls hl => ?_)
  obtain ⟨E35_2, hE35_2, h⟩ := z_j h
  have kE35_2 : ∀ (M1 : zM) (H : Heap) (locs : List Loc) (ls : Array Slot), E35_2 M1 = some M' → zH w s M1 H locs → lv_has ls 3 [(0, .ref (za w 0))] → zGo p l e rX10_night s m args below meth c (zQ w (none) M') (zA w) H locs (F0 m 35 ls []) := by
    intro M1 H locs ls h hH hl
    rw [hE35_2] at h
    refine lv_iconst (v := (0 : Int32)) G.x G.b dX10_night_35 (by decide) ?_
    refine lv_istore_n (lv' := [(1, .int (0 : Int32)), (0, .ref (za w 0))]) G.x G.b dX10_night_36 rfl hl (Nat.le_of_ble_eq_true rfl) rfl (fun ls hl => ?_)
    obtain ⟨E90_4, hE90_4, h⟩ := z_j h
    have kE90_4 : ∀ (M3 : zM) (H : Heap) (locs : List Loc) (ls : Array Slot), E90_4 M3 = some M' → zH w s M3 H locs → lv_has ls 3 [(0, .ref (za w 0))] → zGo p l e rX10_night s m args below meth c (zQ w (none) M') (zA w) H locs (F0 m 90 ls []) := by
      intro M3 H locs ls h hH hl
      rw [hE90_4] at h
      refine lv_aload_n G.x G.b dX10_night_90 rfl (lv_at hl 0 rfl) ?_
      refine z_get (v := .ref (za w 1)) (k := 0) G hH.1 (mM0 hw) vc10 inU10 0 (by decide) u767 rfl dX10_night_91 ?_
      refine lv_iconst (v := (0 : Int32)) G.x G.b dX10_night_94 (by decide) ?_
      refine lv_dup2_11 G.x G.b dX10_night_95 rfl rfl ?_
      refine z_iald (k := 1) G hH.1 (mM1 hw) (by decide : zix (0 : Int32) 59 = some 0) dX10_night_96 ?_
      refine lv_iconst (v := (1 : Int32)) G.x G.b dX10_night_97 (by decide) ?_
      refine lv_iadd G.x G.b dX10_night_98 ?_
      obtain ⟨M5, eM5, h⟩ := z_let h
      refine z_iastN (k := 1) G hH (mM1 hw) (by decide : zix (0 : Int32) 59 = some 0) dX10_night_99 eM5 (fun H locs hH => ?_)
      exact z_retV G hr hlk hH h dX10_night_100
    have n8 : ∀ (n : Nat) (M6 : zM) (x7 : Int32) (H : Heap) (locs : List Loc) (ls : Array Slot), zL2 (bX10_night_37 E90_4) n M6 x7 = some M' → zH w s M6 H locs → lv_has ls 3 [(0, .ref (za w 0)), (1, .int x7)] → zGo p l e rX10_night s m args below meth c (zQ w (none) M') (zA w) H locs (F0 m 37 ls []) := by
      intro n
      induction n with
      | zero => intro M6 x7 H locs ls h; exact (zL2_0 h).elim
      | succ n ih8 =>
        intro M6 x7 H locs ls h hH hl
        obtain ⟨rc8, hrc8, h⟩ := zL2_s h
        rw [← hrc8] at ih8
        unfold bX10_night_37 at h
        refine lv_iload_n G.x G.b dX10_night_37 rfl (lv_at hl 1 rfl) ?_
        refine lv_aload_n G.x G.b dX10_night_38 rfl (lv_at hl 0 rfl) ?_
        refine z_get (v := .ref (za w 1)) (k := 0) G hH.1 (mM0 hw) vc10 inU10 0 (by decide) u767 rfl dX10_night_39 ?_
        refine lv_iconst (v := (1 : Int32)) G.x G.b dX10_night_42 (by decide) ?_
        refine z_iald (k := 1) G hH.1 (mM1 hw) (by decide : zix (1 : Int32) 59 = some 1) dX10_night_43 ?_
        refine lv_icmp_ge (tgt := 90) G.x G.b dX10_night_44 (by decide) (fun c9 => ?_) (fun c9 => ?_)
        · have h := z_if c9 h
          exact kE90_4 M6 H locs ls h hH (lv_sub hl [0] rfl)
        · have h := z_ifn c9 h
          refine lv_aload_n G.x G.b dX10_night_47 rfl (lv_at hl 0 rfl) ?_
          obtain ⟨x10, ex10, h⟩ := z_bind h
          refine z_rdI (z_runV (k := 0) (As := []) (rest := []) G hH hl.1 (kX10_isMonday l hw ex10) (mM0 hw) vc10 arX10_isMonday u874 u876 us22 u11 u877 rfl rfl rfl (Nat.le_of_ble_eq_true rfl) (Nat.le_of_ble_eq_true rfl) rfl (Nat.le_of_ble_eq_true rfl) dX10_night_48) ?_
          refine lv_if_eq (tgt := 90) G.x G.b dX10_night_51 (by decide) (fun c11 => ?_) (fun c11 => ?_)
          · have h := z_if c11 h
            exact kE90_4 M6 H locs ls h hH (lv_sub hl [0] rfl)
          · have h := z_ifn c11 h
            refine lv_aload_n G.x G.b dX10_night_54 rfl (lv_at hl 0 rfl) ?_
            refine z_get (v := .ref (za w 1)) (k := 0) G hH.1 (mM0 hw) vc10 inU10 0 (by decide) u767 rfl dX10_night_55 ?_
            refine lv_iload_n G.x G.b dX10_night_58 rfl (lv_at hl 1 rfl) ?_
            refine lv_iconst (v := (2 : Int32)) G.x G.b dX10_night_59 (by decide) ?_
            obtain ⟨x12, ex12, h⟩ := z_bind h
            refine z_rdI (z_runS (As := [.int x7, .int (2 : Int32)]) (rest := [.ref (za w 1)]) G hH hl.1 (kX10_beardSpot l hw.1 ex12) arX10_beardSpot u886 u887 u11 u888 rfl rfl rfl (Nat.le_of_ble_eq_true rfl) (Nat.le_of_ble_eq_true rfl) rfl (Nat.le_of_ble_eq_true rfl) dX10_night_60) ?_
            refine lv_aload_n G.x G.b dX10_night_63 rfl (lv_at hl 0 rfl) ?_
            refine lv_iload_n G.x G.b dX10_night_64 rfl (lv_at hl 1 rfl) ?_
            refine lv_iconst (v := (3 : Int32)) G.x G.b dX10_night_65 (by decide) ?_
            obtain ⟨x13, ex13, h⟩ := z_bind h
            refine z_rdI (z_runV (k := 0) (As := [.int x7, .int (3 : Int32)]) (rest := [.int x12, .ref (za w 1)]) G hH hl.1 (kX10_its l hw ex13) (mM0 hw) vc10 arX10_its u882 u884 us24 u11 u885 rfl rfl rfl (Nat.le_of_ble_eq_true rfl) (Nat.le_of_ble_eq_true rfl) rfl (Nat.le_of_ble_eq_true rfl) dX10_night_66) ?_
            refine lv_iconst (v := (-1 : Int32)) G.x G.b dX10_night_69 (by decide) ?_
            obtain ⟨J83_15, hJ83_15, h⟩ := z_j h
            have kJ83_15 : ∀ (x14 : Int32) (ls : Array Slot), J83_15 x14 = some M' → lv_has ls 3 [(0, .ref (za w 0)), (1, .int x7)] → zGo p l e rX10_night s m args below meth c (zQ w (none) M') (zA w) H locs (F0 m 83 ls [.int x14, .int x12, .ref (za w 1)]) := by
              intro x14 ls h hl
              rw [hJ83_15] at h
              obtain ⟨j16, ej16, h⟩ := z_bind h
              obtain ⟨M17, eM17, h⟩ := z_let h
              refine z_iastN (k := 1) G hH (mM1 hw) ej16 dX10_night_83 eM17 (fun H locs hH => ?_)
              obtain ⟨x18, ex18, h⟩ := z_let h
              refine lv_iinc (v := x18) (lv' := [(1, .int x18), (0, .ref (za w 0))]) G.x G.b dX10_night_84 hl (k := 1) rfl (by rw [ex18]; rfl) (Nat.le_of_ble_eq_true rfl) rfl (fun ls hl => ?_)
              refine lv_goto (tgt := 37) G.x G.b dX10_night_87 (by decide) ?_
              exact ih8 M17 x18 H locs ls h hH (lv_sub hl [1, 0] rfl)
            refine lv_icmp_ne (tgt := 77) G.x G.b dX10_night_70 (by decide) (fun c19 => ?_) (fun c19 => ?_)
            · have h := z_ifn c19 h
              refine lv_aload_n G.x G.b dX10_night_77 rfl (lv_at hl 0 rfl) ?_
              refine lv_iload_n G.x G.b dX10_night_78 rfl (lv_at hl 1 rfl) ?_
              refine lv_iconst (v := (2 : Int32)) G.x G.b dX10_night_79 (by decide) ?_
              obtain ⟨x20, ex20, h⟩ := z_bind h
              refine z_rdI (z_runV (k := 0) (As := [.int x7, .int (2 : Int32)]) (rest := [.int x12, .ref (za w 1)]) G hH hl.1 (kX10_its l hw ex20) (mM0 hw) vc10 arX10_its u882 u884 us24 u11 u885 rfl rfl rfl (Nat.le_of_ble_eq_true rfl) (Nat.le_of_ble_eq_true rfl) rfl (Nat.le_of_ble_eq_true rfl) dX10_night_80) ?_
              exact kJ83_15 x20 ls h (lv_sub hl [0, 1] rfl)
            · have h := z_if c19 h
              refine lv_iconst (v := (0 : Int32)) G.x G.b dX10_night_73 (by decide) ?_
              refine lv_goto (tgt := 83) G.x G.b dX10_night_74 (by decide) ?_
              exact kJ83_15 (0 : Int32) ls h (lv_sub hl [0, 1] rfl)
    exact n8 zFuel M1 (0 : Int32) H locs ls h hH (lv_sub hl [1, 0] rfl)
  have n23 : ∀ (n : Nat) (M21 : zM) (x22 : Int32) (H : Heap) (locs : List Loc) (ls : Array Slot), zL2 (bX10_night_2 E35_2) n M21 x22 = some M' → zH w s M21 H locs → lv_has ls 3 [(0, .ref (za w 0)), (1, .int x22)] → zGo p l e rX10_night s m args below meth c (zQ w (none) M') (zA w) H locs (F0 m 2 ls []) := by
    intro n
    induction n with
    | zero => intro M21 x22 H locs ls h; exact (zL2_0 h).elim
    | succ n ih23 =>
      intro M21 x22 H locs ls h hH hl
      obtain ⟨rc23, hrc23, h⟩ := zL2_s h
      rw [← hrc23] at ih23
      unfold bX10_night_2 at h
      refine lv_iload_n G.x G.b dX10_night_2 rfl (lv_at hl 1 rfl) ?_
      refine lv_aload_n G.x G.b dX10_night_3 rfl (lv_at hl 0 rfl) ?_
      refine z_get (v := .ref (za w 1)) (k := 0) G hH.1 (mM0 hw) vc10 inU10 0 (by decide) u767 rfl dX10_night_4 ?_
      refine lv_iconst (v := (2 : Int32)) G.x G.b dX10_night_7 (by decide) ?_
      refine z_iald (k := 1) G hH.1 (mM1 hw) (by decide : zix (2 : Int32) 59 = some 2) dX10_night_8 ?_
      refine lv_icmp_ge (tgt := 35) G.x G.b dX10_night_9 (by decide) (fun c24 => ?_) (fun c24 => ?_)
      · have h := z_if c24 h
        exact kE35_2 M21 H locs ls h hH (lv_sub hl [0] rfl)
      · have h := z_ifn c24 h
        refine lv_aload_n G.x G.b dX10_night_12 rfl (lv_at hl 0 rfl) ?_
        refine lv_iload_n G.x G.b dX10_night_13 rfl (lv_at hl 1 rfl) ?_
        obtain ⟨x25, ex25, h⟩ := z_bind h
        refine z_rdI (z_runV (k := 0) (As := [.int x22]) (rest := []) G hH hl.1 (kX10_wornBy l hw ex25) (mM0 hw) vc10 arX10_wornBy u969 u971 us34 u11 u972 rfl rfl rfl (Nat.le_of_ble_eq_true rfl) (Nat.le_of_ble_eq_true rfl) rfl (Nat.le_of_ble_eq_true rfl) dX10_night_14) ?_
        refine lv_istore_n (lv' := [(2, .int x25), (0, .ref (za w 0)), (1, .int x22)]) G.x G.b dX10_night_17 rfl hl (Nat.le_of_ble_eq_true rfl) rfl (fun ls hl => ?_)
        refine lv_iload_n G.x G.b dX10_night_18 rfl (lv_at hl 0 rfl) ?_
        refine lv_iconst (v := (-1 : Int32)) G.x G.b dX10_night_19 (by decide) ?_
        obtain ⟨J29_27, hJ29_27, h⟩ := z_j h
        have kJ29_27 : ∀ (M26 : zM) (H : Heap) (locs : List Loc) (ls : Array Slot), J29_27 M26 = some M' → zH w s M26 H locs → lv_has ls 3 [(0, .ref (za w 0)), (1, .int x22)] → zGo p l e rX10_night s m args below meth c (zQ w (none) M') (zA w) H locs (F0 m 29 ls []) := by
          intro M26 H locs ls h hH hl
          rw [hJ29_27] at h
          obtain ⟨x28, ex28, h⟩ := z_let h
          refine lv_iinc (v := x28) (lv' := [(1, .int x28), (0, .ref (za w 0))]) G.x G.b dX10_night_29 hl (k := 1) rfl (by rw [ex28]; rfl) (Nat.le_of_ble_eq_true rfl) rfl (fun ls hl => ?_)
          refine lv_goto (tgt := 2) G.x G.b dX10_night_32 (by decide) ?_
          exact ih23 M26 x28 H locs ls h hH (lv_sub hl [1, 0] rfl)
        refine lv_icmp_eq (tgt := 29) G.x G.b dX10_night_20 (by decide) (fun c29 => ?_) (fun c29 => ?_)
        · have h := z_if c29 h
          exact kJ29_27 M21 H locs ls h hH (lv_sub hl [1, 2] rfl)
        · have h := z_ifn c29 h
          refine lv_aload_n G.x G.b dX10_night_23 rfl (lv_at hl 1 rfl) ?_
          refine lv_iload_n G.x G.b dX10_night_24 rfl (lv_at hl 2 rfl) ?_
          refine lv_iload_n G.x G.b dX10_night_25 rfl (lv_at hl 0 rfl) ?_
          obtain ⟨M30, eM30, h⟩ := z_bind h
          refine z_aftV (z_runV (k := 0) (As := [.int x22, .int x25]) (rest := []) G hH hl.1 (kX10_wears l hw eM30) (mM0 hw) vc10 arX10_wears u1000 u1002 us37 u11 u1003 rfl rfl rfl (Nat.le_of_ble_eq_true rfl) (Nat.le_of_ble_eq_true rfl) rfl (Nat.le_of_ble_eq_true rfl) dX10_night_26) hH (fun H locs hH => ?_)
          exact kJ29_27 M30 H locs ls h hH (lv_sub hl [1, 2] rfl)
  exact n23 zFuel M0 (0 : Int32) s.heap [] ls h hH (lv_sub hl [1, 0] rfl)
def bX10_nightsGo_2 (a1 : Int32) (E17_2 : zM → Option zM) (rc5 : zM → Int32 → Option zM) (M3 : zM) (x4 : Int32) : Option zM :=
  if a1 ≤ x4 then (E17_2 M3) else ((fX10_night M3).bind fun M7 =>
  (some (x4 + (1 : Int32))).bind fun x8 =>
  rc5 M7 x8)
def lX10_nightsGo_2 (a1 : Int32) (E17_2 : zM → Option zM) : Nat → zM → Int32 → Option zM := zL2 (bX10_nightsGo_2 a1 E17_2)
def fX10_nightsGo (M0 : zM) (a1 : Int32) : Option zM :=
  zj (fun (M1 : zM) =>
  some M1) fun E17_2 =>
  lX10_nightsGo_2 a1 E17_2 zFuel M0 (0 : Int32)
abbrev rX10_nightsGo : Room := { frames := 6, cells := 0, slots := 0, locals := 140 }
theorem arX10_nightsGo : zAr yX10_nightsGo RX10 1 := ⟨rfl, by decide, by decide, by decide +kernel⟩
set_option maxHeartbeats 4000000 in
theorem kX10_nightsGo (l : Launch) {w : zWd} (hw : zIsM w) {M0 M' : zM} {a1 : Int32} (h : fX10_nightsGo M0 a1 = some M') : Met l yX10_nightsGo (Cond.code yX10_nightsGo cX10_nightsGo 3 (none) :: zU) rX10_nightsGo (zPre w M0 [.ref (za w 0), .int a1]) (zQ w (none) M') 0 0 (zA w) := by
  refine z_metN (own := RX10) (lv := [(0, .ref (za w 0)), (1, .int a1)]) hw.1 (by decide) (Nat.le_of_ble_eq_true rfl) rfl rfl ?_
  intro p e s m args below meth c G hr hlk hH ls hl
  unfold fX10_nightsGo at h
  refine lv_iconst (v := (0 : Int32)) G.x G.b dX10_nightsGo_0 (by decide) ?_
  refine lv_istore_n (lv' := [(2, .int (0 : Int32)), (0, .ref (za w 0)), (1, .int a1)]) G.x G.b dX10_nightsGo_1 rfl hl (Nat.le_of_ble_eq_true rfl) rfl (fun ls hl => ?_)
  obtain ⟨E17_2, hE17_2, h⟩ := z_j h
  have kE17_2 : ∀ (M1 : zM) (H : Heap) (locs : List Loc) (ls : Array Slot), E17_2 M1 = some M' → zH w s M1 H locs → lv_has ls 3 [] → zGo p l e rX10_nightsGo s m args below meth c (zQ w (none) M') (zA w) H locs (F0 m 17 ls []) := by
    intro M1 H locs ls h hH hl
    rw [hE17_2] at h
    exact z_retV G hr hlk hH h dX10_nightsGo_17
  have n5 : ∀ (n : Nat) (M3 : zM) (x4 : Int32) (H : Heap) (locs : List Loc) (ls : Array Slot), zL2 (bX10_nightsGo_2 a1 E17_2) n M3 x4 = some M' → zH w s M3 H locs → lv_has ls 3 [(0, .ref (za w 0)), (1, .int a1), (2, .int x4)] → zGo p l e rX10_nightsGo s m args below meth c (zQ w (none) M') (zA w) H locs (F0 m 2 ls []) := by
    intro n
    induction n with
    | zero => intro M3 x4 H locs ls h; exact (zL2_0 h).elim
    | succ n ih5 =>
      intro M3 x4 H locs ls h hH hl
      obtain ⟨rc5, hrc5, h⟩ := zL2_s h
      rw [← hrc5] at ih5
      unfold bX10_nightsGo_2 at h
      refine lv_iload_n G.x G.b dX10_nightsGo_2 rfl (lv_at hl 2 rfl) ?_
      refine lv_iload_n G.x G.b dX10_nightsGo_3 rfl (lv_at hl 1 rfl) ?_
      refine lv_icmp_ge (tgt := 17) G.x G.b dX10_nightsGo_4 (by decide) (fun c6 => ?_) (fun c6 => ?_)
      · have h := z_if c6 h
        exact kE17_2 M3 H locs ls h hH (lv_sub hl [] rfl)
      · have h := z_ifn c6 h
        refine lv_aload_n G.x G.b dX10_nightsGo_7 rfl (lv_at hl 0 rfl) ?_
        obtain ⟨M7, eM7, h⟩ := z_bind h
        refine z_aftV (z_runV (k := 0) (As := []) (rest := []) G hH hl.1 (kX10_night l hw eM7) (mM0 hw) vc10 arX10_night u996 u998 us36 u11 u999 rfl rfl rfl (Nat.le_of_ble_eq_true rfl) (Nat.le_of_ble_eq_true rfl) rfl (Nat.le_of_ble_eq_true rfl) dX10_nightsGo_8) hH (fun H locs hH => ?_)
        obtain ⟨x8, ex8, h⟩ := z_let h
        refine lv_iinc (v := x8) (lv' := [(2, .int x8), (0, .ref (za w 0)), (1, .int a1)]) G.x G.b dX10_nightsGo_11 hl (k := 2) rfl (by rw [ex8]; rfl) (Nat.le_of_ble_eq_true rfl) rfl (fun ls hl => ?_)
        refine lv_goto (tgt := 2) G.x G.b dX10_nightsGo_14 (by decide) ?_
        exact ih5 M7 x8 H locs ls h hH (lv_sub hl [1, 2, 0] rfl)
  exact n5 zFuel M0 (0 : Int32) s.heap [] ls h hH (lv_sub hl [1, 2, 0] rfl)
def fX10_nights (M0 : zM) (a1 : Int32) : Option (Int32 × zM) :=
  (fX10_in a1.toInt64 (1 : Int64) (100 : Int64)).bind fun x1 =>
  if x1 = (0 : Int32) then (zb2 (fX10_finds M0 (-1000000001 : Int32)) fun x8 M9 =>
  some (x8, M9)) else (if ((M0.1 1 0) + a1) ≤ (99999 : Int32) then ((fX10_nightsGo M0 a1).bind fun M4 =>
  (fX10_purses M4).bind fun x5 =>
  some (x5, M4)) else (zb2 (fX10_finds M0 (-1000000005 : Int32)) fun x6 M7 =>
  some (x6, M7)))
abbrev rX10_nights : Room := { frames := 7, cells := 0, slots := 0, locals := 162 }
theorem arX10_nights : zAr yX10_nights RX10 1 := ⟨rfl, by decide, by decide, by decide +kernel⟩
set_option maxHeartbeats 4000000 in
theorem kX10_nights (l : Launch) {w : zWd} (hw : zIsM w) {M0 M' : zM} {a1 : Int32} {r : Int32} (h : fX10_nights M0 a1 = some (r, M')) : Met l yX10_nights (Cond.code yX10_nights cX10_nights 2 (some .int) :: zU) rX10_nights (zPre w M0 [.ref (za w 0), .int a1]) (zQ w (some (.int r)) M') 0 0 (zA w) := by
  refine z_metN (own := RX10) (lv := [(0, .ref (za w 0)), (1, .int a1)]) hw.1 (by decide) (Nat.le_of_ble_eq_true rfl) rfl rfl ?_
  intro p e s m args below meth c G hr hlk hH ls hl
  unfold fX10_nights at h
  refine lv_iload_n G.x G.b dX10_nights_0 rfl (lv_at hl 1 rfl) ?_
  refine lv_i2l (v := a1.toInt64) G.x G.b dX10_nights_1 rfl ?_
  refine lv_lconst (v := (1 : Int64)) G.x G.b dX10_nights_2 (by decide) ?_
  refine lv_ldc2 G.x G.b G.o (G.t u990) dX10_nights_3 ?_
  obtain ⟨x1, ex1, h⟩ := z_bind h
  refine z_rdI (z_runS (As := [.long a1.toInt64, .long (1 : Int64), .long (100 : Int64)]) (rest := []) G hH hl.1 (kX10_in l hw.1 ex1) arX10_in u824 u825 u11 u826 rfl rfl rfl (Nat.le_of_ble_eq_true rfl) (Nat.le_of_ble_eq_true rfl) rfl (Nat.le_of_ble_eq_true rfl) dX10_nights_6) ?_
  refine lv_if_ne (tgt := 19) G.x G.b dX10_nights_9 (by decide) (fun c2 => ?_) (fun c2 => ?_)
  · have h := z_ifn c2 h
    refine lv_aload_n G.x G.b dX10_nights_19 rfl (lv_at hl 0 rfl) ?_
    refine z_get (v := .ref (za w 1)) (k := 0) G hH.1 (mM0 hw) vc10 inU10 0 (by decide) u767 rfl dX10_nights_20 ?_
    refine lv_iconst (v := (0 : Int32)) G.x G.b dX10_nights_23 (by decide) ?_
    refine z_iald (k := 1) G hH.1 (mM1 hw) (by decide : zix (0 : Int32) 59 = some 0) dX10_nights_24 ?_
    refine lv_iload_n G.x G.b dX10_nights_25 rfl (lv_at hl 1 rfl) ?_
    refine lv_iadd G.x G.b dX10_nights_26 ?_
    refine lv_ldc G.x G.b G.o (G.t u991) dX10_nights_27 ?_
    refine lv_icmp_le (tgt := 39) G.x G.b dX10_nights_29 (by decide) (fun c3 => ?_) (fun c3 => ?_)
    · have h := z_if c3 h
      refine lv_aload_n G.x G.b dX10_nights_39 rfl (lv_at hl 0 rfl) ?_
      refine lv_iload_n G.x G.b dX10_nights_40 rfl (lv_at hl 1 rfl) ?_
      obtain ⟨M4, eM4, h⟩ := z_bind h
      refine z_aftV (z_runV (k := 0) (As := [.int a1]) (rest := []) G hH hl.1 (kX10_nightsGo l hw eM4) (mM0 hw) vc10 arX10_nightsGo u992 u994 us35 u11 u995 rfl rfl rfl (Nat.le_of_ble_eq_true rfl) (Nat.le_of_ble_eq_true rfl) rfl (Nat.le_of_ble_eq_true rfl) dX10_nights_41) hH (fun H locs hH => ?_)
      refine lv_aload_n G.x G.b dX10_nights_44 rfl (lv_at hl 0 rfl) ?_
      obtain ⟨x5, ex5, h⟩ := z_bind h
      refine z_rdI (z_runV (k := 0) (As := []) (rest := []) G hH hl.1 (kX10_purses l hw ex5) (mM0 hw) vc10 arX10_purses u893 u895 us26 u11 u896 rfl rfl rfl (Nat.le_of_ble_eq_true rfl) (Nat.le_of_ble_eq_true rfl) rfl (Nat.le_of_ble_eq_true rfl) dX10_nights_45) ?_
      exact z_retI G hr hlk hH h dX10_nights_48
    · have h := z_ifn c3 h
      refine lv_aload_n G.x G.b dX10_nights_32 rfl (lv_at hl 0 rfl) ?_
      refine lv_ldc G.x G.b G.o (G.t u981) dX10_nights_33 ?_
      obtain ⟨x6, M7, eM7, h⟩ := z_b2 h
      refine z_aftI (z_runV (k := 0) (As := [.int (-1000000005 : Int32)]) (rest := []) G hH hl.1 (kX10_finds l hw eM7) (mM0 hw) vc10 arX10_finds u834 u836 us16 u11 u837 rfl rfl rfl (Nat.le_of_ble_eq_true rfl) (Nat.le_of_ble_eq_true rfl) rfl (Nat.le_of_ble_eq_true rfl) dX10_nights_35) hH (fun H locs hH => ?_)
      exact z_retI G hr hlk hH h dX10_nights_38
  · have h := z_if c2 h
    refine lv_aload_n G.x G.b dX10_nights_12 rfl (lv_at hl 0 rfl) ?_
    refine lv_ldc G.x G.b G.o (G.t u833) dX10_nights_13 ?_
    obtain ⟨x8, M9, eM9, h⟩ := z_b2 h
    refine z_aftI (z_runV (k := 0) (As := [.int (-1000000001 : Int32)]) (rest := []) G hH hl.1 (kX10_finds l hw eM9) (mM0 hw) vc10 arX10_finds u834 u836 us16 u11 u837 rfl rfl rfl (Nat.le_of_ble_eq_true rfl) (Nat.le_of_ble_eq_true rfl) rfl (Nat.le_of_ble_eq_true rfl) dX10_nights_15) hH (fun H locs hH => ?_)
    exact z_retI G hr hlk hH h dX10_nights_18
def fX10_isAhead (a1 : Int32) : Option Int32 :=
  (fX10_in a1.toInt64 (0 : Int64) (200 : Int64)).bind fun x1 =>
  zbl x1
abbrev rX10_isAhead : Room := { frames := 1, cells := 0, slots := 0, locals := 25 }
theorem arX10_isAhead : zAr yX10_isAhead RX10 1 := ⟨rfl, by decide, by decide, by decide +kernel⟩
set_option maxHeartbeats 4000000 in
theorem kX10_isAhead (l : Launch) {w : zWd} (ho : zOk w) {M0 : zM} {a1 : Int32} {r : Int32} (h : fX10_isAhead a1 = some r) : Met l yX10_isAhead (Cond.code yX10_isAhead cX10_isAhead 1 (some .boolean) :: zU) rX10_isAhead (zPre w M0 [.int a1]) (zR (some (.int r))) 0 0 zNo := by
  refine z_metN (own := RX10) (lv := [(0, .int a1)]) ho (by decide) (Nat.le_of_ble_eq_true rfl) rfl rfl ?_
  intro p e s m args below meth c G hr hlk hH ls hl
  unfold fX10_isAhead at h
  refine lv_iload_n G.x G.b dX10_isAhead_0 rfl (lv_at hl 0 rfl) ?_
  refine lv_i2l (v := a1.toInt64) G.x G.b dX10_isAhead_1 rfl ?_
  refine lv_lconst (v := (0 : Int64)) G.x G.b dX10_isAhead_2 (by decide) ?_
  refine lv_ldc2 G.x G.b G.o (G.t u1018) dX10_isAhead_3 ?_
  obtain ⟨x1, ex1, h⟩ := z_bind h
  refine z_rdI (z_runS (As := [.long a1.toInt64, .long (0 : Int64), .long (200 : Int64)]) (rest := []) G hH hl.1 (kX10_in l ho ex1) arX10_in u824 u825 u11 u826 rfl rfl rfl (Nat.le_of_ble_eq_true rfl) (Nat.le_of_ble_eq_true rfl) rfl (Nat.le_of_ble_eq_true rfl) dX10_isAhead_6) ?_
  exact z_rtZ G hr hlk h dX10_isAhead_9
def fX10_behind (M0 : zM) (a1 : Int32) (a2 : Int32) : Option (Int32 × zM) :=
  (fX10_laysAside M0).bind fun M1 =>
  (fX10_nightsGo M1 a2).bind fun M2 =>
  (zix a1 59).bind fun j3 =>
  zb2 (fX10_takesBack M2 (M2.1 1 j3)) fun x4 M5 =>
  some (x4, M5)
abbrev rX10_behind : Room := { frames := 7, cells := 0, slots := 0, locals := 162 }
theorem arX10_behind : zAr yX10_behind RX10 2 := ⟨rfl, by decide, by decide, by decide +kernel⟩
set_option maxHeartbeats 4000000 in
theorem kX10_behind (l : Launch) {w : zWd} (hw : zIsM w) {M0 M' : zM} {a1 : Int32} {a2 : Int32} {r : Int32} (h : fX10_behind M0 a1 a2 = some (r, M')) : Met l yX10_behind (Cond.code yX10_behind cX10_behind 3 (some .int) :: zU) rX10_behind (zPre w M0 [.ref (za w 0), .int a1, .int a2]) (zQ w (some (.int r)) M') 0 0 (zA w) := by
  refine z_metN (own := RX10) (lv := [(0, .ref (za w 0)), (1, .int a1), (2, .int a2)]) hw.1 (by decide) (Nat.le_of_ble_eq_true rfl) rfl rfl ?_
  intro p e s m args below meth c G hr hlk hH ls hl
  unfold fX10_behind at h
  refine lv_aload_n G.x G.b dX10_behind_0 rfl (lv_at hl 0 rfl) ?_
  obtain ⟨M1, eM1, h⟩ := z_bind h
  refine z_aftV (z_runV (k := 0) (As := []) (rest := []) G hH hl.1 (kX10_laysAside l hw eM1) (mM0 hw) vc10 arX10_laysAside u1023 u1025 us40 u11 u1026 rfl rfl rfl (Nat.le_of_ble_eq_true rfl) (Nat.le_of_ble_eq_true rfl) rfl (Nat.le_of_ble_eq_true rfl) dX10_behind_1) hH (fun H locs hH => ?_)
  refine lv_aload_n G.x G.b dX10_behind_4 rfl (lv_at hl 0 rfl) ?_
  refine lv_iload_n G.x G.b dX10_behind_5 rfl (lv_at hl 2 rfl) ?_
  obtain ⟨M2, eM2, h⟩ := z_bind h
  refine z_aftV (z_runV (k := 0) (As := [.int a2]) (rest := []) G hH hl.1 (kX10_nightsGo l hw eM2) (mM0 hw) vc10 arX10_nightsGo u992 u994 us35 u11 u995 rfl rfl rfl (Nat.le_of_ble_eq_true rfl) (Nat.le_of_ble_eq_true rfl) rfl (Nat.le_of_ble_eq_true rfl) dX10_behind_6) hH (fun H locs hH => ?_)
  refine lv_aload_n G.x G.b dX10_behind_9 rfl (lv_at hl 0 rfl) ?_
  refine lv_aload_n G.x G.b dX10_behind_10 rfl (lv_at hl 0 rfl) ?_
  refine z_get (v := .ref (za w 1)) (k := 0) G hH.1 (mM0 hw) vc10 inU10 0 (by decide) u767 rfl dX10_behind_11 ?_
  refine lv_iload_n G.x G.b dX10_behind_14 rfl (lv_at hl 1 rfl) ?_
  obtain ⟨j3, ej3, h⟩ := z_bind h
  refine z_iald (k := 1) G hH.1 (mM1 hw) ej3 dX10_behind_15 ?_
  obtain ⟨x4, M5, eM5, h⟩ := z_b2 h
  refine z_aftI (z_runV (k := 0) (As := [.int (M2.1 1 j3)]) (rest := []) G hH hl.1 (kX10_takesBack l hw eM5) (mM0 hw) vc10 arX10_takesBack u1027 u1029 us41 u11 u1030 rfl rfl rfl (Nat.le_of_ble_eq_true rfl) (Nat.le_of_ble_eq_true rfl) rfl (Nat.le_of_ble_eq_true rfl) dX10_behind_16) hH (fun H locs hH => ?_)
  exact z_retI G hr hlk hH h dX10_behind_19
def fX10_wornBehind (M0 : zM) (a1 : Int32) (a2 : Int32) : Option (Int32 × zM) :=
  (fX10_laysAside M0).bind fun M1 =>
  (fX10_nightsGo M1 a2).bind fun M2 =>
  (fX10_wornBy M2 a1).bind fun x3 =>
  zb2 (fX10_takesBack M2 x3) fun x4 M5 =>
  some (x4, M5)
abbrev rX10_wornBehind : Room := { frames := 7, cells := 0, slots := 0, locals := 162 }
theorem arX10_wornBehind : zAr yX10_wornBehind RX10 2 := ⟨rfl, by decide, by decide, by decide +kernel⟩
set_option maxHeartbeats 4000000 in
theorem kX10_wornBehind (l : Launch) {w : zWd} (hw : zIsM w) {M0 M' : zM} {a1 : Int32} {a2 : Int32} {r : Int32} (h : fX10_wornBehind M0 a1 a2 = some (r, M')) : Met l yX10_wornBehind (Cond.code yX10_wornBehind cX10_wornBehind 3 (some .int) :: zU) rX10_wornBehind (zPre w M0 [.ref (za w 0), .int a1, .int a2]) (zQ w (some (.int r)) M') 0 0 (zA w) := by
  refine z_metN (own := RX10) (lv := [(0, .ref (za w 0)), (1, .int a1), (2, .int a2)]) hw.1 (by decide) (Nat.le_of_ble_eq_true rfl) rfl rfl ?_
  intro p e s m args below meth c G hr hlk hH ls hl
  unfold fX10_wornBehind at h
  refine lv_aload_n G.x G.b dX10_wornBehind_0 rfl (lv_at hl 0 rfl) ?_
  obtain ⟨M1, eM1, h⟩ := z_bind h
  refine z_aftV (z_runV (k := 0) (As := []) (rest := []) G hH hl.1 (kX10_laysAside l hw eM1) (mM0 hw) vc10 arX10_laysAside u1023 u1025 us40 u11 u1026 rfl rfl rfl (Nat.le_of_ble_eq_true rfl) (Nat.le_of_ble_eq_true rfl) rfl (Nat.le_of_ble_eq_true rfl) dX10_wornBehind_1) hH (fun H locs hH => ?_)
  refine lv_aload_n G.x G.b dX10_wornBehind_4 rfl (lv_at hl 0 rfl) ?_
  refine lv_iload_n G.x G.b dX10_wornBehind_5 rfl (lv_at hl 2 rfl) ?_
  obtain ⟨M2, eM2, h⟩ := z_bind h
  refine z_aftV (z_runV (k := 0) (As := [.int a2]) (rest := []) G hH hl.1 (kX10_nightsGo l hw eM2) (mM0 hw) vc10 arX10_nightsGo u992 u994 us35 u11 u995 rfl rfl rfl (Nat.le_of_ble_eq_true rfl) (Nat.le_of_ble_eq_true rfl) rfl (Nat.le_of_ble_eq_true rfl) dX10_wornBehind_6) hH (fun H locs hH => ?_)
  refine lv_aload_n G.x G.b dX10_wornBehind_9 rfl (lv_at hl 0 rfl) ?_
  refine lv_aload_n G.x G.b dX10_wornBehind_10 rfl (lv_at hl 0 rfl) ?_
  refine lv_iload_n G.x G.b dX10_wornBehind_11 rfl (lv_at hl 1 rfl) ?_
  obtain ⟨x3, ex3, h⟩ := z_bind h
  refine z_rdI (z_runV (k := 0) (As := [.int a1]) (rest := [.ref (za w 0)]) G hH hl.1 (kX10_wornBy l hw ex3) (mM0 hw) vc10 arX10_wornBy u969 u971 us34 u11 u972 rfl rfl rfl (Nat.le_of_ble_eq_true rfl) (Nat.le_of_ble_eq_true rfl) rfl (Nat.le_of_ble_eq_true rfl) dX10_wornBehind_12) ?_
  obtain ⟨x4, M5, eM5, h⟩ := z_b2 h
  refine z_aftI (z_runV (k := 0) (As := [.int x3]) (rest := []) G hH hl.1 (kX10_takesBack l hw eM5) (mM0 hw) vc10 arX10_takesBack u1027 u1029 us41 u11 u1030 rfl rfl rfl (Nat.le_of_ble_eq_true rfl) (Nat.le_of_ble_eq_true rfl) rfl (Nat.le_of_ble_eq_true rfl) dX10_wornBehind_15) hH (fun H locs hH => ?_)
  exact z_retI G hr hlk hH h dX10_wornBehind_18
def fX10_pursesBehind (M0 : zM) (a1 : Int32) : Option (Int32 × zM) :=
  (fX10_laysAside M0).bind fun M1 =>
  (fX10_nightsGo M1 a1).bind fun M2 =>
  (fX10_purses M2).bind fun x3 =>
  zb2 (fX10_takesBack M2 x3) fun x4 M5 =>
  some (x4, M5)
abbrev rX10_pursesBehind : Room := { frames := 7, cells := 0, slots := 0, locals := 162 }
theorem arX10_pursesBehind : zAr yX10_pursesBehind RX10 1 := ⟨rfl, by decide, by decide, by decide +kernel⟩
set_option maxHeartbeats 4000000 in
theorem kX10_pursesBehind (l : Launch) {w : zWd} (hw : zIsM w) {M0 M' : zM} {a1 : Int32} {r : Int32} (h : fX10_pursesBehind M0 a1 = some (r, M')) : Met l yX10_pursesBehind (Cond.code yX10_pursesBehind cX10_pursesBehind 2 (some .int) :: zU) rX10_pursesBehind (zPre w M0 [.ref (za w 0), .int a1]) (zQ w (some (.int r)) M') 0 0 (zA w) := by
  refine z_metN (own := RX10) (lv := [(0, .ref (za w 0)), (1, .int a1)]) hw.1 (by decide) (Nat.le_of_ble_eq_true rfl) rfl rfl ?_
  intro p e s m args below meth c G hr hlk hH ls hl
  unfold fX10_pursesBehind at h
  refine lv_aload_n G.x G.b dX10_pursesBehind_0 rfl (lv_at hl 0 rfl) ?_
  obtain ⟨M1, eM1, h⟩ := z_bind h
  refine z_aftV (z_runV (k := 0) (As := []) (rest := []) G hH hl.1 (kX10_laysAside l hw eM1) (mM0 hw) vc10 arX10_laysAside u1023 u1025 us40 u11 u1026 rfl rfl rfl (Nat.le_of_ble_eq_true rfl) (Nat.le_of_ble_eq_true rfl) rfl (Nat.le_of_ble_eq_true rfl) dX10_pursesBehind_1) hH (fun H locs hH => ?_)
  refine lv_aload_n G.x G.b dX10_pursesBehind_4 rfl (lv_at hl 0 rfl) ?_
  refine lv_iload_n G.x G.b dX10_pursesBehind_5 rfl (lv_at hl 1 rfl) ?_
  obtain ⟨M2, eM2, h⟩ := z_bind h
  refine z_aftV (z_runV (k := 0) (As := [.int a1]) (rest := []) G hH hl.1 (kX10_nightsGo l hw eM2) (mM0 hw) vc10 arX10_nightsGo u992 u994 us35 u11 u995 rfl rfl rfl (Nat.le_of_ble_eq_true rfl) (Nat.le_of_ble_eq_true rfl) rfl (Nat.le_of_ble_eq_true rfl) dX10_pursesBehind_6) hH (fun H locs hH => ?_)
  refine lv_aload_n G.x G.b dX10_pursesBehind_9 rfl (lv_at hl 0 rfl) ?_
  refine lv_aload_n G.x G.b dX10_pursesBehind_10 rfl (lv_at hl 0 rfl) ?_
  obtain ⟨x3, ex3, h⟩ := z_bind h
  refine z_rdI (z_runV (k := 0) (As := []) (rest := [.ref (za w 0)]) G hH hl.1 (kX10_purses l hw ex3) (mM0 hw) vc10 arX10_purses u893 u895 us26 u11 u896 rfl rfl rfl (Nat.le_of_ble_eq_true rfl) (Nat.le_of_ble_eq_true rfl) rfl (Nat.le_of_ble_eq_true rfl) dX10_pursesBehind_11) ?_
  obtain ⟨x4, M5, eM5, h⟩ := z_b2 h
  refine z_aftI (z_runV (k := 0) (As := [.int x3]) (rest := []) G hH hl.1 (kX10_takesBack l hw eM5) (mM0 hw) vc10 arX10_takesBack u1027 u1029 us41 u11 u1030 rfl rfl rfl (Nat.le_of_ble_eq_true rfl) (Nat.le_of_ble_eq_true rfl) rfl (Nat.le_of_ble_eq_true rfl) dX10_pursesBehind_14) hH (fun H locs hH => ?_)
  exact z_retI G hr hlk hH h dX10_pursesBehind_17
def fX10_on (M0 : zM) (a1 : Int32) (a2 : Int32) (a3 : Int32) : Option (Int32 × zM) :=
  (fX10_isWearer M0 a1).bind fun x1 =>
  if x1 = (0 : Int32) then (zb2 (fX10_finds M0 (-1000000001 : Int32)) fun x3 M4 =>
  some (x3, M4)) else ((fX10_isAhead a2).bind fun x5 =>
  if x5 = (0 : Int32) then (zb2 (fX10_finds M0 (-1000000001 : Int32)) fun x7 M8 =>
  some (x7, M8)) else ((fX10_in a3.toInt64 (0 : Int64) (1 : Int64)).bind fun x9 =>
  if x9 = (0 : Int32) then (zb2 (fX10_finds M0 (-1000000001 : Int32)) fun x17 M18 =>
  some (x17, M18)) else (if a3 = (0 : Int32) then ((fX10_wearerSpot a1 (0 : Int32)).bind fun x14 =>
  zb2 (fX10_behind M0 x14 a2) fun x15 M16 =>
  some (x15, M16)) else (zb2 (fX10_wornBehind M0 a1 a2) fun x12 M13 =>
  some (x12, M13)))))
abbrev rX10_on : Room := { frames := 8, cells := 0, slots := 0, locals := 184 }
theorem arX10_on : zAr yX10_on RX10 3 := ⟨rfl, by decide, by decide, by decide +kernel⟩
set_option maxHeartbeats 4000000 in
theorem kX10_on (l : Launch) {w : zWd} (hw : zIsM w) {M0 M' : zM} {a1 : Int32} {a2 : Int32} {a3 : Int32} {r : Int32} (h : fX10_on M0 a1 a2 a3 = some (r, M')) : Met l yX10_on (Cond.code yX10_on cX10_on 4 (some .int) :: zU) rX10_on (zPre w M0 [.ref (za w 0), .int a1, .int a2, .int a3]) (zQ w (some (.int r)) M') 0 0 (zA w) := by
  refine z_metN (own := RX10) (lv := [(0, .ref (za w 0)), (1, .int a1), (2, .int a2), (3, .int a3)]) hw.1 (by decide) (Nat.le_of_ble_eq_true rfl) rfl rfl ?_
  intro p e s m args below meth c G hr hlk hH ls hl
  unfold fX10_on at h
  refine lv_aload_n G.x G.b dX10_on_0 rfl (lv_at hl 0 rfl) ?_
  refine lv_iload_n G.x G.b dX10_on_1 rfl (lv_at hl 1 rfl) ?_
  obtain ⟨x1, ex1, h⟩ := z_bind h
  refine z_rdI (z_runV (k := 0) (As := [.int a1]) (rest := []) G hH hl.1 (kX10_isWearer l hw ex1) (mM0 hw) vc10 arX10_isWearer u964 u966 us33 u11 u967 rfl rfl rfl (Nat.le_of_ble_eq_true rfl) (Nat.le_of_ble_eq_true rfl) rfl (Nat.le_of_ble_eq_true rfl) dX10_on_2) ?_
  refine lv_if_eq (tgt := 25) G.x G.b dX10_on_5 (by decide) (fun c2 => ?_) (fun c2 => ?_)
  · have h := z_if c2 h
    refine lv_aload_n G.x G.b dX10_on_25 rfl (lv_at hl 0 rfl) ?_
    refine lv_ldc G.x G.b G.o (G.t u833) dX10_on_26 ?_
    obtain ⟨x3, M4, eM4, h⟩ := z_b2 h
    refine z_aftI (z_runV (k := 0) (As := [.int (-1000000001 : Int32)]) (rest := []) G hH hl.1 (kX10_finds l hw eM4) (mM0 hw) vc10 arX10_finds u834 u836 us16 u11 u837 rfl rfl rfl (Nat.le_of_ble_eq_true rfl) (Nat.le_of_ble_eq_true rfl) rfl (Nat.le_of_ble_eq_true rfl) dX10_on_28) hH (fun H locs hH => ?_)
    exact z_retI G hr hlk hH h dX10_on_31
  · have h := z_ifn c2 h
    refine lv_iload_n G.x G.b dX10_on_8 rfl (lv_at hl 2 rfl) ?_
    obtain ⟨x5, ex5, h⟩ := z_bind h
    refine z_rdI (z_runS (As := [.int a2]) (rest := []) G hH hl.1 (kX10_isAhead l hw.1 ex5) arX10_isAhead u1015 u1016 u11 u1017 rfl rfl rfl (Nat.le_of_ble_eq_true rfl) (Nat.le_of_ble_eq_true rfl) rfl (Nat.le_of_ble_eq_true rfl) dX10_on_9) ?_
    refine lv_if_eq (tgt := 25) G.x G.b dX10_on_12 (by decide) (fun c6 => ?_) (fun c6 => ?_)
    · have h := z_if c6 h
      refine lv_aload_n G.x G.b dX10_on_25 rfl (lv_at hl 0 rfl) ?_
      refine lv_ldc G.x G.b G.o (G.t u833) dX10_on_26 ?_
      obtain ⟨x7, M8, eM8, h⟩ := z_b2 h
      refine z_aftI (z_runV (k := 0) (As := [.int (-1000000001 : Int32)]) (rest := []) G hH hl.1 (kX10_finds l hw eM8) (mM0 hw) vc10 arX10_finds u834 u836 us16 u11 u837 rfl rfl rfl (Nat.le_of_ble_eq_true rfl) (Nat.le_of_ble_eq_true rfl) rfl (Nat.le_of_ble_eq_true rfl) dX10_on_28) hH (fun H locs hH => ?_)
      exact z_retI G hr hlk hH h dX10_on_31
    · have h := z_ifn c6 h
      refine lv_iload_n G.x G.b dX10_on_15 rfl (lv_at hl 3 rfl) ?_
      refine lv_i2l (v := a3.toInt64) G.x G.b dX10_on_16 rfl ?_
      refine lv_lconst (v := (0 : Int64)) G.x G.b dX10_on_17 (by decide) ?_
      refine lv_lconst (v := (1 : Int64)) G.x G.b dX10_on_18 (by decide) ?_
      obtain ⟨x9, ex9, h⟩ := z_bind h
      refine z_rdI (z_runS (As := [.long a3.toInt64, .long (0 : Int64), .long (1 : Int64)]) (rest := []) G hH hl.1 (kX10_in l hw.1 ex9) arX10_in u824 u825 u11 u826 rfl rfl rfl (Nat.le_of_ble_eq_true rfl) (Nat.le_of_ble_eq_true rfl) rfl (Nat.le_of_ble_eq_true rfl) dX10_on_19) ?_
      refine lv_if_ne (tgt := 32) G.x G.b dX10_on_22 (by decide) (fun c10 => ?_) (fun c10 => ?_)
      · have h := z_ifn c10 h
        refine lv_iload_n G.x G.b dX10_on_32 rfl (lv_at hl 3 rfl) ?_
        refine lv_if_ne (tgt := 49) G.x G.b dX10_on_33 (by decide) (fun c11 => ?_) (fun c11 => ?_)
        · have h := z_ifn c11 h
          refine lv_aload_n G.x G.b dX10_on_49 rfl (lv_at hl 0 rfl) ?_
          refine lv_iload_n G.x G.b dX10_on_50 rfl (lv_at hl 1 rfl) ?_
          refine lv_iload_n G.x G.b dX10_on_51 rfl (lv_at hl 2 rfl) ?_
          obtain ⟨x12, M13, eM13, h⟩ := z_b2 h
          refine z_aftI (z_runV (k := 0) (As := [.int a1, .int a2]) (rest := []) G hH hl.1 (kX10_wornBehind l hw eM13) (mM0 hw) vc10 arX10_wornBehind u1031 u1033 us42 u11 u1034 rfl rfl rfl (Nat.le_of_ble_eq_true rfl) (Nat.le_of_ble_eq_true rfl) rfl (Nat.le_of_ble_eq_true rfl) dX10_on_52) hH (fun H locs hH => ?_)
          exact z_retI G hr hlk hH h dX10_on_55
        · have h := z_if c11 h
          refine lv_aload_n G.x G.b dX10_on_36 rfl (lv_at hl 0 rfl) ?_
          refine lv_iload_n G.x G.b dX10_on_37 rfl (lv_at hl 1 rfl) ?_
          refine lv_iconst (v := (0 : Int32)) G.x G.b dX10_on_38 (by decide) ?_
          obtain ⟨x14, ex14, h⟩ := z_bind h
          refine z_rdI (z_runS (As := [.int a1, .int (0 : Int32)]) (rest := [.ref (za w 0)]) G hH hl.1 (kX10_wearerSpot l hw.1 ex14) arX10_wearerSpot u867 u868 u11 u869 rfl rfl rfl (Nat.le_of_ble_eq_true rfl) (Nat.le_of_ble_eq_true rfl) rfl (Nat.le_of_ble_eq_true rfl) dX10_on_39) ?_
          refine lv_iload_n G.x G.b dX10_on_42 rfl (lv_at hl 2 rfl) ?_
          obtain ⟨x15, M16, eM16, h⟩ := z_b2 h
          refine z_aftI (z_runV (k := 0) (As := [.int x14, .int a2]) (rest := []) G hH hl.1 (kX10_behind l hw eM16) (mM0 hw) vc10 arX10_behind u1019 u1021 us39 u11 u1022 rfl rfl rfl (Nat.le_of_ble_eq_true rfl) (Nat.le_of_ble_eq_true rfl) rfl (Nat.le_of_ble_eq_true rfl) dX10_on_43) hH (fun H locs hH => ?_)
          refine lv_goto (tgt := 55) G.x G.b dX10_on_46 (by decide) ?_
          exact z_retI G hr hlk hH h dX10_on_55
      · have h := z_if c10 h
        refine lv_aload_n G.x G.b dX10_on_25 rfl (lv_at hl 0 rfl) ?_
        refine lv_ldc G.x G.b G.o (G.t u833) dX10_on_26 ?_
        obtain ⟨x17, M18, eM18, h⟩ := z_b2 h
        refine z_aftI (z_runV (k := 0) (As := [.int (-1000000001 : Int32)]) (rest := []) G hH hl.1 (kX10_finds l hw eM18) (mM0 hw) vc10 arX10_finds u834 u836 us16 u11 u837 rfl rfl rfl (Nat.le_of_ble_eq_true rfl) (Nat.le_of_ble_eq_true rfl) rfl (Nat.le_of_ble_eq_true rfl) dX10_on_28) hH (fun H locs hH => ?_)
        exact z_retI G hr hlk hH h dX10_on_31
def fX10_then (M0 : zM) (a1 : Int32) (a2 : Int32) (a3 : Int32) : Option (Int32 × zM) :=
  (fX10_isBeard M0 a1).bind fun x1 =>
  if x1 = (0 : Int32) then (zb2 (fX10_finds M0 (-1000000001 : Int32)) fun x3 M4 =>
  some (x3, M4)) else ((fX10_isAhead a2).bind fun x5 =>
  if x5 = (0 : Int32) then (zb2 (fX10_finds M0 (-1000000001 : Int32)) fun x7 M8 =>
  some (x7, M8)) else ((fX10_in a3.toInt64 (0 : Int64) (1 : Int64)).bind fun x9 =>
  if x9 = (0 : Int32) then (zb2 (fX10_finds M0 (-1000000001 : Int32)) fun x18 M19 =>
  some (x18, M19)) else (if a3 = (0 : Int32) then ((fX10_beardSpot a1 (1 : Int32)).bind fun x15 =>
  zb2 (fX10_behind M0 x15 a2) fun x16 M17 =>
  some (x16, M17)) else ((fX10_beardSpot a1 (2 : Int32)).bind fun x12 =>
  zb2 (fX10_behind M0 x12 a2) fun x13 M14 =>
  some (x13, M14)))))
abbrev rX10_then : Room := { frames := 8, cells := 0, slots := 0, locals := 184 }
theorem arX10_then : zAr yX10_then RX10 3 := ⟨rfl, by decide, by decide, by decide +kernel⟩
set_option maxHeartbeats 4000000 in
theorem kX10_then (l : Launch) {w : zWd} (hw : zIsM w) {M0 M' : zM} {a1 : Int32} {a2 : Int32} {a3 : Int32} {r : Int32} (h : fX10_then M0 a1 a2 a3 = some (r, M')) : Met l yX10_then (Cond.code yX10_then cX10_then 4 (some .int) :: zU) rX10_then (zPre w M0 [.ref (za w 0), .int a1, .int a2, .int a3]) (zQ w (some (.int r)) M') 0 0 (zA w) := by
  refine z_metN (own := RX10) (lv := [(0, .ref (za w 0)), (1, .int a1), (2, .int a2), (3, .int a3)]) hw.1 (by decide) (Nat.le_of_ble_eq_true rfl) rfl rfl ?_
  intro p e s m args below meth c G hr hlk hH ls hl
  unfold fX10_then at h
  refine lv_aload_n G.x G.b dX10_then_0 rfl (lv_at hl 0 rfl) ?_
  refine lv_iload_n G.x G.b dX10_then_1 rfl (lv_at hl 1 rfl) ?_
  obtain ⟨x1, ex1, h⟩ := z_bind h
  refine z_rdI (z_runV (k := 0) (As := [.int a1]) (rest := []) G hH hl.1 (kX10_isBeard l hw ex1) (mM0 hw) vc10 arX10_isBeard u842 u844 us17 u11 u845 rfl rfl rfl (Nat.le_of_ble_eq_true rfl) (Nat.le_of_ble_eq_true rfl) rfl (Nat.le_of_ble_eq_true rfl) dX10_then_2) ?_
  refine lv_if_eq (tgt := 25) G.x G.b dX10_then_5 (by decide) (fun c2 => ?_) (fun c2 => ?_)
  · have h := z_if c2 h
    refine lv_aload_n G.x G.b dX10_then_25 rfl (lv_at hl 0 rfl) ?_
    refine lv_ldc G.x G.b G.o (G.t u833) dX10_then_26 ?_
    obtain ⟨x3, M4, eM4, h⟩ := z_b2 h
    refine z_aftI (z_runV (k := 0) (As := [.int (-1000000001 : Int32)]) (rest := []) G hH hl.1 (kX10_finds l hw eM4) (mM0 hw) vc10 arX10_finds u834 u836 us16 u11 u837 rfl rfl rfl (Nat.le_of_ble_eq_true rfl) (Nat.le_of_ble_eq_true rfl) rfl (Nat.le_of_ble_eq_true rfl) dX10_then_28) hH (fun H locs hH => ?_)
    exact z_retI G hr hlk hH h dX10_then_31
  · have h := z_ifn c2 h
    refine lv_iload_n G.x G.b dX10_then_8 rfl (lv_at hl 2 rfl) ?_
    obtain ⟨x5, ex5, h⟩ := z_bind h
    refine z_rdI (z_runS (As := [.int a2]) (rest := []) G hH hl.1 (kX10_isAhead l hw.1 ex5) arX10_isAhead u1015 u1016 u11 u1017 rfl rfl rfl (Nat.le_of_ble_eq_true rfl) (Nat.le_of_ble_eq_true rfl) rfl (Nat.le_of_ble_eq_true rfl) dX10_then_9) ?_
    refine lv_if_eq (tgt := 25) G.x G.b dX10_then_12 (by decide) (fun c6 => ?_) (fun c6 => ?_)
    · have h := z_if c6 h
      refine lv_aload_n G.x G.b dX10_then_25 rfl (lv_at hl 0 rfl) ?_
      refine lv_ldc G.x G.b G.o (G.t u833) dX10_then_26 ?_
      obtain ⟨x7, M8, eM8, h⟩ := z_b2 h
      refine z_aftI (z_runV (k := 0) (As := [.int (-1000000001 : Int32)]) (rest := []) G hH hl.1 (kX10_finds l hw eM8) (mM0 hw) vc10 arX10_finds u834 u836 us16 u11 u837 rfl rfl rfl (Nat.le_of_ble_eq_true rfl) (Nat.le_of_ble_eq_true rfl) rfl (Nat.le_of_ble_eq_true rfl) dX10_then_28) hH (fun H locs hH => ?_)
      exact z_retI G hr hlk hH h dX10_then_31
    · have h := z_ifn c6 h
      refine lv_iload_n G.x G.b dX10_then_15 rfl (lv_at hl 3 rfl) ?_
      refine lv_i2l (v := a3.toInt64) G.x G.b dX10_then_16 rfl ?_
      refine lv_lconst (v := (0 : Int64)) G.x G.b dX10_then_17 (by decide) ?_
      refine lv_lconst (v := (1 : Int64)) G.x G.b dX10_then_18 (by decide) ?_
      obtain ⟨x9, ex9, h⟩ := z_bind h
      refine z_rdI (z_runS (As := [.long a3.toInt64, .long (0 : Int64), .long (1 : Int64)]) (rest := []) G hH hl.1 (kX10_in l hw.1 ex9) arX10_in u824 u825 u11 u826 rfl rfl rfl (Nat.le_of_ble_eq_true rfl) (Nat.le_of_ble_eq_true rfl) rfl (Nat.le_of_ble_eq_true rfl) dX10_then_19) ?_
      refine lv_if_ne (tgt := 32) G.x G.b dX10_then_22 (by decide) (fun c10 => ?_) (fun c10 => ?_)
      · have h := z_ifn c10 h
        refine lv_aload_n G.x G.b dX10_then_32 rfl (lv_at hl 0 rfl) ?_
        refine lv_iload_n G.x G.b dX10_then_33 rfl (lv_at hl 1 rfl) ?_
        refine lv_iload_n G.x G.b dX10_then_34 rfl (lv_at hl 3 rfl) ?_
        refine lv_if_ne (tgt := 42) G.x G.b dX10_then_35 (by decide) (fun c11 => ?_) (fun c11 => ?_)
        · have h := z_ifn c11 h
          refine lv_iconst (v := (2 : Int32)) G.x G.b dX10_then_42 (by decide) ?_
          obtain ⟨x12, ex12, h⟩ := z_bind h
          refine z_rdI (z_runS (As := [.int a1, .int (2 : Int32)]) (rest := [.ref (za w 0)]) G hH hl.1 (kX10_beardSpot l hw.1 ex12) arX10_beardSpot u886 u887 u11 u888 rfl rfl rfl (Nat.le_of_ble_eq_true rfl) (Nat.le_of_ble_eq_true rfl) rfl (Nat.le_of_ble_eq_true rfl) dX10_then_43) ?_
          refine lv_iload_n G.x G.b dX10_then_46 rfl (lv_at hl 2 rfl) ?_
          obtain ⟨x13, M14, eM14, h⟩ := z_b2 h
          refine z_aftI (z_runV (k := 0) (As := [.int x12, .int a2]) (rest := []) G hH hl.1 (kX10_behind l hw eM14) (mM0 hw) vc10 arX10_behind u1019 u1021 us39 u11 u1022 rfl rfl rfl (Nat.le_of_ble_eq_true rfl) (Nat.le_of_ble_eq_true rfl) rfl (Nat.le_of_ble_eq_true rfl) dX10_then_47) hH (fun H locs hH => ?_)
          exact z_retI G hr hlk hH h dX10_then_50
        · have h := z_if c11 h
          refine lv_iconst (v := (1 : Int32)) G.x G.b dX10_then_38 (by decide) ?_
          refine lv_goto (tgt := 43) G.x G.b dX10_then_39 (by decide) ?_
          obtain ⟨x15, ex15, h⟩ := z_bind h
          refine z_rdI (z_runS (As := [.int a1, .int (1 : Int32)]) (rest := [.ref (za w 0)]) G hH hl.1 (kX10_beardSpot l hw.1 ex15) arX10_beardSpot u886 u887 u11 u888 rfl rfl rfl (Nat.le_of_ble_eq_true rfl) (Nat.le_of_ble_eq_true rfl) rfl (Nat.le_of_ble_eq_true rfl) dX10_then_43) ?_
          refine lv_iload_n G.x G.b dX10_then_46 rfl (lv_at hl 2 rfl) ?_
          obtain ⟨x16, M17, eM17, h⟩ := z_b2 h
          refine z_aftI (z_runV (k := 0) (As := [.int x15, .int a2]) (rest := []) G hH hl.1 (kX10_behind l hw eM17) (mM0 hw) vc10 arX10_behind u1019 u1021 us39 u11 u1022 rfl rfl rfl (Nat.le_of_ble_eq_true rfl) (Nat.le_of_ble_eq_true rfl) rfl (Nat.le_of_ble_eq_true rfl) dX10_then_47) hH (fun H locs hH => ?_)
          exact z_retI G hr hlk hH h dX10_then_50
      · have h := z_if c10 h
        refine lv_aload_n G.x G.b dX10_then_25 rfl (lv_at hl 0 rfl) ?_
        refine lv_ldc G.x G.b G.o (G.t u833) dX10_then_26 ?_
        obtain ⟨x18, M19, eM19, h⟩ := z_b2 h
        refine z_aftI (z_runV (k := 0) (As := [.int (-1000000001 : Int32)]) (rest := []) G hH hl.1 (kX10_finds l hw eM19) (mM0 hw) vc10 arX10_finds u834 u836 us16 u11 u837 rfl rfl rfl (Nat.le_of_ble_eq_true rfl) (Nat.le_of_ble_eq_true rfl) rfl (Nat.le_of_ble_eq_true rfl) dX10_then_28) hH (fun H locs hH => ?_)
        exact z_retI G hr hlk hH h dX10_then_31
def fX10_fond (M0 : zM) (a1 : Int32) (a2 : Int32) : Option (Int32 × zM) :=
  (fX10_isHouse a1).bind fun x1 =>
  if x1 = (0 : Int32) then (zb2 (fX10_finds M0 (-1000000001 : Int32)) fun x3 M4 =>
  some (x3, M4)) else ((fX10_isAhead a2).bind fun x5 =>
  if x5 = (0 : Int32) then (zb2 (fX10_finds M0 (-1000000001 : Int32)) fun x7 M8 =>
  some (x7, M8)) else ((fX10_houseSpot a1 (1 : Int32)).bind fun x9 =>
  zb2 (fX10_behind M0 x9 a2) fun x10 M11 =>
  some (x10, M11)))
abbrev rX10_fond : Room := { frames := 8, cells := 0, slots := 0, locals := 184 }
theorem arX10_fond : zAr yX10_fond RX10 2 := ⟨rfl, by decide, by decide, by decide +kernel⟩
set_option maxHeartbeats 4000000 in
theorem kX10_fond (l : Launch) {w : zWd} (hw : zIsM w) {M0 M' : zM} {a1 : Int32} {a2 : Int32} {r : Int32} (h : fX10_fond M0 a1 a2 = some (r, M')) : Met l yX10_fond (Cond.code yX10_fond cX10_fond 3 (some .int) :: zU) rX10_fond (zPre w M0 [.ref (za w 0), .int a1, .int a2]) (zQ w (some (.int r)) M') 0 0 (zA w) := by
  refine z_metN (own := RX10) (lv := [(0, .ref (za w 0)), (1, .int a1), (2, .int a2)]) hw.1 (by decide) (Nat.le_of_ble_eq_true rfl) rfl rfl ?_
  intro p e s m args below meth c G hr hlk hH ls hl
  unfold fX10_fond at h
  refine lv_iload_n G.x G.b dX10_fond_0 rfl (lv_at hl 1 rfl) ?_
  obtain ⟨x1, ex1, h⟩ := z_bind h
  refine z_rdI (z_runS (As := [.int a1]) (rest := []) G hH hl.1 (kX10_isHouse l hw.1 ex1) arX10_isHouse u820 u821 u11 u822 rfl rfl rfl (Nat.le_of_ble_eq_true rfl) (Nat.le_of_ble_eq_true rfl) rfl (Nat.le_of_ble_eq_true rfl) dX10_fond_1) ?_
  refine lv_if_eq (tgt := 27) G.x G.b dX10_fond_4 (by decide) (fun c2 => ?_) (fun c2 => ?_)
  · have h := z_if c2 h
    refine lv_aload_n G.x G.b dX10_fond_27 rfl (lv_at hl 0 rfl) ?_
    refine lv_ldc G.x G.b G.o (G.t u833) dX10_fond_28 ?_
    obtain ⟨x3, M4, eM4, h⟩ := z_b2 h
    refine z_aftI (z_runV (k := 0) (As := [.int (-1000000001 : Int32)]) (rest := []) G hH hl.1 (kX10_finds l hw eM4) (mM0 hw) vc10 arX10_finds u834 u836 us16 u11 u837 rfl rfl rfl (Nat.le_of_ble_eq_true rfl) (Nat.le_of_ble_eq_true rfl) rfl (Nat.le_of_ble_eq_true rfl) dX10_fond_30) hH (fun H locs hH => ?_)
    exact z_retI G hr hlk hH h dX10_fond_33
  · have h := z_ifn c2 h
    refine lv_iload_n G.x G.b dX10_fond_7 rfl (lv_at hl 2 rfl) ?_
    obtain ⟨x5, ex5, h⟩ := z_bind h
    refine z_rdI (z_runS (As := [.int a2]) (rest := []) G hH hl.1 (kX10_isAhead l hw.1 ex5) arX10_isAhead u1015 u1016 u11 u1017 rfl rfl rfl (Nat.le_of_ble_eq_true rfl) (Nat.le_of_ble_eq_true rfl) rfl (Nat.le_of_ble_eq_true rfl) dX10_fond_8) ?_
    refine lv_if_eq (tgt := 27) G.x G.b dX10_fond_11 (by decide) (fun c6 => ?_) (fun c6 => ?_)
    · have h := z_if c6 h
      refine lv_aload_n G.x G.b dX10_fond_27 rfl (lv_at hl 0 rfl) ?_
      refine lv_ldc G.x G.b G.o (G.t u833) dX10_fond_28 ?_
      obtain ⟨x7, M8, eM8, h⟩ := z_b2 h
      refine z_aftI (z_runV (k := 0) (As := [.int (-1000000001 : Int32)]) (rest := []) G hH hl.1 (kX10_finds l hw eM8) (mM0 hw) vc10 arX10_finds u834 u836 us16 u11 u837 rfl rfl rfl (Nat.le_of_ble_eq_true rfl) (Nat.le_of_ble_eq_true rfl) rfl (Nat.le_of_ble_eq_true rfl) dX10_fond_30) hH (fun H locs hH => ?_)
      exact z_retI G hr hlk hH h dX10_fond_33
    · have h := z_ifn c6 h
      refine lv_aload_n G.x G.b dX10_fond_14 rfl (lv_at hl 0 rfl) ?_
      refine lv_iload_n G.x G.b dX10_fond_15 rfl (lv_at hl 1 rfl) ?_
      refine lv_iconst (v := (1 : Int32)) G.x G.b dX10_fond_16 (by decide) ?_
      obtain ⟨x9, ex9, h⟩ := z_bind h
      refine z_rdI (z_runS (As := [.int a1, .int (1 : Int32)]) (rest := [.ref (za w 0)]) G hH hl.1 (kX10_houseSpot l hw.1 ex9) arX10_houseSpot u764 u765 u11 u766 rfl rfl rfl (Nat.le_of_ble_eq_true rfl) (Nat.le_of_ble_eq_true rfl) rfl (Nat.le_of_ble_eq_true rfl) dX10_fond_17) ?_
      refine lv_iload_n G.x G.b dX10_fond_20 rfl (lv_at hl 2 rfl) ?_
      obtain ⟨x10, M11, eM11, h⟩ := z_b2 h
      refine z_aftI (z_runV (k := 0) (As := [.int x9, .int a2]) (rest := []) G hH hl.1 (kX10_behind l hw eM11) (mM0 hw) vc10 arX10_behind u1019 u1021 us39 u11 u1022 rfl rfl rfl (Nat.le_of_ble_eq_true rfl) (Nat.le_of_ble_eq_true rfl) rfl (Nat.le_of_ble_eq_true rfl) dX10_fond_21) hH (fun H locs hH => ?_)
      refine lv_goto (tgt := 33) G.x G.b dX10_fond_24 (by decide) ?_
      exact z_retI G hr hlk hH h dX10_fond_33
def bX10_firstDown_6 (a1 : Int32) (a2 : Int32) (E33_4 : zM → Int32 → Option (Int32 × zM)) (rc12 : zM → Int32 → Option (Int32 × zM)) (M10 : zM) (x11 : Int32) : Option (Int32 × zM) :=
  if (200 : Int32) < x11 then (E33_4 M10 x11) else ((zix a1 59).bind fun j14 =>
  if (M10.1 1 j14) ≤ a2 then (E33_4 M10 x11) else ((fX10_night M10).bind fun M16 =>
  (some (x11 + (1 : Int32))).bind fun x17 =>
  rc12 M16 x17))
def lX10_firstDown_6 (a1 : Int32) (a2 : Int32) (E33_4 : zM → Int32 → Option (Int32 × zM)) : Nat → zM → Int32 → Option (Int32 × zM) := zL2 (bX10_firstDown_6 a1 a2 E33_4)
def fX10_firstDown (M0 : zM) (a1 : Int32) (a2 : Int32) : Option (Int32 × zM) :=
  (fX10_laysAside M0).bind fun M1 =>
  zj (fun (M2 : zM) (x3 : Int32) =>
  zb2 (fX10_takesBack M2 x3) fun x5 M6 =>
  if x5 ≤ (200 : Int32) then (some (x5, M6)) else (zb2 (fX10_finds M6 (-1000000004 : Int32)) fun x8 M9 =>
  some (x8, M9))) fun E33_4 =>
  lX10_firstDown_6 a1 a2 E33_4 zFuel M1 (0 : Int32)
abbrev rX10_firstDown : Room := { frames := 6, cells := 0, slots := 0, locals := 140 }
theorem arX10_firstDown : zAr yX10_firstDown RX10 2 := ⟨rfl, by decide, by decide, by decide +kernel⟩
set_option maxHeartbeats 4000000 in
theorem kX10_firstDown (l : Launch) {w : zWd} (hw : zIsM w) {M0 M' : zM} {a1 : Int32} {a2 : Int32} {r : Int32} (h : fX10_firstDown M0 a1 a2 = some (r, M')) : Met l yX10_firstDown (Cond.code yX10_firstDown cX10_firstDown 5 (some .int) :: zU) rX10_firstDown (zPre w M0 [.ref (za w 0), .int a1, .int a2]) (zQ w (some (.int r)) M') 0 0 (zA w) := by
  refine z_metN (own := RX10) (lv := [(0, .ref (za w 0)), (1, .int a1), (2, .int a2)]) hw.1 (by decide) (Nat.le_of_ble_eq_true rfl) rfl rfl ?_
  intro p e s m args below meth c G hr hlk hH ls hl
  unfold fX10_firstDown at h
  refine lv_aload_n G.x G.b dX10_firstDown_0 rfl (lv_at hl 0 rfl) ?_
  obtain ⟨M1, eM1, h⟩ := z_bind h
  refine z_aftV (z_runV (k := 0) (As := []) (rest := []) G hH hl.1 (kX10_laysAside l hw eM1) (mM0 hw) vc10 arX10_laysAside u1023 u1025 us40 u11 u1026 rfl rfl rfl (Nat.le_of_ble_eq_true rfl) (Nat.le_of_ble_eq_true rfl) rfl (Nat.le_of_ble_eq_true rfl) dX10_firstDown_1) hH (fun H locs hH => ?_)
  refine lv_iconst (v := (0 : Int32)) G.x G.b dX10_firstDown_4 (by decide) ?_
  refine lv_istore_n (lv' := [(3, .int (0 : Int32)), (0, .ref (za w 0)), (1, .int a1), (2, .int a2)]) G.x G.b dX10_firstDown_5 rfl hl (Nat.le_of_ble_eq_true rfl) rfl (fun ls hl => ?_)
  obtain ⟨E33_4, hE33_4, h⟩ := z_j h
  have kE33_4 : ∀ (M2 : zM) (x3 : Int32) (H : Heap) (locs : List Loc) (ls : Array Slot), E33_4 M2 x3 = some (r, M') → zH w s M2 H locs → lv_has ls 5 [(0, .ref (za w 0)), (3, .int x3)] → zGo p l e rX10_firstDown s m args below meth c (zQ w (some (.int r)) M') (zA w) H locs (F0 m 33 ls []) := by
    intro M2 x3 H locs ls h hH hl
    rw [hE33_4] at h
    refine lv_aload_n G.x G.b dX10_firstDown_33 rfl (lv_at hl 0 rfl) ?_
    refine lv_iload_n G.x G.b dX10_firstDown_34 rfl (lv_at hl 1 rfl) ?_
    obtain ⟨x5, M6, eM6, h⟩ := z_b2 h
    refine z_aftI (z_runV (k := 0) (As := [.int x3]) (rest := []) G hH hl.1 (kX10_takesBack l hw eM6) (mM0 hw) vc10 arX10_takesBack u1027 u1029 us41 u11 u1030 rfl rfl rfl (Nat.le_of_ble_eq_true rfl) (Nat.le_of_ble_eq_true rfl) rfl (Nat.le_of_ble_eq_true rfl) dX10_firstDown_35) hH (fun H locs hH => ?_)
    refine lv_istore (lv' := [(4, .int x5), (0, .ref (za w 0)), (3, .int x3)]) G.x G.b dX10_firstDown_38 hl (Nat.le_of_ble_eq_true rfl) rfl (fun ls hl => ?_)
    refine lv_iload G.x G.b dX10_firstDown_40 (lv_at hl 0 rfl) ?_
    refine lv_sipush (v := (200 : Int32)) G.x G.b dX10_firstDown_42 (by decide) ?_
    refine lv_icmp_le (tgt := 57) G.x G.b dX10_firstDown_45 (by decide) (fun c7 => ?_) (fun c7 => ?_)
    · have h := z_if c7 h
      refine lv_iload G.x G.b dX10_firstDown_57 (lv_at hl 0 rfl) ?_
      exact z_retI G hr hlk hH h dX10_firstDown_59
    · have h := z_ifn c7 h
      refine lv_aload_n G.x G.b dX10_firstDown_48 rfl (lv_at hl 1 rfl) ?_
      refine lv_ldc G.x G.b G.o (G.t u1051) dX10_firstDown_49 ?_
      obtain ⟨x8, M9, eM9, h⟩ := z_b2 h
      refine z_aftI (z_runV (k := 0) (As := [.int (-1000000004 : Int32)]) (rest := []) G hH hl.1 (kX10_finds l hw eM9) (mM0 hw) vc10 arX10_finds u834 u836 us16 u11 u837 rfl rfl rfl (Nat.le_of_ble_eq_true rfl) (Nat.le_of_ble_eq_true rfl) rfl (Nat.le_of_ble_eq_true rfl) dX10_firstDown_51) hH (fun H locs hH => ?_)
      refine lv_goto (tgt := 59) G.x G.b dX10_firstDown_54 (by decide) ?_
      exact z_retI G hr hlk hH h dX10_firstDown_59
  have n12 : ∀ (n : Nat) (M10 : zM) (x11 : Int32) (H : Heap) (locs : List Loc) (ls : Array Slot), zL2 (bX10_firstDown_6 a1 a2 E33_4) n M10 x11 = some (r, M') → zH w s M10 H locs → lv_has ls 5 [(0, .ref (za w 0)), (1, .int a1), (2, .int a2), (3, .int x11)] → zGo p l e rX10_firstDown s m args below meth c (zQ w (some (.int r)) M') (zA w) H locs (F0 m 6 ls []) := by
    intro n
    induction n with
    | zero => intro M10 x11 H locs ls h; exact (zL2_0 h).elim
    | succ n ih12 =>
      intro M10 x11 H locs ls h hH hl
      obtain ⟨rc12, hrc12, h⟩ := zL2_s h
      rw [← hrc12] at ih12
      unfold bX10_firstDown_6 at h
      refine lv_iload_n G.x G.b dX10_firstDown_6 rfl (lv_at hl 3 rfl) ?_
      refine lv_sipush (v := (200 : Int32)) G.x G.b dX10_firstDown_7 (by decide) ?_
      refine lv_icmp_gt (tgt := 33) G.x G.b dX10_firstDown_10 (by decide) (fun c13 => ?_) (fun c13 => ?_)
      · have h := z_if c13 h
        exact kE33_4 M10 x11 H locs ls h hH (lv_sub hl [0, 3] rfl)
      · have h := z_ifn c13 h
        refine lv_aload_n G.x G.b dX10_firstDown_13 rfl (lv_at hl 0 rfl) ?_
        refine z_get (v := .ref (za w 1)) (k := 0) G hH.1 (mM0 hw) vc10 inU10 0 (by decide) u767 rfl dX10_firstDown_14 ?_
        refine lv_iload_n G.x G.b dX10_firstDown_17 rfl (lv_at hl 1 rfl) ?_
        obtain ⟨j14, ej14, h⟩ := z_bind h
        refine z_iald (k := 1) G hH.1 (mM1 hw) ej14 dX10_firstDown_18 ?_
        refine lv_iload_n G.x G.b dX10_firstDown_19 rfl (lv_at hl 2 rfl) ?_
        refine lv_icmp_le (tgt := 33) G.x G.b dX10_firstDown_20 (by decide) (fun c15 => ?_) (fun c15 => ?_)
        · have h := z_if c15 h
          exact kE33_4 M10 x11 H locs ls h hH (lv_sub hl [0, 3] rfl)
        · have h := z_ifn c15 h
          refine lv_aload_n G.x G.b dX10_firstDown_23 rfl (lv_at hl 0 rfl) ?_
          obtain ⟨M16, eM16, h⟩ := z_bind h
          refine z_aftV (z_runV (k := 0) (As := []) (rest := []) G hH hl.1 (kX10_night l hw eM16) (mM0 hw) vc10 arX10_night u996 u998 us36 u11 u999 rfl rfl rfl (Nat.le_of_ble_eq_true rfl) (Nat.le_of_ble_eq_true rfl) rfl (Nat.le_of_ble_eq_true rfl) dX10_firstDown_24) hH (fun H locs hH => ?_)
          obtain ⟨x17, ex17, h⟩ := z_let h
          refine lv_iinc (v := x17) (lv' := [(3, .int x17), (0, .ref (za w 0)), (1, .int a1), (2, .int a2)]) G.x G.b dX10_firstDown_27 hl (k := 3) rfl (by rw [ex17]; rfl) (Nat.le_of_ble_eq_true rfl) rfl (fun ls hl => ?_)
          refine lv_goto (tgt := 6) G.x G.b dX10_firstDown_30 (by decide) ?_
          exact ih12 M16 x17 H locs ls h hH (lv_sub hl [1, 2, 3, 0] rfl)
  exact n12 zFuel M1 (0 : Int32) H locs ls h hH (lv_sub hl [1, 2, 3, 0] rfl)
def fX10_home (M0 : zM) (a1 : Int32) : Option (Int32 × zM) :=
  (fX10_isBeard M0 a1).bind fun x1 =>
  if x1 = (0 : Int32) then (zb2 (fX10_finds M0 (-1000000001 : Int32)) fun x3 M4 =>
  some (x3, M4)) else ((fX10_beardSpot a1 (3 : Int32)).bind fun x5 =>
  zb2 (fX10_firstDown M0 x5 (-1 : Int32)) fun x6 M7 =>
  some (x6, M7))
abbrev rX10_home : Room := { frames := 7, cells := 0, slots := 0, locals := 164 }
theorem arX10_home : zAr yX10_home RX10 1 := ⟨rfl, by decide, by decide, by decide +kernel⟩
set_option maxHeartbeats 4000000 in
theorem kX10_home (l : Launch) {w : zWd} (hw : zIsM w) {M0 M' : zM} {a1 : Int32} {r : Int32} (h : fX10_home M0 a1 = some (r, M')) : Met l yX10_home (Cond.code yX10_home cX10_home 2 (some .int) :: zU) rX10_home (zPre w M0 [.ref (za w 0), .int a1]) (zQ w (some (.int r)) M') 0 0 (zA w) := by
  refine z_metN (own := RX10) (lv := [(0, .ref (za w 0)), (1, .int a1)]) hw.1 (by decide) (Nat.le_of_ble_eq_true rfl) rfl rfl ?_
  intro p e s m args below meth c G hr hlk hH ls hl
  unfold fX10_home at h
  refine lv_aload_n G.x G.b dX10_home_0 rfl (lv_at hl 0 rfl) ?_
  refine lv_iload_n G.x G.b dX10_home_1 rfl (lv_at hl 1 rfl) ?_
  obtain ⟨x1, ex1, h⟩ := z_bind h
  refine z_rdI (z_runV (k := 0) (As := [.int a1]) (rest := []) G hH hl.1 (kX10_isBeard l hw ex1) (mM0 hw) vc10 arX10_isBeard u842 u844 us17 u11 u845 rfl rfl rfl (Nat.le_of_ble_eq_true rfl) (Nat.le_of_ble_eq_true rfl) rfl (Nat.le_of_ble_eq_true rfl) dX10_home_2) ?_
  refine lv_if_eq (tgt := 21) G.x G.b dX10_home_5 (by decide) (fun c2 => ?_) (fun c2 => ?_)
  · have h := z_if c2 h
    refine lv_aload_n G.x G.b dX10_home_21 rfl (lv_at hl 0 rfl) ?_
    refine lv_ldc G.x G.b G.o (G.t u833) dX10_home_22 ?_
    obtain ⟨x3, M4, eM4, h⟩ := z_b2 h
    refine z_aftI (z_runV (k := 0) (As := [.int (-1000000001 : Int32)]) (rest := []) G hH hl.1 (kX10_finds l hw eM4) (mM0 hw) vc10 arX10_finds u834 u836 us16 u11 u837 rfl rfl rfl (Nat.le_of_ble_eq_true rfl) (Nat.le_of_ble_eq_true rfl) rfl (Nat.le_of_ble_eq_true rfl) dX10_home_24) hH (fun H locs hH => ?_)
    exact z_retI G hr hlk hH h dX10_home_27
  · have h := z_ifn c2 h
    refine lv_aload_n G.x G.b dX10_home_8 rfl (lv_at hl 0 rfl) ?_
    refine lv_iload_n G.x G.b dX10_home_9 rfl (lv_at hl 1 rfl) ?_
    refine lv_iconst (v := (3 : Int32)) G.x G.b dX10_home_10 (by decide) ?_
    obtain ⟨x5, ex5, h⟩ := z_bind h
    refine z_rdI (z_runS (As := [.int a1, .int (3 : Int32)]) (rest := [.ref (za w 0)]) G hH hl.1 (kX10_beardSpot l hw.1 ex5) arX10_beardSpot u886 u887 u11 u888 rfl rfl rfl (Nat.le_of_ble_eq_true rfl) (Nat.le_of_ble_eq_true rfl) rfl (Nat.le_of_ble_eq_true rfl) dX10_home_11) ?_
    refine lv_iconst (v := (-1 : Int32)) G.x G.b dX10_home_14 (by decide) ?_
    obtain ⟨x6, M7, eM7, h⟩ := z_b2 h
    refine z_aftI (z_runV (k := 0) (As := [.int x5, .int (-1 : Int32)]) (rest := []) G hH hl.1 (kX10_firstDown l hw eM7) (mM0 hw) vc10 arX10_firstDown u1047 u1049 us43 u11 u1050 rfl rfl rfl (Nat.le_of_ble_eq_true rfl) (Nat.le_of_ble_eq_true rfl) rfl (Nat.le_of_ble_eq_true rfl) dX10_home_15) hH (fun H locs hH => ?_)
    refine lv_goto (tgt := 27) G.x G.b dX10_home_18 (by decide) ?_
    exact z_retI G hr hlk hH h dX10_home_27
def fX10_falls (M0 : zM) (a1 : Int32) (a2 : Int32) : Option (Int32 × zM) :=
  (fX10_isWearer M0 a1).bind fun x1 =>
  if x1 = (0 : Int32) then (zb2 (fX10_finds M0 (-1000000001 : Int32)) fun x3 M4 =>
  some (x3, M4)) else ((fX10_in a2.toInt64 (0 : Int64) (9999 : Int64)).bind fun x5 =>
  if x5 = (0 : Int32) then (zb2 (fX10_finds M0 (-1000000001 : Int32)) fun x7 M8 =>
  some (x7, M8)) else ((fX10_wearerSpot a1 (0 : Int32)).bind fun x9 =>
  zb2 (fX10_firstDown M0 x9 a2) fun x10 M11 =>
  some (x10, M11)))
abbrev rX10_falls : Room := { frames := 7, cells := 0, slots := 0, locals := 164 }
theorem arX10_falls : zAr yX10_falls RX10 2 := ⟨rfl, by decide, by decide, by decide +kernel⟩
set_option maxHeartbeats 4000000 in
theorem kX10_falls (l : Launch) {w : zWd} (hw : zIsM w) {M0 M' : zM} {a1 : Int32} {a2 : Int32} {r : Int32} (h : fX10_falls M0 a1 a2 = some (r, M')) : Met l yX10_falls (Cond.code yX10_falls cX10_falls 3 (some .int) :: zU) rX10_falls (zPre w M0 [.ref (za w 0), .int a1, .int a2]) (zQ w (some (.int r)) M') 0 0 (zA w) := by
  refine z_metN (own := RX10) (lv := [(0, .ref (za w 0)), (1, .int a1), (2, .int a2)]) hw.1 (by decide) (Nat.le_of_ble_eq_true rfl) rfl rfl ?_
  intro p e s m args below meth c G hr hlk hH ls hl
  unfold fX10_falls at h
  refine lv_aload_n G.x G.b dX10_falls_0 rfl (lv_at hl 0 rfl) ?_
  refine lv_iload_n G.x G.b dX10_falls_1 rfl (lv_at hl 1 rfl) ?_
  obtain ⟨x1, ex1, h⟩ := z_bind h
  refine z_rdI (z_runV (k := 0) (As := [.int a1]) (rest := []) G hH hl.1 (kX10_isWearer l hw ex1) (mM0 hw) vc10 arX10_isWearer u964 u966 us33 u11 u967 rfl rfl rfl (Nat.le_of_ble_eq_true rfl) (Nat.le_of_ble_eq_true rfl) rfl (Nat.le_of_ble_eq_true rfl) dX10_falls_2) ?_
  refine lv_if_eq (tgt := 33) G.x G.b dX10_falls_5 (by decide) (fun c2 => ?_) (fun c2 => ?_)
  · have h := z_if c2 h
    refine lv_aload_n G.x G.b dX10_falls_33 rfl (lv_at hl 0 rfl) ?_
    refine lv_ldc G.x G.b G.o (G.t u833) dX10_falls_34 ?_
    obtain ⟨x3, M4, eM4, h⟩ := z_b2 h
    refine z_aftI (z_runV (k := 0) (As := [.int (-1000000001 : Int32)]) (rest := []) G hH hl.1 (kX10_finds l hw eM4) (mM0 hw) vc10 arX10_finds u834 u836 us16 u11 u837 rfl rfl rfl (Nat.le_of_ble_eq_true rfl) (Nat.le_of_ble_eq_true rfl) rfl (Nat.le_of_ble_eq_true rfl) dX10_falls_36) hH (fun H locs hH => ?_)
    exact z_retI G hr hlk hH h dX10_falls_39
  · have h := z_ifn c2 h
    refine lv_iload_n G.x G.b dX10_falls_8 rfl (lv_at hl 2 rfl) ?_
    refine lv_i2l (v := a2.toInt64) G.x G.b dX10_falls_9 rfl ?_
    refine lv_lconst (v := (0 : Int64)) G.x G.b dX10_falls_10 (by decide) ?_
    refine lv_ldc2 G.x G.b G.o (G.t u955) dX10_falls_11 ?_
    obtain ⟨x5, ex5, h⟩ := z_bind h
    refine z_rdI (z_runS (As := [.long a2.toInt64, .long (0 : Int64), .long (9999 : Int64)]) (rest := []) G hH hl.1 (kX10_in l hw.1 ex5) arX10_in u824 u825 u11 u826 rfl rfl rfl (Nat.le_of_ble_eq_true rfl) (Nat.le_of_ble_eq_true rfl) rfl (Nat.le_of_ble_eq_true rfl) dX10_falls_14) ?_
    refine lv_if_eq (tgt := 33) G.x G.b dX10_falls_17 (by decide) (fun c6 => ?_) (fun c6 => ?_)
    · have h := z_if c6 h
      refine lv_aload_n G.x G.b dX10_falls_33 rfl (lv_at hl 0 rfl) ?_
      refine lv_ldc G.x G.b G.o (G.t u833) dX10_falls_34 ?_
      obtain ⟨x7, M8, eM8, h⟩ := z_b2 h
      refine z_aftI (z_runV (k := 0) (As := [.int (-1000000001 : Int32)]) (rest := []) G hH hl.1 (kX10_finds l hw eM8) (mM0 hw) vc10 arX10_finds u834 u836 us16 u11 u837 rfl rfl rfl (Nat.le_of_ble_eq_true rfl) (Nat.le_of_ble_eq_true rfl) rfl (Nat.le_of_ble_eq_true rfl) dX10_falls_36) hH (fun H locs hH => ?_)
      exact z_retI G hr hlk hH h dX10_falls_39
    · have h := z_ifn c6 h
      refine lv_aload_n G.x G.b dX10_falls_20 rfl (lv_at hl 0 rfl) ?_
      refine lv_iload_n G.x G.b dX10_falls_21 rfl (lv_at hl 1 rfl) ?_
      refine lv_iconst (v := (0 : Int32)) G.x G.b dX10_falls_22 (by decide) ?_
      obtain ⟨x9, ex9, h⟩ := z_bind h
      refine z_rdI (z_runS (As := [.int a1, .int (0 : Int32)]) (rest := [.ref (za w 0)]) G hH hl.1 (kX10_wearerSpot l hw.1 ex9) arX10_wearerSpot u867 u868 u11 u869 rfl rfl rfl (Nat.le_of_ble_eq_true rfl) (Nat.le_of_ble_eq_true rfl) rfl (Nat.le_of_ble_eq_true rfl) dX10_falls_23) ?_
      refine lv_iload_n G.x G.b dX10_falls_26 rfl (lv_at hl 2 rfl) ?_
      obtain ⟨x10, M11, eM11, h⟩ := z_b2 h
      refine z_aftI (z_runV (k := 0) (As := [.int x9, .int a2]) (rest := []) G hH hl.1 (kX10_firstDown l hw eM11) (mM0 hw) vc10 arX10_firstDown u1047 u1049 us43 u11 u1050 rfl rfl rfl (Nat.le_of_ble_eq_true rfl) (Nat.le_of_ble_eq_true rfl) rfl (Nat.le_of_ble_eq_true rfl) dX10_falls_27) hH (fun H locs hH => ?_)
      refine lv_goto (tgt := 39) G.x G.b dX10_falls_30 (by decide) ?_
      exact z_retI G hr hlk hH h dX10_falls_39
def fX10_isSoon (a1 : Int32) : Option Int32 :=
  (fX10_in a1.toInt64 (1 : Int64) (60 : Int64)).bind fun x1 =>
  zbl x1
abbrev rX10_isSoon : Room := { frames := 1, cells := 0, slots := 0, locals := 25 }
theorem arX10_isSoon : zAr yX10_isSoon RX10 1 := ⟨rfl, by decide, by decide, by decide +kernel⟩
set_option maxHeartbeats 4000000 in
theorem kX10_isSoon (l : Launch) {w : zWd} (ho : zOk w) {M0 : zM} {a1 : Int32} {r : Int32} (h : fX10_isSoon a1 = some r) : Met l yX10_isSoon (Cond.code yX10_isSoon cX10_isSoon 1 (some .boolean) :: zU) rX10_isSoon (zPre w M0 [.int a1]) (zR (some (.int r))) 0 0 zNo := by
  refine z_metN (own := RX10) (lv := [(0, .int a1)]) ho (by decide) (Nat.le_of_ble_eq_true rfl) rfl rfl ?_
  intro p e s m args below meth c G hr hlk hH ls hl
  unfold fX10_isSoon at h
  refine lv_iload_n G.x G.b dX10_isSoon_0 rfl (lv_at hl 0 rfl) ?_
  refine lv_i2l (v := a1.toInt64) G.x G.b dX10_isSoon_1 rfl ?_
  refine lv_lconst (v := (1 : Int64)) G.x G.b dX10_isSoon_2 (by decide) ?_
  refine lv_ldc2 G.x G.b G.o (G.t u1063) dX10_isSoon_3 ?_
  obtain ⟨x1, ex1, h⟩ := z_bind h
  refine z_rdI (z_runS (As := [.long a1.toInt64, .long (1 : Int64), .long (60 : Int64)]) (rest := []) G hH hl.1 (kX10_in l ho ex1) arX10_in u824 u825 u11 u826 rfl rfl rfl (Nat.le_of_ble_eq_true rfl) (Nat.le_of_ble_eq_true rfl) rfl (Nat.le_of_ble_eq_true rfl) dX10_isSoon_6) ?_
  exact z_rtZ G hr hlk h dX10_isSoon_9
def bX10_best_46 (a1 : Int32) (a2 : Int32) (E140_11 : zM → Int32 → Option (Int32 × zM)) (rc19 : zM → Int32 → Int32 → Int32 → Option (Int32 × zM)) (M15 : zM) (x16 : Int32) (x17 : Int32) (x18 : Int32) : Option (Int32 × zM) :=
  if (M15.1 1 1) ≤ x18 then (E140_11 M15 x16) else ((fX10_its M15 x18 (3 : Int32)).bind fun x21 =>
  zj (fun (M22 : zM) (x23 : Int32) (x24 : Int32) =>
  (some (x18 + (1 : Int32))).bind fun x26 =>
  rc19 M22 x23 x24 x26) fun J134_25 =>
  if x21 = (-1 : Int32) then ((fX10_beardSpot x18 (3 : Int32)).bind fun x28 =>
  (zix x28 59).bind fun j29 =>
  (some (zst M15 1 j29 a1)).bind fun M30 =>
  (fX10_wearerSpot a1 (0 : Int32)).bind fun x31 =>
  zb2 (fX10_behind M30 x31 a2) fun x32 M33 =>
  (fX10_beardSpot x18 (3 : Int32)).bind fun x34 =>
  (zix x34 59).bind fun j35 =>
  (some (zst M33 1 j35 (-1 : Int32))).bind fun M36 =>
  zj (fun (x37 : Int32) =>
  zj (fun (x39 : Int32) =>
  J134_25 M36 x37 x39) fun J132_40 =>
  if x32 ≤ x17 then (J132_40 x17) else (J132_40 x32)) fun J117_38 =>
  if x32 ≤ x17 then (J117_38 x16) else (J117_38 x18)) else (J134_25 M15 x16 x17))
def lX10_best_46 (a1 : Int32) (a2 : Int32) (E140_11 : zM → Int32 → Option (Int32 × zM)) : Nat → zM → Int32 → Int32 → Int32 → Option (Int32 × zM) := zL4 (bX10_best_46 a1 a2 E140_11)
def fX10_best (M0 : zM) (a1 : Int32) (a2 : Int32) : Option (Int32 × zM) :=
  (fX10_isWearer M0 a1).bind fun x1 =>
  if x1 = (0 : Int32) then (zb2 (fX10_finds M0 (-1000000001 : Int32)) fun x3 M4 =>
  some (x3, M4)) else ((fX10_isSoon a2).bind fun x5 =>
  if x5 = (0 : Int32) then (zb2 (fX10_finds M0 (-1000000001 : Int32)) fun x45 M46 =>
  some (x45, M46)) else ((fX10_wornBy M0 a1).bind fun x7 =>
  if x7 = (-1 : Int32) then (zj (fun (M9 : zM) (x10 : Int32) =>
  if (0 : Int32) ≤ x10 then (some (x10, M9)) else (zb2 (fX10_finds M9 (-1000000004 : Int32)) fun x13 M14 =>
  some (x13, M14))) fun E140_11 =>
  lX10_best_46 a1 a2 E140_11 zFuel M0 (-1 : Int32) (-1 : Int32) (0 : Int32)) else (zb2 (fX10_finds M0 (-1000000005 : Int32)) fun x43 M44 =>
  some (x43, M44))))
abbrev rX10_best : Room := { frames := 8, cells := 0, slots := 0, locals := 184 }
theorem arX10_best : zAr yX10_best RX10 2 := ⟨rfl, by decide, by decide, by decide +kernel⟩
set_option maxHeartbeats 4000000 in
theorem kX10_best (l : Launch) {w : zWd} (hw : zIsM w) {M0 M' : zM} {a1 : Int32} {a2 : Int32} {r : Int32} (h : fX10_best M0 a1 a2 = some (r, M')) : Met l yX10_best (Cond.code yX10_best cX10_best 7 (some .int) :: zU) rX10_best (zPre w M0 [.ref (za w 0), .int a1, .int a2]) (zQ w (some (.int r)) M') 0 0 (zA w) := by
  refine z_metN (own := RX10) (lv := [(0, .ref (za w 0)), (1, .int a1), (2, .int a2)]) hw.1 (by decide) (Nat.le_of_ble_eq_true rfl) rfl rfl ?_
  intro p e s m args below meth c G hr hlk hH ls hl
  unfold fX10_best at h
  refine lv_aload_n G.x G.b dX10_best_0 rfl (lv_at hl 0 rfl) ?_
  refine lv_iload_n G.x G.b dX10_best_1 rfl (lv_at hl 1 rfl) ?_
  obtain ⟨x1, ex1, h⟩ := z_bind h
  refine z_rdI (z_runV (k := 0) (As := [.int a1]) (rest := []) G hH hl.1 (kX10_isWearer l hw ex1) (mM0 hw) vc10 arX10_isWearer u964 u966 us33 u11 u967 rfl rfl rfl (Nat.le_of_ble_eq_true rfl) (Nat.le_of_ble_eq_true rfl) rfl (Nat.le_of_ble_eq_true rfl) dX10_best_2) ?_
  refine lv_if_eq (tgt := 15) G.x G.b dX10_best_5 (by decide) (fun c2 => ?_) (fun c2 => ?_)
  · have h := z_if c2 h
    refine lv_aload_n G.x G.b dX10_best_15 rfl (lv_at hl 0 rfl) ?_
    refine lv_ldc G.x G.b G.o (G.t u833) dX10_best_16 ?_
    obtain ⟨x3, M4, eM4, h⟩ := z_b2 h
    refine z_aftI (z_runV (k := 0) (As := [.int (-1000000001 : Int32)]) (rest := []) G hH hl.1 (kX10_finds l hw eM4) (mM0 hw) vc10 arX10_finds u834 u836 us16 u11 u837 rfl rfl rfl (Nat.le_of_ble_eq_true rfl) (Nat.le_of_ble_eq_true rfl) rfl (Nat.le_of_ble_eq_true rfl) dX10_best_18) hH (fun H locs hH => ?_)
    exact z_retI G hr hlk hH h dX10_best_21
  · have h := z_ifn c2 h
    refine lv_iload_n G.x G.b dX10_best_8 rfl (lv_at hl 2 rfl) ?_
    obtain ⟨x5, ex5, h⟩ := z_bind h
    refine z_rdI (z_runS (As := [.int a2]) (rest := []) G hH hl.1 (kX10_isSoon l hw.1 ex5) arX10_isSoon u1060 u1061 u11 u1062 rfl rfl rfl (Nat.le_of_ble_eq_true rfl) (Nat.le_of_ble_eq_true rfl) rfl (Nat.le_of_ble_eq_true rfl) dX10_best_9) ?_
    refine lv_if_ne (tgt := 22) G.x G.b dX10_best_12 (by decide) (fun c6 => ?_) (fun c6 => ?_)
    · have h := z_ifn c6 h
      refine lv_aload_n G.x G.b dX10_best_22 rfl (lv_at hl 0 rfl) ?_
      refine lv_iload_n G.x G.b dX10_best_23 rfl (lv_at hl 1 rfl) ?_
      obtain ⟨x7, ex7, h⟩ := z_bind h
      refine z_rdI (z_runV (k := 0) (As := [.int a1]) (rest := []) G hH hl.1 (kX10_wornBy l hw ex7) (mM0 hw) vc10 arX10_wornBy u969 u971 us34 u11 u972 rfl rfl rfl (Nat.le_of_ble_eq_true rfl) (Nat.le_of_ble_eq_true rfl) rfl (Nat.le_of_ble_eq_true rfl) dX10_best_24) ?_
      refine lv_iconst (v := (-1 : Int32)) G.x G.b dX10_best_27 (by decide) ?_
      refine lv_icmp_eq (tgt := 38) G.x G.b dX10_best_28 (by decide) (fun c8 => ?_) (fun c8 => ?_)
      · have h := z_if c8 h
        refine lv_iconst (v := (-1 : Int32)) G.x G.b dX10_best_38 (by decide) ?_
        refine lv_istore_n (lv' := [(3, .int (-1 : Int32)), (0, .ref (za w 0)), (1, .int a1), (2, .int a2)]) G.x G.b dX10_best_39 rfl hl (Nat.le_of_ble_eq_true rfl) rfl (fun ls hl => ?_)
        refine lv_iconst (v := (-1 : Int32)) G.x G.b dX10_best_40 (by decide) ?_
        refine lv_istore (lv' := [(4, .int (-1 : Int32)), (3, .int (-1 : Int32)), (0, .ref (za w 0)), (1, .int a1), (2, .int a2)]) G.x G.b dX10_best_41 hl (Nat.le_of_ble_eq_true rfl) rfl (fun ls hl => ?_)
        refine lv_iconst (v := (0 : Int32)) G.x G.b dX10_best_43 (by decide) ?_
        refine lv_istore (lv' := [(5, .int (0 : Int32)), (4, .int (-1 : Int32)), (3, .int (-1 : Int32)), (0, .ref (za w 0)), (1, .int a1), (2, .int a2)]) G.x G.b dX10_best_44 hl (Nat.le_of_ble_eq_true rfl) rfl (fun ls hl => ?_)
        obtain ⟨E140_11, hE140_11, h⟩ := z_j h
        have kE140_11 : ∀ (M9 : zM) (x10 : Int32) (H : Heap) (locs : List Loc) (ls : Array Slot), E140_11 M9 x10 = some (r, M') → zH w s M9 H locs → lv_has ls 7 [(0, .ref (za w 0)), (3, .int x10)] → zGo p l e rX10_best s m args below meth c (zQ w (some (.int r)) M') (zA w) H locs (F0 m 140 ls []) := by
          intro M9 x10 H locs ls h hH hl
          rw [hE140_11] at h
          refine lv_iload_n G.x G.b dX10_best_140 rfl (lv_at hl 1 rfl) ?_
          refine lv_if_ge (tgt := 153) G.x G.b dX10_best_141 (by decide) (fun c12 => ?_) (fun c12 => ?_)
          · have h := z_if c12 h
            refine lv_iload_n G.x G.b dX10_best_153 rfl (lv_at hl 1 rfl) ?_
            exact z_retI G hr hlk hH h dX10_best_154
          · have h := z_ifn c12 h
            refine lv_aload_n G.x G.b dX10_best_144 rfl (lv_at hl 0 rfl) ?_
            refine lv_ldc G.x G.b G.o (G.t u1051) dX10_best_145 ?_
            obtain ⟨x13, M14, eM14, h⟩ := z_b2 h
            refine z_aftI (z_runV (k := 0) (As := [.int (-1000000004 : Int32)]) (rest := []) G hH hl.1 (kX10_finds l hw eM14) (mM0 hw) vc10 arX10_finds u834 u836 us16 u11 u837 rfl rfl rfl (Nat.le_of_ble_eq_true rfl) (Nat.le_of_ble_eq_true rfl) rfl (Nat.le_of_ble_eq_true rfl) dX10_best_147) hH (fun H locs hH => ?_)
            refine lv_goto (tgt := 154) G.x G.b dX10_best_150 (by decide) ?_
            exact z_retI G hr hlk hH h dX10_best_154
        have n19 : ∀ (n : Nat) (M15 : zM) (x16 : Int32) (x17 : Int32) (x18 : Int32) (H : Heap) (locs : List Loc) (ls : Array Slot), zL4 (bX10_best_46 a1 a2 E140_11) n M15 x16 x17 x18 = some (r, M') → zH w s M15 H locs → lv_has ls 7 [(0, .ref (za w 0)), (1, .int a1), (2, .int a2), (3, .int x16), (4, .int x17), (5, .int x18)] → zGo p l e rX10_best s m args below meth c (zQ w (some (.int r)) M') (zA w) H locs (F0 m 46 ls []) := by
          intro n
          induction n with
          | zero => intro M15 x16 x17 x18 H locs ls h; exact (zL4_0 h).elim
          | succ n ih19 =>
            intro M15 x16 x17 x18 H locs ls h hH hl
            obtain ⟨rc19, hrc19, h⟩ := zL4_s h
            rw [← hrc19] at ih19
            unfold bX10_best_46 at h
            refine lv_iload G.x G.b dX10_best_46 (lv_at hl 5 rfl) ?_
            refine lv_aload_n G.x G.b dX10_best_48 rfl (lv_at hl 0 rfl) ?_
            refine z_get (v := .ref (za w 1)) (k := 0) G hH.1 (mM0 hw) vc10 inU10 0 (by decide) u767 rfl dX10_best_49 ?_
            refine lv_iconst (v := (1 : Int32)) G.x G.b dX10_best_52 (by decide) ?_
            refine z_iald (k := 1) G hH.1 (mM1 hw) (by decide : zix (1 : Int32) 59 = some 1) dX10_best_53 ?_
            refine lv_icmp_ge (tgt := 140) G.x G.b dX10_best_54 (by decide) (fun c20 => ?_) (fun c20 => ?_)
            · have h := z_if c20 h
              exact kE140_11 M15 x16 H locs ls h hH (lv_sub hl [0, 3] rfl)
            · have h := z_ifn c20 h
              refine lv_aload_n G.x G.b dX10_best_57 rfl (lv_at hl 0 rfl) ?_
              refine lv_iload G.x G.b dX10_best_58 (lv_at hl 5 rfl) ?_
              refine lv_iconst (v := (3 : Int32)) G.x G.b dX10_best_60 (by decide) ?_
              obtain ⟨x21, ex21, h⟩ := z_bind h
              refine z_rdI (z_runV (k := 0) (As := [.int x18, .int (3 : Int32)]) (rest := []) G hH hl.1 (kX10_its l hw ex21) (mM0 hw) vc10 arX10_its u882 u884 us24 u11 u885 rfl rfl rfl (Nat.le_of_ble_eq_true rfl) (Nat.le_of_ble_eq_true rfl) rfl (Nat.le_of_ble_eq_true rfl) dX10_best_61) ?_
              refine lv_iconst (v := (-1 : Int32)) G.x G.b dX10_best_64 (by decide) ?_
              obtain ⟨J134_25, hJ134_25, h⟩ := z_j h
              have kJ134_25 : ∀ (M22 : zM) (x23 : Int32) (x24 : Int32) (H : Heap) (locs : List Loc) (ls : Array Slot), J134_25 M22 x23 x24 = some (r, M') → zH w s M22 H locs → lv_has ls 7 [(0, .ref (za w 0)), (1, .int a1), (2, .int a2), (3, .int x23), (4, .int x24), (5, .int x18)] → zGo p l e rX10_best s m args below meth c (zQ w (some (.int r)) M') (zA w) H locs (F0 m 134 ls []) := by
                intro M22 x23 x24 H locs ls h hH hl
                rw [hJ134_25] at h
                obtain ⟨x26, ex26, h⟩ := z_let h
                refine lv_iinc (v := x26) (lv' := [(5, .int x26), (0, .ref (za w 0)), (1, .int a1), (2, .int a2), (3, .int x23), (4, .int x24)]) G.x G.b dX10_best_134 hl (k := 5) rfl (by rw [ex26]; rfl) (Nat.le_of_ble_eq_true rfl) rfl (fun ls hl => ?_)
                refine lv_goto (tgt := 46) G.x G.b dX10_best_137 (by decide) ?_
                exact ih19 M22 x23 x24 x26 H locs ls h hH (lv_sub hl [1, 2, 3, 4, 5, 0] rfl)
              refine lv_icmp_ne (tgt := 134) G.x G.b dX10_best_65 (by decide) (fun c27 => ?_) (fun c27 => ?_)
              · have h := z_ifn c27 h
                exact kJ134_25 M15 x16 x17 H locs ls h hH (lv_sub hl [0, 1, 2, 3, 4, 5] rfl)
              · have h := z_if c27 h
                refine lv_aload_n G.x G.b dX10_best_68 rfl (lv_at hl 0 rfl) ?_
                refine z_get (v := .ref (za w 1)) (k := 0) G hH.1 (mM0 hw) vc10 inU10 0 (by decide) u767 rfl dX10_best_69 ?_
                refine lv_iload G.x G.b dX10_best_72 (lv_at hl 5 rfl) ?_
                refine lv_iconst (v := (3 : Int32)) G.x G.b dX10_best_74 (by decide) ?_
                obtain ⟨x28, ex28, h⟩ := z_bind h
                refine z_rdI (z_runS (As := [.int x18, .int (3 : Int32)]) (rest := [.ref (za w 1)]) G hH hl.1 (kX10_beardSpot l hw.1 ex28) arX10_beardSpot u886 u887 u11 u888 rfl rfl rfl (Nat.le_of_ble_eq_true rfl) (Nat.le_of_ble_eq_true rfl) rfl (Nat.le_of_ble_eq_true rfl) dX10_best_75) ?_
                refine lv_iload_n G.x G.b dX10_best_78 rfl (lv_at hl 1 rfl) ?_
                obtain ⟨j29, ej29, h⟩ := z_bind h
                obtain ⟨M30, eM30, h⟩ := z_let h
                refine z_iastN (k := 1) G hH (mM1 hw) ej29 dX10_best_79 eM30 (fun H locs hH => ?_)
                refine lv_aload_n G.x G.b dX10_best_80 rfl (lv_at hl 0 rfl) ?_
                refine lv_iload_n G.x G.b dX10_best_81 rfl (lv_at hl 1 rfl) ?_
                refine lv_iconst (v := (0 : Int32)) G.x G.b dX10_best_82 (by decide) ?_
                obtain ⟨x31, ex31, h⟩ := z_bind h
                refine z_rdI (z_runS (As := [.int a1, .int (0 : Int32)]) (rest := [.ref (za w 0)]) G hH hl.1 (kX10_wearerSpot l hw.1 ex31) arX10_wearerSpot u867 u868 u11 u869 rfl rfl rfl (Nat.le_of_ble_eq_true rfl) (Nat.le_of_ble_eq_true rfl) rfl (Nat.le_of_ble_eq_true rfl) dX10_best_83) ?_
                refine lv_iload_n G.x G.b dX10_best_86 rfl (lv_at hl 2 rfl) ?_
                obtain ⟨x32, M33, eM33, h⟩ := z_b2 h
                refine z_aftI (z_runV (k := 0) (As := [.int x31, .int a2]) (rest := []) G hH hl.1 (kX10_behind l hw eM33) (mM0 hw) vc10 arX10_behind u1019 u1021 us39 u11 u1022 rfl rfl rfl (Nat.le_of_ble_eq_true rfl) (Nat.le_of_ble_eq_true rfl) rfl (Nat.le_of_ble_eq_true rfl) dX10_best_87) hH (fun H locs hH => ?_)
                refine lv_istore (lv' := [(6, .int x32), (0, .ref (za w 0)), (1, .int a1), (2, .int a2), (3, .int x16), (4, .int x17), (5, .int x18)]) G.x G.b dX10_best_90 hl (Nat.le_of_ble_eq_true rfl) rfl (fun ls hl => ?_)
                refine lv_aload_n G.x G.b dX10_best_92 rfl (lv_at hl 1 rfl) ?_
                refine z_get (v := .ref (za w 1)) (k := 0) G hH.1 (mM0 hw) vc10 inU10 0 (by decide) u767 rfl dX10_best_93 ?_
                refine lv_iload G.x G.b dX10_best_96 (lv_at hl 6 rfl) ?_
                refine lv_iconst (v := (3 : Int32)) G.x G.b dX10_best_98 (by decide) ?_
                obtain ⟨x34, ex34, h⟩ := z_bind h
                refine z_rdI (z_runS (As := [.int x18, .int (3 : Int32)]) (rest := [.ref (za w 1)]) G hH hl.1 (kX10_beardSpot l hw.1 ex34) arX10_beardSpot u886 u887 u11 u888 rfl rfl rfl (Nat.le_of_ble_eq_true rfl) (Nat.le_of_ble_eq_true rfl) rfl (Nat.le_of_ble_eq_true rfl) dX10_best_99) ?_
                refine lv_iconst (v := (-1 : Int32)) G.x G.b dX10_best_102 (by decide) ?_
                obtain ⟨j35, ej35, h⟩ := z_bind h
                obtain ⟨M36, eM36, h⟩ := z_let h
                refine z_iastN (k := 1) G hH (mM1 hw) ej35 dX10_best_103 eM36 (fun H locs hH => ?_)
                refine lv_iload G.x G.b dX10_best_104 (lv_at hl 0 rfl) ?_
                refine lv_iload G.x G.b dX10_best_106 (lv_at hl 5 rfl) ?_
                obtain ⟨J117_38, hJ117_38, h⟩ := z_j h
                have kJ117_38 : ∀ (x37 : Int32) (ls : Array Slot), J117_38 x37 = some (r, M') → lv_has ls 7 [(0, .ref (za w 0)), (1, .int a1), (2, .int a2), (4, .int x17), (5, .int x18), (6, .int x32)] → zGo p l e rX10_best s m args below meth c (zQ w (some (.int r)) M') (zA w) H locs (F0 m 117 ls [.int x37]) := by
                  intro x37 ls h hl
                  rw [hJ117_38] at h
                  refine lv_istore_n (lv' := [(3, .int x37), (0, .ref (za w 0)), (1, .int a1), (2, .int a2), (4, .int x17), (5, .int x18), (6, .int x32)]) G.x G.b dX10_best_117 rfl hl (Nat.le_of_ble_eq_true rfl) rfl (fun ls hl => ?_)
                  refine lv_iload G.x G.b dX10_best_118 (lv_at hl 6 rfl) ?_
                  refine lv_iload G.x G.b dX10_best_120 (lv_at hl 4 rfl) ?_
                  obtain ⟨J132_40, hJ132_40, h⟩ := z_j h
                  have kJ132_40 : ∀ (x39 : Int32) (ls : Array Slot), J132_40 x39 = some (r, M') → lv_has ls 7 [(0, .ref (za w 0)), (1, .int a1), (2, .int a2), (3, .int x37), (5, .int x18)] → zGo p l e rX10_best s m args below meth c (zQ w (some (.int r)) M') (zA w) H locs (F0 m 132 ls [.int x39]) := by
                    intro x39 ls h hl
                    rw [hJ132_40] at h
                    refine lv_istore (lv' := [(4, .int x39), (0, .ref (za w 0)), (1, .int a1), (2, .int a2), (3, .int x37), (5, .int x18)]) G.x G.b dX10_best_132 hl (Nat.le_of_ble_eq_true rfl) rfl (fun ls hl => ?_)
                    exact kJ134_25 M36 x37 x39 H locs ls h hH (lv_sub hl [1, 2, 3, 4, 0, 5] rfl)
                  refine lv_icmp_le (tgt := 130) G.x G.b dX10_best_122 (by decide) (fun c41 => ?_) (fun c41 => ?_)
                  · have h := z_if c41 h
                    refine lv_iload G.x G.b dX10_best_130 (lv_at hl 4 rfl) ?_
                    exact kJ132_40 x17 ls h (lv_sub hl [1, 2, 3, 0, 5] rfl)
                  · have h := z_ifn c41 h
                    refine lv_iload G.x G.b dX10_best_125 (lv_at hl 6 rfl) ?_
                    refine lv_goto (tgt := 132) G.x G.b dX10_best_127 (by decide) ?_
                    exact kJ132_40 x32 ls h (lv_sub hl [1, 2, 3, 0, 5] rfl)
                refine lv_icmp_le (tgt := 116) G.x G.b dX10_best_108 (by decide) (fun c42 => ?_) (fun c42 => ?_)
                · have h := z_if c42 h
                  refine lv_iload_n G.x G.b dX10_best_116 rfl (lv_at hl 4 rfl) ?_
                  exact kJ117_38 x16 ls h (lv_sub hl [1, 2, 3, 5, 6, 0] rfl)
                · have h := z_ifn c42 h
                  refine lv_iload G.x G.b dX10_best_111 (lv_at hl 6 rfl) ?_
                  refine lv_goto (tgt := 117) G.x G.b dX10_best_113 (by decide) ?_
                  exact kJ117_38 x18 ls h (lv_sub hl [1, 2, 3, 5, 6, 0] rfl)
        exact n19 zFuel M0 (-1 : Int32) (-1 : Int32) (0 : Int32) s.heap [] ls h hH (lv_sub hl [3, 4, 5, 2, 1, 0] rfl)
      · have h := z_ifn c8 h
        refine lv_aload_n G.x G.b dX10_best_31 rfl (lv_at hl 0 rfl) ?_
        refine lv_ldc G.x G.b G.o (G.t u981) dX10_best_32 ?_
        obtain ⟨x43, M44, eM44, h⟩ := z_b2 h
        refine z_aftI (z_runV (k := 0) (As := [.int (-1000000005 : Int32)]) (rest := []) G hH hl.1 (kX10_finds l hw eM44) (mM0 hw) vc10 arX10_finds u834 u836 us16 u11 u837 rfl rfl rfl (Nat.le_of_ble_eq_true rfl) (Nat.le_of_ble_eq_true rfl) rfl (Nat.le_of_ble_eq_true rfl) dX10_best_34) hH (fun H locs hH => ?_)
        exact z_retI G hr hlk hH h dX10_best_37
    · have h := z_if c6 h
      refine lv_aload_n G.x G.b dX10_best_15 rfl (lv_at hl 0 rfl) ?_
      refine lv_ldc G.x G.b G.o (G.t u833) dX10_best_16 ?_
      obtain ⟨x45, M46, eM46, h⟩ := z_b2 h
      refine z_aftI (z_runV (k := 0) (As := [.int (-1000000001 : Int32)]) (rest := []) G hH hl.1 (kX10_finds l hw eM46) (mM0 hw) vc10 arX10_finds u834 u836 us16 u11 u837 rfl rfl rfl (Nat.le_of_ble_eq_true rfl) (Nat.le_of_ble_eq_true rfl) rfl (Nat.le_of_ble_eq_true rfl) dX10_best_18) hH (fun H locs hH => ?_)
      exact z_retI G hr hlk hH h dX10_best_21
def bX10_mostBy_17 (a1 : Int32) (a2 : Int32) (a3 : Int32) (a4 : Int32) (E91_5 : zM → Int32 → Option (Int32 × zM)) (rc12 : zM → Int32 → Int32 → Int32 → Option (Int32 × zM)) (M8 : zM) (x9 : Int32) (x10 : Int32) (x11 : Int32) : Option (Int32 × zM) :=
  if a2 < x11 then (E91_5 M8 x9) else ((zix a1 59).bind fun j14 =>
  (some (zst M8 1 j14 x11)).bind fun M15 =>
  zj (fun (M16 : zM) (x17 : Int32) =>
  zj (fun (x19 : Int32) =>
  zj (fun (x21 : Int32) =>
  (some (x11 + (1 : Int32))).bind fun x23 =>
  rc12 M16 x19 x21 x23) fun J83_22 =>
  if x17 ≤ x10 then (J83_22 x10) else (J83_22 x17)) fun J67_20 =>
  if x17 ≤ x10 then (J67_20 x9) else (J67_20 x11)) fun J51_18 =>
  if (0 : Int32) ≤ a3 then (zb2 (fX10_behind M15 a3 a4) fun x27 M28 =>
  J51_18 M28 x27) else (zb2 (fX10_pursesBehind M15 a4) fun x29 M30 =>
  J51_18 M30 x29))
def lX10_mostBy_17 (a1 : Int32) (a2 : Int32) (a3 : Int32) (a4 : Int32) (E91_5 : zM → Int32 → Option (Int32 × zM)) : Nat → zM → Int32 → Int32 → Int32 → Option (Int32 × zM) := zL4 (bX10_mostBy_17 a1 a2 a3 a4 E91_5)
def fX10_mostBy (M0 : zM) (a1 : Int32) (a2 : Int32) (a3 : Int32) (a4 : Int32) : Option (Int32 × zM) :=
  (zix a1 59).bind fun j1 =>
  (some (M0.1 1 j1)).bind fun x2 =>
  zj (fun (M3 : zM) (x4 : Int32) =>
  (zix a1 59).bind fun j6 =>
  (some (zst M3 1 j6 x2)).bind fun M7 =>
  some (x4, M7)) fun E91_5 =>
  lX10_mostBy_17 a1 a2 a3 a4 E91_5 zFuel M0 (0 : Int32) (-1 : Int32) (0 : Int32)
abbrev rX10_mostBy : Room := { frames := 8, cells := 0, slots := 0, locals := 184 }
theorem arX10_mostBy : zAr yX10_mostBy RX10 4 := ⟨rfl, by decide, by decide, by decide +kernel⟩
set_option maxHeartbeats 4000000 in
theorem kX10_mostBy (l : Launch) {w : zWd} (hw : zIsM w) {M0 M' : zM} {a1 : Int32} {a2 : Int32} {a3 : Int32} {a4 : Int32} {r : Int32} (h : fX10_mostBy M0 a1 a2 a3 a4 = some (r, M')) : Met l yX10_mostBy (Cond.code yX10_mostBy cX10_mostBy 10 (some .int) :: zU) rX10_mostBy (zPre w M0 [.ref (za w 0), .int a1, .int a2, .int a3, .int a4]) (zQ w (some (.int r)) M') 0 0 (zA w) := by
  refine z_metN (own := RX10) (lv := [(0, .ref (za w 0)), (1, .int a1), (2, .int a2), (3, .int a3), (4, .int a4)]) hw.1 (by decide) (Nat.le_of_ble_eq_true rfl) rfl rfl ?_
  intro p e s m args below meth c G hr hlk hH ls hl
  unfold fX10_mostBy at h
  refine lv_aload_n G.x G.b dX10_mostBy_0 rfl (lv_at hl 0 rfl) ?_
  refine z_get (v := .ref (za w 1)) (k := 0) G hH.1 (mM0 hw) vc10 inU10 0 (by decide) u767 rfl dX10_mostBy_1 ?_
  refine lv_iload_n G.x G.b dX10_mostBy_4 rfl (lv_at hl 1 rfl) ?_
  obtain ⟨j1, ej1, h⟩ := z_bind h
  refine z_iald (k := 1) G hH.1 (mM1 hw) ej1 dX10_mostBy_5 ?_
  obtain ⟨x2, ex2, h⟩ := z_let h
  refine z_nmI ex2 ?_
  refine lv_istore (lv' := [(5, .int x2), (0, .ref (za w 0)), (1, .int a1), (2, .int a2), (3, .int a3), (4, .int a4)]) G.x G.b dX10_mostBy_6 hl (Nat.le_of_ble_eq_true rfl) rfl (fun ls hl => ?_)
  refine lv_iconst (v := (0 : Int32)) G.x G.b dX10_mostBy_8 (by decide) ?_
  refine lv_istore (lv' := [(6, .int (0 : Int32)), (5, .int x2), (0, .ref (za w 0)), (1, .int a1), (2, .int a2), (3, .int a3), (4, .int a4)]) G.x G.b dX10_mostBy_9 hl (Nat.le_of_ble_eq_true rfl) rfl (fun ls hl => ?_)
  refine lv_iconst (v := (-1 : Int32)) G.x G.b dX10_mostBy_11 (by decide) ?_
  refine lv_istore (lv' := [(7, .int (-1 : Int32)), (6, .int (0 : Int32)), (5, .int x2), (0, .ref (za w 0)), (1, .int a1), (2, .int a2), (3, .int a3), (4, .int a4)]) G.x G.b dX10_mostBy_12 hl (Nat.le_of_ble_eq_true rfl) rfl (fun ls hl => ?_)
  refine lv_iconst (v := (0 : Int32)) G.x G.b dX10_mostBy_14 (by decide) ?_
  refine lv_istore (lv' := [(8, .int (0 : Int32)), (7, .int (-1 : Int32)), (6, .int (0 : Int32)), (5, .int x2), (0, .ref (za w 0)), (1, .int a1), (2, .int a2), (3, .int a3), (4, .int a4)]) G.x G.b dX10_mostBy_15 hl (Nat.le_of_ble_eq_true rfl) rfl (fun ls hl => ?_)
  obtain ⟨E91_5, hE91_5, h⟩ := z_j h
  have kE91_5 : ∀ (M3 : zM) (x4 : Int32) (H : Heap) (locs : List Loc) (ls : Array Slot), E91_5 M3 x4 = some (r, M') → zH w s M3 H locs → lv_has ls 10 [(0, .ref (za w 0)), (1, .int a1), (5, .int x2), (6, .int x4)] → zGo p l e rX10_mostBy s m args below meth c (zQ w (some (.int r)) M') (zA w) H locs (F0 m 91 ls []) := by
    intro M3 x4 H locs ls h hH hl
    rw [hE91_5] at h
    refine lv_aload_n G.x G.b dX10_mostBy_91 rfl (lv_at hl 0 rfl) ?_
    refine z_get (v := .ref (za w 1)) (k := 0) G hH.1 (mM0 hw) vc10 inU10 0 (by decide) u767 rfl dX10_mostBy_92 ?_
    refine lv_iload_n G.x G.b dX10_mostBy_95 rfl (lv_at hl 1 rfl) ?_
    refine lv_iload G.x G.b dX10_mostBy_96 (lv_at hl 2 rfl) ?_
    obtain ⟨j6, ej6, h⟩ := z_bind h
    obtain ⟨M7, eM7, h⟩ := z_let h
    refine z_iastN (k := 1) G hH (mM1 hw) ej6 dX10_mostBy_98 eM7 (fun H locs hH => ?_)
    refine lv_iload G.x G.b dX10_mostBy_99 (lv_at hl 3 rfl) ?_
    exact z_retI G hr hlk hH h dX10_mostBy_101
  have n12 : ∀ (n : Nat) (M8 : zM) (x9 : Int32) (x10 : Int32) (x11 : Int32) (H : Heap) (locs : List Loc) (ls : Array Slot), zL4 (bX10_mostBy_17 a1 a2 a3 a4 E91_5) n M8 x9 x10 x11 = some (r, M') → zH w s M8 H locs → lv_has ls 10 [(0, .ref (za w 0)), (1, .int a1), (2, .int a2), (3, .int a3), (4, .int a4), (5, .int x2), (6, .int x9), (7, .int x10), (8, .int x11)] → zGo p l e rX10_mostBy s m args below meth c (zQ w (some (.int r)) M') (zA w) H locs (F0 m 17 ls []) := by
    intro n
    induction n with
    | zero => intro M8 x9 x10 x11 H locs ls h; exact (zL4_0 h).elim
    | succ n ih12 =>
      intro M8 x9 x10 x11 H locs ls h hH hl
      obtain ⟨rc12, hrc12, h⟩ := zL4_s h
      rw [← hrc12] at ih12
      unfold bX10_mostBy_17 at h
      refine lv_iload G.x G.b dX10_mostBy_17 (lv_at hl 8 rfl) ?_
      refine lv_iload_n G.x G.b dX10_mostBy_19 rfl (lv_at hl 2 rfl) ?_
      refine lv_icmp_gt (tgt := 91) G.x G.b dX10_mostBy_20 (by decide) (fun c13 => ?_) (fun c13 => ?_)
      · have h := z_if c13 h
        exact kE91_5 M8 x9 H locs ls h hH (lv_sub hl [0, 1, 5, 6] rfl)
      · have h := z_ifn c13 h
        refine lv_aload_n G.x G.b dX10_mostBy_23 rfl (lv_at hl 0 rfl) ?_
        refine z_get (v := .ref (za w 1)) (k := 0) G hH.1 (mM0 hw) vc10 inU10 0 (by decide) u767 rfl dX10_mostBy_24 ?_
        refine lv_iload_n G.x G.b dX10_mostBy_27 rfl (lv_at hl 1 rfl) ?_
        refine lv_iload G.x G.b dX10_mostBy_28 (lv_at hl 8 rfl) ?_
        obtain ⟨j14, ej14, h⟩ := z_bind h
        obtain ⟨M15, eM15, h⟩ := z_let h
        refine z_iastN (k := 1) G hH (mM1 hw) ej14 dX10_mostBy_30 eM15 (fun H locs hH => ?_)
        refine lv_iload_n G.x G.b dX10_mostBy_31 rfl (lv_at hl 3 rfl) ?_
        obtain ⟨J51_18, hJ51_18, h⟩ := z_j h
        have kJ51_18 : ∀ (M16 : zM) (x17 : Int32) (H : Heap) (locs : List Loc) (ls : Array Slot), J51_18 M16 x17 = some (r, M') → zH w s M16 H locs → lv_has ls 10 [(0, .ref (za w 0)), (1, .int a1), (2, .int a2), (3, .int a3), (4, .int a4), (5, .int x2), (6, .int x9), (7, .int x10), (8, .int x11)] → zGo p l e rX10_mostBy s m args below meth c (zQ w (some (.int r)) M') (zA w) H locs (F0 m 51 ls [.int x17]) := by
          intro M16 x17 H locs ls h hH hl
          rw [hJ51_18] at h
          refine lv_istore (lv' := [(9, .int x17), (0, .ref (za w 0)), (1, .int a1), (2, .int a2), (3, .int a3), (4, .int a4), (5, .int x2), (6, .int x9), (7, .int x10), (8, .int x11)]) G.x G.b dX10_mostBy_51 hl (Nat.le_of_ble_eq_true rfl) rfl (fun ls hl => ?_)
          refine lv_iload G.x G.b dX10_mostBy_53 (lv_at hl 0 rfl) ?_
          refine lv_iload G.x G.b dX10_mostBy_55 (lv_at hl 8 rfl) ?_
          obtain ⟨J67_20, hJ67_20, h⟩ := z_j h
          have kJ67_20 : ∀ (x19 : Int32) (ls : Array Slot), J67_20 x19 = some (r, M') → lv_has ls 10 [(0, .ref (za w 0)), (1, .int a1), (2, .int a2), (3, .int a3), (4, .int a4), (5, .int x2), (7, .int x10), (8, .int x11), (9, .int x17)] → zGo p l e rX10_mostBy s m args below meth c (zQ w (some (.int r)) M') (zA w) H locs (F0 m 67 ls [.int x19]) := by
            intro x19 ls h hl
            rw [hJ67_20] at h
            refine lv_istore (lv' := [(6, .int x19), (0, .ref (za w 0)), (1, .int a1), (2, .int a2), (3, .int a3), (4, .int a4), (5, .int x2), (7, .int x10), (8, .int x11), (9, .int x17)]) G.x G.b dX10_mostBy_67 hl (Nat.le_of_ble_eq_true rfl) rfl (fun ls hl => ?_)
            refine lv_iload G.x G.b dX10_mostBy_69 (lv_at hl 9 rfl) ?_
            refine lv_iload G.x G.b dX10_mostBy_71 (lv_at hl 7 rfl) ?_
            obtain ⟨J83_22, hJ83_22, h⟩ := z_j h
            have kJ83_22 : ∀ (x21 : Int32) (ls : Array Slot), J83_22 x21 = some (r, M') → lv_has ls 10 [(0, .ref (za w 0)), (1, .int a1), (2, .int a2), (3, .int a3), (4, .int a4), (5, .int x2), (6, .int x19), (8, .int x11)] → zGo p l e rX10_mostBy s m args below meth c (zQ w (some (.int r)) M') (zA w) H locs (F0 m 83 ls [.int x21]) := by
              intro x21 ls h hl
              rw [hJ83_22] at h
              refine lv_istore (lv' := [(7, .int x21), (0, .ref (za w 0)), (1, .int a1), (2, .int a2), (3, .int a3), (4, .int a4), (5, .int x2), (6, .int x19), (8, .int x11)]) G.x G.b dX10_mostBy_83 hl (Nat.le_of_ble_eq_true rfl) rfl (fun ls hl => ?_)
              obtain ⟨x23, ex23, h⟩ := z_let h
              refine lv_iinc (v := x23) (lv' := [(8, .int x23), (7, .int x21), (0, .ref (za w 0)), (1, .int a1), (2, .int a2), (3, .int a3), (4, .int a4), (5, .int x2), (6, .int x19)]) G.x G.b dX10_mostBy_85 hl (k := 8) rfl (by rw [ex23]; rfl) (Nat.le_of_ble_eq_true rfl) rfl (fun ls hl => ?_)
              refine lv_goto (tgt := 17) G.x G.b dX10_mostBy_88 (by decide) ?_
              exact ih12 M16 x19 x21 x23 H locs ls h hH (lv_sub hl [2, 3, 4, 5, 6, 7, 8, 1, 0] rfl)
            refine lv_icmp_le (tgt := 81) G.x G.b dX10_mostBy_73 (by decide) (fun c24 => ?_) (fun c24 => ?_)
            · have h := z_if c24 h
              refine lv_iload G.x G.b dX10_mostBy_81 (lv_at hl 7 rfl) ?_
              exact kJ83_22 x10 ls h (lv_sub hl [1, 2, 3, 4, 5, 6, 0, 8] rfl)
            · have h := z_ifn c24 h
              refine lv_iload G.x G.b dX10_mostBy_76 (lv_at hl 9 rfl) ?_
              refine lv_goto (tgt := 83) G.x G.b dX10_mostBy_78 (by decide) ?_
              exact kJ83_22 x17 ls h (lv_sub hl [1, 2, 3, 4, 5, 6, 0, 8] rfl)
          refine lv_icmp_le (tgt := 65) G.x G.b dX10_mostBy_57 (by decide) (fun c25 => ?_) (fun c25 => ?_)
          · have h := z_if c25 h
            refine lv_iload G.x G.b dX10_mostBy_65 (lv_at hl 7 rfl) ?_
            exact kJ67_20 x9 ls h (lv_sub hl [1, 2, 3, 4, 5, 6, 8, 9, 0] rfl)
          · have h := z_ifn c25 h
            refine lv_iload G.x G.b dX10_mostBy_60 (lv_at hl 9 rfl) ?_
            refine lv_goto (tgt := 67) G.x G.b dX10_mostBy_62 (by decide) ?_
            exact kJ67_20 x11 ls h (lv_sub hl [1, 2, 3, 4, 5, 6, 8, 9, 0] rfl)
        refine lv_if_ge (tgt := 44) G.x G.b dX10_mostBy_32 (by decide) (fun c26 => ?_) (fun c26 => ?_)
        · have h := z_if c26 h
          refine lv_aload_n G.x G.b dX10_mostBy_44 rfl (lv_at hl 0 rfl) ?_
          refine lv_iload_n G.x G.b dX10_mostBy_45 rfl (lv_at hl 3 rfl) ?_
          refine lv_iload G.x G.b dX10_mostBy_46 (lv_at hl 4 rfl) ?_
          obtain ⟨x27, M28, eM28, h⟩ := z_b2 h
          refine z_aftI (z_runV (k := 0) (As := [.int a3, .int a4]) (rest := []) G hH hl.1 (kX10_behind l hw eM28) (mM0 hw) vc10 arX10_behind u1019 u1021 us39 u11 u1022 rfl rfl rfl (Nat.le_of_ble_eq_true rfl) (Nat.le_of_ble_eq_true rfl) rfl (Nat.le_of_ble_eq_true rfl) dX10_mostBy_48) hH (fun H locs hH => ?_)
          exact kJ51_18 M28 x27 H locs ls h hH (lv_sub hl [0, 1, 2, 3, 4, 5, 6, 7, 8] rfl)
        · have h := z_ifn c26 h
          refine lv_aload_n G.x G.b dX10_mostBy_35 rfl (lv_at hl 0 rfl) ?_
          refine lv_iload G.x G.b dX10_mostBy_36 (lv_at hl 4 rfl) ?_
          obtain ⟨x29, M30, eM30, h⟩ := z_b2 h
          refine z_aftI (z_runV (k := 0) (As := [.int a4]) (rest := []) G hH hl.1 (kX10_pursesBehind l hw eM30) (mM0 hw) vc10 arX10_pursesBehind u1072 u1074 us45 u11 u1075 rfl rfl rfl (Nat.le_of_ble_eq_true rfl) (Nat.le_of_ble_eq_true rfl) rfl (Nat.le_of_ble_eq_true rfl) dX10_mostBy_38) hH (fun H locs hH => ?_)
          refine lv_goto (tgt := 51) G.x G.b dX10_mostBy_41 (by decide) ?_
          exact kJ51_18 M30 x29 H locs ls h hH (lv_sub hl [0, 1, 2, 3, 4, 5, 6, 7, 8] rfl)
  exact n12 zFuel M0 (0 : Int32) (-1 : Int32) (0 : Int32) s.heap [] ls h hH (lv_sub hl [4, 5, 6, 7, 8, 3, 2, 1, 0] rfl)
def fX10_round (M0 : zM) (a1 : Int32) (a2 : Int32) : Option (Int32 × zM) :=
  (fX10_isWearer M0 a1).bind fun x1 =>
  if x1 = (0 : Int32) then (zb2 (fX10_finds M0 (-1000000001 : Int32)) fun x3 M4 =>
  some (x3, M4)) else ((fX10_isSoon a2).bind fun x5 =>
  if x5 = (0 : Int32) then (zb2 (fX10_finds M0 (-1000000001 : Int32)) fun x7 M8 =>
  some (x7, M8)) else ((fX10_wearerSpot a1 (1 : Int32)).bind fun x9 =>
  (fX10_wearerSpot a1 (0 : Int32)).bind fun x10 =>
  zb2 (fX10_mostBy M0 x9 (5 : Int32) x10 a2) fun x11 M12 =>
  some (x11, M12)))
abbrev rX10_round : Room := { frames := 9, cells := 0, slots := 0, locals := 213 }
theorem arX10_round : zAr yX10_round RX10 2 := ⟨rfl, by decide, by decide, by decide +kernel⟩
set_option maxHeartbeats 4000000 in
theorem kX10_round (l : Launch) {w : zWd} (hw : zIsM w) {M0 M' : zM} {a1 : Int32} {a2 : Int32} {r : Int32} (h : fX10_round M0 a1 a2 = some (r, M')) : Met l yX10_round (Cond.code yX10_round cX10_round 3 (some .int) :: zU) rX10_round (zPre w M0 [.ref (za w 0), .int a1, .int a2]) (zQ w (some (.int r)) M') 0 0 (zA w) := by
  refine z_metN (own := RX10) (lv := [(0, .ref (za w 0)), (1, .int a1), (2, .int a2)]) hw.1 (by decide) (Nat.le_of_ble_eq_true rfl) rfl rfl ?_
  intro p e s m args below meth c G hr hlk hH ls hl
  unfold fX10_round at h
  refine lv_aload_n G.x G.b dX10_round_0 rfl (lv_at hl 0 rfl) ?_
  refine lv_iload_n G.x G.b dX10_round_1 rfl (lv_at hl 1 rfl) ?_
  obtain ⟨x1, ex1, h⟩ := z_bind h
  refine z_rdI (z_runV (k := 0) (As := [.int a1]) (rest := []) G hH hl.1 (kX10_isWearer l hw ex1) (mM0 hw) vc10 arX10_isWearer u964 u966 us33 u11 u967 rfl rfl rfl (Nat.le_of_ble_eq_true rfl) (Nat.le_of_ble_eq_true rfl) rfl (Nat.le_of_ble_eq_true rfl) dX10_round_2) ?_
  refine lv_if_eq (tgt := 34) G.x G.b dX10_round_5 (by decide) (fun c2 => ?_) (fun c2 => ?_)
  · have h := z_if c2 h
    refine lv_aload_n G.x G.b dX10_round_34 rfl (lv_at hl 0 rfl) ?_
    refine lv_ldc G.x G.b G.o (G.t u833) dX10_round_35 ?_
    obtain ⟨x3, M4, eM4, h⟩ := z_b2 h
    refine z_aftI (z_runV (k := 0) (As := [.int (-1000000001 : Int32)]) (rest := []) G hH hl.1 (kX10_finds l hw eM4) (mM0 hw) vc10 arX10_finds u834 u836 us16 u11 u837 rfl rfl rfl (Nat.le_of_ble_eq_true rfl) (Nat.le_of_ble_eq_true rfl) rfl (Nat.le_of_ble_eq_true rfl) dX10_round_37) hH (fun H locs hH => ?_)
    exact z_retI G hr hlk hH h dX10_round_40
  · have h := z_ifn c2 h
    refine lv_iload_n G.x G.b dX10_round_8 rfl (lv_at hl 2 rfl) ?_
    obtain ⟨x5, ex5, h⟩ := z_bind h
    refine z_rdI (z_runS (As := [.int a2]) (rest := []) G hH hl.1 (kX10_isSoon l hw.1 ex5) arX10_isSoon u1060 u1061 u11 u1062 rfl rfl rfl (Nat.le_of_ble_eq_true rfl) (Nat.le_of_ble_eq_true rfl) rfl (Nat.le_of_ble_eq_true rfl) dX10_round_9) ?_
    refine lv_if_eq (tgt := 34) G.x G.b dX10_round_12 (by decide) (fun c6 => ?_) (fun c6 => ?_)
    · have h := z_if c6 h
      refine lv_aload_n G.x G.b dX10_round_34 rfl (lv_at hl 0 rfl) ?_
      refine lv_ldc G.x G.b G.o (G.t u833) dX10_round_35 ?_
      obtain ⟨x7, M8, eM8, h⟩ := z_b2 h
      refine z_aftI (z_runV (k := 0) (As := [.int (-1000000001 : Int32)]) (rest := []) G hH hl.1 (kX10_finds l hw eM8) (mM0 hw) vc10 arX10_finds u834 u836 us16 u11 u837 rfl rfl rfl (Nat.le_of_ble_eq_true rfl) (Nat.le_of_ble_eq_true rfl) rfl (Nat.le_of_ble_eq_true rfl) dX10_round_37) hH (fun H locs hH => ?_)
      exact z_retI G hr hlk hH h dX10_round_40
    · have h := z_ifn c6 h
      refine lv_aload_n G.x G.b dX10_round_15 rfl (lv_at hl 0 rfl) ?_
      refine lv_iload_n G.x G.b dX10_round_16 rfl (lv_at hl 1 rfl) ?_
      refine lv_iconst (v := (1 : Int32)) G.x G.b dX10_round_17 (by decide) ?_
      obtain ⟨x9, ex9, h⟩ := z_bind h
      refine z_rdI (z_runS (As := [.int a1, .int (1 : Int32)]) (rest := [.ref (za w 0)]) G hH hl.1 (kX10_wearerSpot l hw.1 ex9) arX10_wearerSpot u867 u868 u11 u869 rfl rfl rfl (Nat.le_of_ble_eq_true rfl) (Nat.le_of_ble_eq_true rfl) rfl (Nat.le_of_ble_eq_true rfl) dX10_round_18) ?_
      refine lv_iconst (v := (5 : Int32)) G.x G.b dX10_round_21 (by decide) ?_
      refine lv_iload_n G.x G.b dX10_round_22 rfl (lv_at hl 1 rfl) ?_
      refine lv_iconst (v := (0 : Int32)) G.x G.b dX10_round_23 (by decide) ?_
      obtain ⟨x10, ex10, h⟩ := z_bind h
      refine z_rdI (z_runS (As := [.int a1, .int (0 : Int32)]) (rest := [.int (5 : Int32), .int x9, .ref (za w 0)]) G hH hl.1 (kX10_wearerSpot l hw.1 ex10) arX10_wearerSpot u867 u868 u11 u869 rfl rfl rfl (Nat.le_of_ble_eq_true rfl) (Nat.le_of_ble_eq_true rfl) rfl (Nat.le_of_ble_eq_true rfl) dX10_round_24) ?_
      refine lv_iload_n G.x G.b dX10_round_27 rfl (lv_at hl 2 rfl) ?_
      obtain ⟨x11, M12, eM12, h⟩ := z_b2 h
      refine z_aftI (z_runV (k := 0) (As := [.int x9, .int (5 : Int32), .int x10, .int a2]) (rest := []) G hH hl.1 (kX10_mostBy l hw eM12) (mM0 hw) vc10 arX10_mostBy u1068 u1070 us44 u11 u1071 rfl rfl rfl (Nat.le_of_ble_eq_true rfl) (Nat.le_of_ble_eq_true rfl) rfl (Nat.le_of_ble_eq_true rfl) dX10_round_28) hH (fun H locs hH => ?_)
      refine lv_goto (tgt := 40) G.x G.b dX10_round_31 (by decide) ?_
      exact z_retI G hr hlk hH h dX10_round_40
def fX10_kind (M0 : zM) (a1 : Int32) (a2 : Int32) : Option (Int32 × zM) :=
  (fX10_isBeard M0 a1).bind fun x1 =>
  if x1 = (0 : Int32) then (zb2 (fX10_finds M0 (-1000000001 : Int32)) fun x3 M4 =>
  some (x3, M4)) else ((fX10_isSoon a2).bind fun x5 =>
  if x5 = (0 : Int32) then (zb2 (fX10_finds M0 (-1000000001 : Int32)) fun x7 M8 =>
  some (x7, M8)) else ((fX10_beardSpot a1 (0 : Int32)).bind fun x9 =>
  zb2 (fX10_mostBy M0 x9 (5 : Int32) (-1 : Int32) a2) fun x10 M11 =>
  some (x10, M11)))
abbrev rX10_kind : Room := { frames := 9, cells := 0, slots := 0, locals := 213 }
theorem arX10_kind : zAr yX10_kind RX10 2 := ⟨rfl, by decide, by decide, by decide +kernel⟩
set_option maxHeartbeats 4000000 in
theorem kX10_kind (l : Launch) {w : zWd} (hw : zIsM w) {M0 M' : zM} {a1 : Int32} {a2 : Int32} {r : Int32} (h : fX10_kind M0 a1 a2 = some (r, M')) : Met l yX10_kind (Cond.code yX10_kind cX10_kind 3 (some .int) :: zU) rX10_kind (zPre w M0 [.ref (za w 0), .int a1, .int a2]) (zQ w (some (.int r)) M') 0 0 (zA w) := by
  refine z_metN (own := RX10) (lv := [(0, .ref (za w 0)), (1, .int a1), (2, .int a2)]) hw.1 (by decide) (Nat.le_of_ble_eq_true rfl) rfl rfl ?_
  intro p e s m args below meth c G hr hlk hH ls hl
  unfold fX10_kind at h
  refine lv_aload_n G.x G.b dX10_kind_0 rfl (lv_at hl 0 rfl) ?_
  refine lv_iload_n G.x G.b dX10_kind_1 rfl (lv_at hl 1 rfl) ?_
  obtain ⟨x1, ex1, h⟩ := z_bind h
  refine z_rdI (z_runV (k := 0) (As := [.int a1]) (rest := []) G hH hl.1 (kX10_isBeard l hw ex1) (mM0 hw) vc10 arX10_isBeard u842 u844 us17 u11 u845 rfl rfl rfl (Nat.le_of_ble_eq_true rfl) (Nat.le_of_ble_eq_true rfl) rfl (Nat.le_of_ble_eq_true rfl) dX10_kind_2) ?_
  refine lv_if_eq (tgt := 30) G.x G.b dX10_kind_5 (by decide) (fun c2 => ?_) (fun c2 => ?_)
  · have h := z_if c2 h
    refine lv_aload_n G.x G.b dX10_kind_30 rfl (lv_at hl 0 rfl) ?_
    refine lv_ldc G.x G.b G.o (G.t u833) dX10_kind_31 ?_
    obtain ⟨x3, M4, eM4, h⟩ := z_b2 h
    refine z_aftI (z_runV (k := 0) (As := [.int (-1000000001 : Int32)]) (rest := []) G hH hl.1 (kX10_finds l hw eM4) (mM0 hw) vc10 arX10_finds u834 u836 us16 u11 u837 rfl rfl rfl (Nat.le_of_ble_eq_true rfl) (Nat.le_of_ble_eq_true rfl) rfl (Nat.le_of_ble_eq_true rfl) dX10_kind_33) hH (fun H locs hH => ?_)
    exact z_retI G hr hlk hH h dX10_kind_36
  · have h := z_ifn c2 h
    refine lv_iload_n G.x G.b dX10_kind_8 rfl (lv_at hl 2 rfl) ?_
    obtain ⟨x5, ex5, h⟩ := z_bind h
    refine z_rdI (z_runS (As := [.int a2]) (rest := []) G hH hl.1 (kX10_isSoon l hw.1 ex5) arX10_isSoon u1060 u1061 u11 u1062 rfl rfl rfl (Nat.le_of_ble_eq_true rfl) (Nat.le_of_ble_eq_true rfl) rfl (Nat.le_of_ble_eq_true rfl) dX10_kind_9) ?_
    refine lv_if_eq (tgt := 30) G.x G.b dX10_kind_12 (by decide) (fun c6 => ?_) (fun c6 => ?_)
    · have h := z_if c6 h
      refine lv_aload_n G.x G.b dX10_kind_30 rfl (lv_at hl 0 rfl) ?_
      refine lv_ldc G.x G.b G.o (G.t u833) dX10_kind_31 ?_
      obtain ⟨x7, M8, eM8, h⟩ := z_b2 h
      refine z_aftI (z_runV (k := 0) (As := [.int (-1000000001 : Int32)]) (rest := []) G hH hl.1 (kX10_finds l hw eM8) (mM0 hw) vc10 arX10_finds u834 u836 us16 u11 u837 rfl rfl rfl (Nat.le_of_ble_eq_true rfl) (Nat.le_of_ble_eq_true rfl) rfl (Nat.le_of_ble_eq_true rfl) dX10_kind_33) hH (fun H locs hH => ?_)
      exact z_retI G hr hlk hH h dX10_kind_36
    · have h := z_ifn c6 h
      refine lv_aload_n G.x G.b dX10_kind_15 rfl (lv_at hl 0 rfl) ?_
      refine lv_iload_n G.x G.b dX10_kind_16 rfl (lv_at hl 1 rfl) ?_
      refine lv_iconst (v := (0 : Int32)) G.x G.b dX10_kind_17 (by decide) ?_
      obtain ⟨x9, ex9, h⟩ := z_bind h
      refine z_rdI (z_runS (As := [.int a1, .int (0 : Int32)]) (rest := [.ref (za w 0)]) G hH hl.1 (kX10_beardSpot l hw.1 ex9) arX10_beardSpot u886 u887 u11 u888 rfl rfl rfl (Nat.le_of_ble_eq_true rfl) (Nat.le_of_ble_eq_true rfl) rfl (Nat.le_of_ble_eq_true rfl) dX10_kind_18) ?_
      refine lv_iconst (v := (5 : Int32)) G.x G.b dX10_kind_21 (by decide) ?_
      refine lv_iconst (v := (-1 : Int32)) G.x G.b dX10_kind_22 (by decide) ?_
      refine lv_iload_n G.x G.b dX10_kind_23 rfl (lv_at hl 2 rfl) ?_
      obtain ⟨x10, M11, eM11, h⟩ := z_b2 h
      refine z_aftI (z_runV (k := 0) (As := [.int x9, .int (5 : Int32), .int (-1 : Int32), .int a2]) (rest := []) G hH hl.1 (kX10_mostBy l hw eM11) (mM0 hw) vc10 arX10_mostBy u1068 u1070 us44 u11 u1071 rfl rfl rfl (Nat.le_of_ble_eq_true rfl) (Nat.le_of_ble_eq_true rfl) rfl (Nat.le_of_ble_eq_true rfl) dX10_kind_24) hH (fun H locs hH => ?_)
      refine lv_goto (tgt := 36) G.x G.b dX10_kind_27 (by decide) ?_
      exact z_retI G hr hlk hH h dX10_kind_36
