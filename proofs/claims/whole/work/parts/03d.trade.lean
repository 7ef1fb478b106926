def fX7_become (M0 : zM) (t : Nat) (t2 : Nat) : Option zM :=
  (some (zst M0 t 1 (M0.1 t2 1))).bind fun M1 =>
  (some (zst M1 t 2 (M1.1 t2 2))).bind fun M2 =>
  (some (zst M2 t 3 (M2.1 t2 3))).bind fun M3 =>
  (some (zcp M3 (t2 + 1) (t + 1) 0 0 8)).bind fun M4 =>
  (some (zcp M4 (t2 + 2) (t + 2) 0 0 8)).bind fun M5 =>
  (some (zcp M5 (t2 + 3) (t + 3) 0 0 8)).bind fun M6 =>
  (some (zcp M6 (t2 + 4) (t + 4) 0 0 8)).bind fun M7 =>
  (some (zcp M7 (t2 + 5) (t + 5) 0 0 6)).bind fun M8 =>
  (some (zcp M8 (t2 + 6) (t + 6) 0 0 6)).bind fun M9 =>
  (some (zcp M9 (t2 + 7) (t + 7) 0 0 6)).bind fun M10 =>
  (some (zcp M10 (t2 + 8) (t + 8) 0 0 6)).bind fun M11 =>
  (some (zcp M11 (t2 + 9) (t + 9) 0 0 6)).bind fun M12 =>
  some M12
abbrev rX7_become : Room := { frames := 1, cells := 0, slots := 0, locals := 40 }
theorem arX7_become : zAr yX7_become RX7 1 := ⟨rfl, by decide, by decide, by decide +kernel⟩
set_option maxHeartbeats 4000000 in
theorem kX7_become (l : Launch) {w : zWd} (hw : zIsC w) {t : Nat} (ht : zT t) {t2 : Nat} (ht2 : zT t2) {M0 M' : zM} (h : fX7_become M0 t t2 = some M') : Met l yX7_become (Cond.code yX7_become cX7_become 2 (none) :: zU) rX7_become (zPre w M0 [.ref (za w t), .ref (za w t2)]) (zQ w (none) M') 0 0 (zA w) := by
  refine z_metN (own := RX7) (lv := [(0, .ref (za w t)), (1, .ref (za w t2))]) hw.1 (by decide) (Nat.le_of_ble_eq_true rfl) rfl rfl ?_
  intro p e s m args below meth c G hr hlk hH ls hl
  unfold fX7_become at h
  refine lv_aload_n G.x G.b dX7_become_0 rfl (lv_at hl 0 rfl) ?_
  refine lv_aload_n G.x G.b dX7_become_1 rfl (lv_at hl 1 rfl) ?_
  refine z_get (v := .int (M0.1 t2 1)) (k := t2) G hH.1 (cCt hw ht2) vc7 inU7 1 (by decide) u76 rfl dX7_become_2 ?_
  obtain ⟨M1, eM1, h⟩ := z_let h
  refine z_putN (k := t) G hH (cCt hw ht) vc7 inU7 tyX7 tyX7_ok nmX7 1 (by decide) u76 rfl (ty := .int) rfl rfl rfl cP7_1 (Nat.le_of_ble_eq_true rfl) dX7_become_5 eM1 (fun H locs hH => ?_)
  refine lv_aload_n G.x G.b dX7_become_8 rfl (lv_at hl 0 rfl) ?_
  refine lv_aload_n G.x G.b dX7_become_9 rfl (lv_at hl 1 rfl) ?_
  refine z_get (v := .int (M1.1 t2 2)) (k := t2) G hH.1 (cCt hw ht2) vc7 inU7 2 (by decide) u78 rfl dX7_become_10 ?_
  obtain ⟨M2, eM2, h⟩ := z_let h
  refine z_putN (k := t) G hH (cCt hw ht) vc7 inU7 tyX7 tyX7_ok nmX7 2 (by decide) u78 rfl (ty := .int) rfl rfl rfl cP7_2 (Nat.le_of_ble_eq_true rfl) dX7_become_13 eM2 (fun H locs hH => ?_)
  refine lv_aload_n G.x G.b dX7_become_16 rfl (lv_at hl 0 rfl) ?_
  refine lv_aload_n G.x G.b dX7_become_17 rfl (lv_at hl 1 rfl) ?_
  refine z_get (v := .int (M2.1 t2 3)) (k := t2) G hH.1 (cCt hw ht2) vc7 inU7 3 (by decide) u81 rfl dX7_become_18 ?_
  obtain ⟨M3, eM3, h⟩ := z_let h
  refine z_putN (k := t) G hH (cCt hw ht) vc7 inU7 tyX7 tyX7_ok nmX7 3 (by decide) u81 rfl (ty := .int) rfl rfl rfl cP7_3 (Nat.le_of_ble_eq_true rfl) dX7_become_21 eM3 (fun H locs hH => ?_)
  refine lv_aload_n G.x G.b dX7_become_24 rfl (lv_at hl 1 rfl) ?_
  refine z_get (v := .ref (za w (t2 + 1))) (k := t2) G hH.1 (cCt hw ht2) vc7 inU7 4 (by decide) u84 rfl dX7_become_25 ?_
  refine lv_iconst (v := (0 : Int32)) G.x G.b dX7_become_28 (by decide) ?_
  refine lv_aload_n G.x G.b dX7_become_29 rfl (lv_at hl 0 rfl) ?_
  refine z_get (v := .ref (za w (t + 1))) (k := t) G hH.1 (cCt hw ht) vc7 inU7 4 (by decide) u84 rfl dX7_become_30 ?_
  refine lv_iconst (v := (0 : Int32)) G.x G.b dX7_become_33 (by decide) ?_
  refine lv_bipush (v := (8 : Int32)) G.x G.b dX7_become_34 (by decide) ?_
  obtain ⟨M4, eM4, h⟩ := z_let h
  refine z_copyiN (k0 := (t2 + 1)) (k1 := (t + 1)) (a := 0) (b := 0) (d := 8) G hH hl.1 (cCt1 hw ht2) (cCt1 hw ht) ⟨by decide, by decide, by decide, by decide, by decide⟩ u488 u490 u489 u13 (Nat.le_of_ble_eq_true rfl) (Nat.le_of_ble_eq_true rfl) dX7_become_36 rfl rfl rfl eM4 (fun H locs hH => ?_)
  refine lv_aload_n G.x G.b dX7_become_39 rfl (lv_at hl 1 rfl) ?_
  refine z_get (v := .ref (za w (t2 + 2))) (k := t2) G hH.1 (cCt hw ht2) vc7 inU7 5 (by decide) u86 rfl dX7_become_40 ?_
  refine lv_iconst (v := (0 : Int32)) G.x G.b dX7_become_43 (by decide) ?_
  refine lv_aload_n G.x G.b dX7_become_44 rfl (lv_at hl 0 rfl) ?_
  refine z_get (v := .ref (za w (t + 2))) (k := t) G hH.1 (cCt hw ht) vc7 inU7 5 (by decide) u86 rfl dX7_become_45 ?_
  refine lv_iconst (v := (0 : Int32)) G.x G.b dX7_become_48 (by decide) ?_
  refine lv_bipush (v := (8 : Int32)) G.x G.b dX7_become_49 (by decide) ?_
  obtain ⟨M5, eM5, h⟩ := z_let h
  refine z_copyiN (k0 := (t2 + 2)) (k1 := (t + 2)) (a := 0) (b := 0) (d := 8) G hH hl.1 (cCt2 hw ht2) (cCt2 hw ht) ⟨by decide, by decide, by decide, by decide, by decide⟩ u488 u490 u489 u13 (Nat.le_of_ble_eq_true rfl) (Nat.le_of_ble_eq_true rfl) dX7_become_51 rfl rfl rfl eM5 (fun H locs hH => ?_)
  refine lv_aload_n G.x G.b dX7_become_54 rfl (lv_at hl 1 rfl) ?_
  refine z_get (v := .ref (za w (t2 + 3))) (k := t2) G hH.1 (cCt hw ht2) vc7 inU7 6 (by decide) u89 rfl dX7_become_55 ?_
  refine lv_iconst (v := (0 : Int32)) G.x G.b dX7_become_58 (by decide) ?_
  refine lv_aload_n G.x G.b dX7_become_59 rfl (lv_at hl 0 rfl) ?_
  refine z_get (v := .ref (za w (t + 3))) (k := t) G hH.1 (cCt hw ht) vc7 inU7 6 (by decide) u89 rfl dX7_become_60 ?_
  refine lv_iconst (v := (0 : Int32)) G.x G.b dX7_become_63 (by decide) ?_
  refine lv_bipush (v := (8 : Int32)) G.x G.b dX7_become_64 (by decide) ?_
  obtain ⟨M6, eM6, h⟩ := z_let h
  refine z_copyiN (k0 := (t2 + 3)) (k1 := (t + 3)) (a := 0) (b := 0) (d := 8) G hH hl.1 (cCt3 hw ht2) (cCt3 hw ht) ⟨by decide, by decide, by decide, by decide, by decide⟩ u488 u490 u489 u13 (Nat.le_of_ble_eq_true rfl) (Nat.le_of_ble_eq_true rfl) dX7_become_66 rfl rfl rfl eM6 (fun H locs hH => ?_)
  refine lv_aload_n G.x G.b dX7_become_69 rfl (lv_at hl 1 rfl) ?_
  refine z_get (v := .ref (za w (t2 + 4))) (k := t2) G hH.1 (cCt hw ht2) vc7 inU7 7 (by decide) u92 rfl dX7_become_70 ?_
  refine lv_iconst (v := (0 : Int32)) G.x G.b dX7_become_73 (by decide) ?_
  refine lv_aload_n G.x G.b dX7_become_74 rfl (lv_at hl 0 rfl) ?_
  refine z_get (v := .ref (za w (t + 4))) (k := t) G hH.1 (cCt hw ht) vc7 inU7 7 (by decide) u92 rfl dX7_become_75 ?_
  refine lv_iconst (v := (0 : Int32)) G.x G.b dX7_become_78 (by decide) ?_
  refine lv_bipush (v := (8 : Int32)) G.x G.b dX7_become_79 (by decide) ?_
  obtain ⟨M7, eM7, h⟩ := z_let h
  refine z_copyiN (k0 := (t2 + 4)) (k1 := (t + 4)) (a := 0) (b := 0) (d := 8) G hH hl.1 (cCt4 hw ht2) (cCt4 hw ht) ⟨by decide, by decide, by decide, by decide, by decide⟩ u488 u490 u489 u13 (Nat.le_of_ble_eq_true rfl) (Nat.le_of_ble_eq_true rfl) dX7_become_81 rfl rfl rfl eM7 (fun H locs hH => ?_)
  refine lv_aload_n G.x G.b dX7_become_84 rfl (lv_at hl 1 rfl) ?_
  refine z_get (v := .ref (za w (t2 + 5))) (k := t2) G hH.1 (cCt hw ht2) vc7 inU7 8 (by decide) u95 rfl dX7_become_85 ?_
  refine lv_iconst (v := (0 : Int32)) G.x G.b dX7_become_88 (by decide) ?_
  refine lv_aload_n G.x G.b dX7_become_89 rfl (lv_at hl 0 rfl) ?_
  refine z_get (v := .ref (za w (t + 5))) (k := t) G hH.1 (cCt hw ht) vc7 inU7 8 (by decide) u95 rfl dX7_become_90 ?_
  refine lv_iconst (v := (0 : Int32)) G.x G.b dX7_become_93 (by decide) ?_
  refine lv_bipush (v := (6 : Int32)) G.x G.b dX7_become_94 (by decide) ?_
  obtain ⟨M8, eM8, h⟩ := z_let h
  refine z_copyiN (k0 := (t2 + 5)) (k1 := (t + 5)) (a := 0) (b := 0) (d := 6) G hH hl.1 (cCt5 hw ht2) (cCt5 hw ht) ⟨by decide, by decide, by decide, by decide, by decide⟩ u488 u490 u489 u13 (Nat.le_of_ble_eq_true rfl) (Nat.le_of_ble_eq_true rfl) dX7_become_96 rfl rfl rfl eM8 (fun H locs hH => ?_)
  refine lv_aload_n G.x G.b dX7_become_99 rfl (lv_at hl 1 rfl) ?_
  refine z_get (v := .ref (za w (t2 + 6))) (k := t2) G hH.1 (cCt hw ht2) vc7 inU7 9 (by decide) u98 rfl dX7_become_100 ?_
  refine lv_iconst (v := (0 : Int32)) G.x G.b dX7_become_103 (by decide) ?_
  refine lv_aload_n G.x G.b dX7_become_104 rfl (lv_at hl 0 rfl) ?_
  refine z_get (v := .ref (za w (t + 6))) (k := t) G hH.1 (cCt hw ht) vc7 inU7 9 (by decide) u98 rfl dX7_become_105 ?_
  refine lv_iconst (v := (0 : Int32)) G.x G.b dX7_become_108 (by decide) ?_
  refine lv_bipush (v := (6 : Int32)) G.x G.b dX7_become_109 (by decide) ?_
  obtain ⟨M9, eM9, h⟩ := z_let h
  refine z_copyiN (k0 := (t2 + 6)) (k1 := (t + 6)) (a := 0) (b := 0) (d := 6) G hH hl.1 (cCt6 hw ht2) (cCt6 hw ht) ⟨by decide, by decide, by decide, by decide, by decide⟩ u488 u490 u489 u13 (Nat.le_of_ble_eq_true rfl) (Nat.le_of_ble_eq_true rfl) dX7_become_111 rfl rfl rfl eM9 (fun H locs hH => ?_)
  refine lv_aload_n G.x G.b dX7_become_114 rfl (lv_at hl 1 rfl) ?_
  refine z_get (v := .ref (za w (t2 + 7))) (k := t2) G hH.1 (cCt hw ht2) vc7 inU7 10 (by decide) u101 rfl dX7_become_115 ?_
  refine lv_iconst (v := (0 : Int32)) G.x G.b dX7_become_118 (by decide) ?_
  refine lv_aload_n G.x G.b dX7_become_119 rfl (lv_at hl 0 rfl) ?_
  refine z_get (v := .ref (za w (t + 7))) (k := t) G hH.1 (cCt hw ht) vc7 inU7 10 (by decide) u101 rfl dX7_become_120 ?_
  refine lv_iconst (v := (0 : Int32)) G.x G.b dX7_become_123 (by decide) ?_
  refine lv_bipush (v := (6 : Int32)) G.x G.b dX7_become_124 (by decide) ?_
  obtain ⟨M10, eM10, h⟩ := z_let h
  refine z_copyiN (k0 := (t2 + 7)) (k1 := (t + 7)) (a := 0) (b := 0) (d := 6) G hH hl.1 (cCt7 hw ht2) (cCt7 hw ht) ⟨by decide, by decide, by decide, by decide, by decide⟩ u488 u490 u489 u13 (Nat.le_of_ble_eq_true rfl) (Nat.le_of_ble_eq_true rfl) dX7_become_126 rfl rfl rfl eM10 (fun H locs hH => ?_)
  refine lv_aload_n G.x G.b dX7_become_129 rfl (lv_at hl 1 rfl) ?_
  refine z_get (v := .ref (za w (t2 + 8))) (k := t2) G hH.1 (cCt hw ht2) vc7 inU7 11 (by decide) u104 rfl dX7_become_130 ?_
  refine lv_iconst (v := (0 : Int32)) G.x G.b dX7_become_133 (by decide) ?_
  refine lv_aload_n G.x G.b dX7_become_134 rfl (lv_at hl 0 rfl) ?_
  refine z_get (v := .ref (za w (t + 8))) (k := t) G hH.1 (cCt hw ht) vc7 inU7 11 (by decide) u104 rfl dX7_become_135 ?_
  refine lv_iconst (v := (0 : Int32)) G.x G.b dX7_become_138 (by decide) ?_
  refine lv_bipush (v := (6 : Int32)) G.x G.b dX7_become_139 (by decide) ?_
  obtain ⟨M11, eM11, h⟩ := z_let h
  refine z_copyiN (k0 := (t2 + 8)) (k1 := (t + 8)) (a := 0) (b := 0) (d := 6) G hH hl.1 (cCt8 hw ht2) (cCt8 hw ht) ⟨by decide, by decide, by decide, by decide, by decide⟩ u488 u490 u489 u13 (Nat.le_of_ble_eq_true rfl) (Nat.le_of_ble_eq_true rfl) dX7_become_141 rfl rfl rfl eM11 (fun H locs hH => ?_)
  refine lv_aload_n G.x G.b dX7_become_144 rfl (lv_at hl 1 rfl) ?_
  refine z_get (v := .ref (za w (t2 + 9))) (k := t2) G hH.1 (cCt hw ht2) vc7 inU7 12 (by decide) u107 rfl dX7_become_145 ?_
  refine lv_iconst (v := (0 : Int32)) G.x G.b dX7_become_148 (by decide) ?_
  refine lv_aload_n G.x G.b dX7_become_149 rfl (lv_at hl 0 rfl) ?_
  refine z_get (v := .ref (za w (t + 9))) (k := t) G hH.1 (cCt hw ht) vc7 inU7 12 (by decide) u107 rfl dX7_become_150 ?_
  refine lv_iconst (v := (0 : Int32)) G.x G.b dX7_become_153 (by decide) ?_
  refine lv_bipush (v := (6 : Int32)) G.x G.b dX7_become_154 (by decide) ?_
  obtain ⟨M12, eM12, h⟩ := z_let h
  refine z_copyiN (k0 := (t2 + 9)) (k1 := (t + 9)) (a := 0) (b := 0) (d := 6) G hH hl.1 (cCt9 hw ht2) (cCt9 hw ht) ⟨by decide, by decide, by decide, by decide, by decide⟩ u488 u490 u489 u13 (Nat.le_of_ble_eq_true rfl) (Nat.le_of_ble_eq_true rfl) dX7_become_156 rfl rfl rfl eM12 (fun H locs hH => ?_)
  exact z_retV G hr hlk hH h dX7_become_159
def fX7_addBeard (M0 : zM) (t : Nat) (a1 : Int32) : Option (Int32 × zM) :=
  if (M0.1 t 2) < (8 : Int32) then ((some (M0.1 t 2)).bind fun x2 =>
  (some (zst M0 t 2 ((M0.1 t 2) + (1 : Int32)))).bind fun M3 =>
  (zix x2 8).bind fun j4 =>
  (some (zst M3 (t + 1) j4 a1)).bind fun M5 =>
  (zix x2 8).bind fun j6 =>
  (some (zst M5 (t + 2) j6 (10 : Int32))).bind fun M7 =>
  (zix x2 8).bind fun j8 =>
  (some (zst M7 (t + 3) j8 (0 : Int32))).bind fun M9 =>
  (zix x2 8).bind fun j10 =>
  (some (zst M9 (t + 4) j10 (-1 : Int32))).bind fun M11 =>
  some (x2, M11)) else (some ((-1 : Int32), M0))
abbrev rX7_addBeard : Room := { frames := 0, cells := 0, slots := 0, locals := 0 }
theorem arX7_addBeard : zAr yX7_addBeard RX7 1 := ⟨rfl, by decide, by decide, by decide +kernel⟩
set_option maxHeartbeats 4000000 in
theorem kX7_addBeard (l : Launch) {w : zWd} (hw : zIsC w) {t : Nat} (ht : zT t) {M0 M' : zM} {a1 : Int32} {r : Int32} (h : fX7_addBeard M0 t a1 = some (r, M')) : Met l yX7_addBeard (Cond.code yX7_addBeard cX7_addBeard 3 (some .int) :: zU) rX7_addBeard (zPre w M0 [.ref (za w t), .int a1]) (zQ w (some (.int r)) M') 0 0 (zA w) := by
  refine z_metN (own := RX7) (lv := [(0, .ref (za w t)), (1, .int a1)]) hw.1 (by decide) (Nat.le_of_ble_eq_true rfl) rfl rfl ?_
  intro p e s m args below meth c G hr hlk hH ls hl
  unfold fX7_addBeard at h
  refine lv_aload_n G.x G.b dX7_addBeard_0 rfl (lv_at hl 0 rfl) ?_
  refine z_get (v := .int (M0.1 t 2)) (k := t) G hH.1 (cCt hw ht) vc7 inU7 2 (by decide) u78 rfl dX7_addBeard_1 ?_
  refine lv_bipush (v := (8 : Int32)) G.x G.b dX7_addBeard_4 (by decide) ?_
  refine lv_icmp_lt (tgt := 11) G.x G.b dX7_addBeard_6 (by decide) (fun c1 => ?_) (fun c1 => ?_)
  · have h := z_if c1 h
    refine lv_aload_n G.x G.b dX7_addBeard_11 rfl (lv_at hl 0 rfl) ?_
    refine z_get (v := .int (M0.1 t 2)) (k := t) G hH.1 (cCt hw ht) vc7 inU7 2 (by decide) u78 rfl dX7_addBeard_12 ?_
    obtain ⟨x2, ex2, h⟩ := z_let h
    refine z_nmI ex2 ?_
    refine lv_istore_n (lv' := [(2, .int x2), (0, .ref (za w t)), (1, .int a1)]) G.x G.b dX7_addBeard_15 rfl hl (Nat.le_of_ble_eq_true rfl) rfl (fun ls hl => ?_)
    refine lv_aload_n G.x G.b dX7_addBeard_16 rfl (lv_at hl 1 rfl) ?_
    refine lv_dup G.x G.b dX7_addBeard_17 rfl ?_
    refine z_get (v := .int (M0.1 t 2)) (k := t) G hH.1 (cCt hw ht) vc7 inU7 2 (by decide) u78 rfl dX7_addBeard_18 ?_
    refine lv_iconst (v := (1 : Int32)) G.x G.b dX7_addBeard_21 (by decide) ?_
    refine lv_iadd G.x G.b dX7_addBeard_22 ?_
    obtain ⟨M3, eM3, h⟩ := z_let h
    refine z_putN (k := t) G hH (cCt hw ht) vc7 inU7 tyX7 tyX7_ok nmX7 2 (by decide) u78 rfl (ty := .int) rfl rfl rfl cP7_2 (Nat.le_of_ble_eq_true rfl) dX7_addBeard_23 eM3 (fun H locs hH => ?_)
    refine lv_aload_n G.x G.b dX7_addBeard_26 rfl (lv_at hl 1 rfl) ?_
    refine z_get (v := .ref (za w (t + 1))) (k := t) G hH.1 (cCt hw ht) vc7 inU7 4 (by decide) u84 rfl dX7_addBeard_27 ?_
    refine lv_iload_n G.x G.b dX7_addBeard_30 rfl (lv_at hl 0 rfl) ?_
    refine lv_iload_n G.x G.b dX7_addBeard_31 rfl (lv_at hl 2 rfl) ?_
    obtain ⟨j4, ej4, h⟩ := z_bind h
    obtain ⟨M5, eM5, h⟩ := z_let h
    refine z_iastN (k := (t + 1)) G hH (cCt1 hw ht) ej4 dX7_addBeard_32 eM5 (fun H locs hH => ?_)
    refine lv_aload_n G.x G.b dX7_addBeard_33 rfl (lv_at hl 1 rfl) ?_
    refine z_get (v := .ref (za w (t + 2))) (k := t) G hH.1 (cCt hw ht) vc7 inU7 5 (by decide) u86 rfl dX7_addBeard_34 ?_
    refine lv_iload_n G.x G.b dX7_addBeard_37 rfl (lv_at hl 0 rfl) ?_
    refine lv_bipush (v := (10 : Int32)) G.x G.b dX7_addBeard_38 (by decide) ?_
    obtain ⟨j6, ej6, h⟩ := z_bind h
    obtain ⟨M7, eM7, h⟩ := z_let h
    refine z_iastN (k := (t + 2)) G hH (cCt2 hw ht) ej6 dX7_addBeard_40 eM7 (fun H locs hH => ?_)
    refine lv_aload_n G.x G.b dX7_addBeard_41 rfl (lv_at hl 1 rfl) ?_
    refine z_get (v := .ref (za w (t + 3))) (k := t) G hH.1 (cCt hw ht) vc7 inU7 6 (by decide) u89 rfl dX7_addBeard_42 ?_
    refine lv_iload_n G.x G.b dX7_addBeard_45 rfl (lv_at hl 0 rfl) ?_
    refine lv_iconst (v := (0 : Int32)) G.x G.b dX7_addBeard_46 (by decide) ?_
    obtain ⟨j8, ej8, h⟩ := z_bind h
    obtain ⟨M9, eM9, h⟩ := z_let h
    refine z_iastN (k := (t + 3)) G hH (cCt3 hw ht) ej8 dX7_addBeard_47 eM9 (fun H locs hH => ?_)
    refine lv_aload_n G.x G.b dX7_addBeard_48 rfl (lv_at hl 1 rfl) ?_
    refine z_get (v := .ref (za w (t + 4))) (k := t) G hH.1 (cCt hw ht) vc7 inU7 7 (by decide) u92 rfl dX7_addBeard_49 ?_
    refine lv_iload_n G.x G.b dX7_addBeard_52 rfl (lv_at hl 0 rfl) ?_
    refine lv_iconst (v := (-1 : Int32)) G.x G.b dX7_addBeard_53 (by decide) ?_
    obtain ⟨j10, ej10, h⟩ := z_bind h
    obtain ⟨M11, eM11, h⟩ := z_let h
    refine z_iastN (k := (t + 4)) G hH (cCt4 hw ht) ej10 dX7_addBeard_54 eM11 (fun H locs hH => ?_)
    refine lv_iload_n G.x G.b dX7_addBeard_55 rfl (lv_at hl 0 rfl) ?_
    exact z_retI G hr hlk hH h dX7_addBeard_56
  · have h := z_ifn c1 h
    refine lv_iconst (v := (-1 : Int32)) G.x G.b dX7_addBeard_9 (by decide) ?_
    exact z_retI G hr hlk hH h dX7_addBeard_10
def fX7_addWearer (M0 : zM) (t : Nat) (a1 : Int32) : Option (Int32 × zM) :=
  if (M0.1 t 3) < (6 : Int32) then ((some (M0.1 t 3)).bind fun x2 =>
  (some (zst M0 t 3 ((M0.1 t 3) + (1 : Int32)))).bind fun M3 =>
  (zix x2 6).bind fun j4 =>
  (some (zst M3 (t + 5) j4 a1)).bind fun M5 =>
  (zix x2 6).bind fun j6 =>
  (some (zst M5 (t + 6) j6 x2)).bind fun M7 =>
  (zix x2 6).bind fun j8 =>
  (some (zst M7 (t + 7) j8 (-1 : Int32))).bind fun M9 =>
  some (x2, M9)) else (some ((-1 : Int32), M0))
abbrev rX7_addWearer : Room := { frames := 0, cells := 0, slots := 0, locals := 0 }
theorem arX7_addWearer : zAr yX7_addWearer RX7 1 := ⟨rfl, by decide, by decide, by decide +kernel⟩
set_option maxHeartbeats 4000000 in
theorem kX7_addWearer (l : Launch) {w : zWd} (hw : zIsC w) {t : Nat} (ht : zT t) {M0 M' : zM} {a1 : Int32} {r : Int32} (h : fX7_addWearer M0 t a1 = some (r, M')) : Met l yX7_addWearer (Cond.code yX7_addWearer cX7_addWearer 3 (some .int) :: zU) rX7_addWearer (zPre w M0 [.ref (za w t), .int a1]) (zQ w (some (.int r)) M') 0 0 (zA w) := by
  refine z_metN (own := RX7) (lv := [(0, .ref (za w t)), (1, .int a1)]) hw.1 (by decide) (Nat.le_of_ble_eq_true rfl) rfl rfl ?_
  intro p e s m args below meth c G hr hlk hH ls hl
  unfold fX7_addWearer at h
  refine lv_aload_n G.x G.b dX7_addWearer_0 rfl (lv_at hl 0 rfl) ?_
  refine z_get (v := .int (M0.1 t 3)) (k := t) G hH.1 (cCt hw ht) vc7 inU7 3 (by decide) u81 rfl dX7_addWearer_1 ?_
  refine lv_bipush (v := (6 : Int32)) G.x G.b dX7_addWearer_4 (by decide) ?_
  refine lv_icmp_lt (tgt := 11) G.x G.b dX7_addWearer_6 (by decide) (fun c1 => ?_) (fun c1 => ?_)
  · have h := z_if c1 h
    refine lv_aload_n G.x G.b dX7_addWearer_11 rfl (lv_at hl 0 rfl) ?_
    refine z_get (v := .int (M0.1 t 3)) (k := t) G hH.1 (cCt hw ht) vc7 inU7 3 (by decide) u81 rfl dX7_addWearer_12 ?_
    obtain ⟨x2, ex2, h⟩ := z_let h
    refine z_nmI ex2 ?_
    refine lv_istore_n (lv' := [(2, .int x2), (0, .ref (za w t)), (1, .int a1)]) G.x G.b dX7_addWearer_15 rfl hl (Nat.le_of_ble_eq_true rfl) rfl (fun ls hl => ?_)
    refine lv_aload_n G.x G.b dX7_addWearer_16 rfl (lv_at hl 1 rfl) ?_
    refine lv_dup G.x G.b dX7_addWearer_17 rfl ?_
    refine z_get (v := .int (M0.1 t 3)) (k := t) G hH.1 (cCt hw ht) vc7 inU7 3 (by decide) u81 rfl dX7_addWearer_18 ?_
    refine lv_iconst (v := (1 : Int32)) G.x G.b dX7_addWearer_21 (by decide) ?_
    refine lv_iadd G.x G.b dX7_addWearer_22 ?_
    obtain ⟨M3, eM3, h⟩ := z_let h
    refine z_putN (k := t) G hH (cCt hw ht) vc7 inU7 tyX7 tyX7_ok nmX7 3 (by decide) u81 rfl (ty := .int) rfl rfl rfl cP7_3 (Nat.le_of_ble_eq_true rfl) dX7_addWearer_23 eM3 (fun H locs hH => ?_)
    refine lv_aload_n G.x G.b dX7_addWearer_26 rfl (lv_at hl 1 rfl) ?_
    refine z_get (v := .ref (za w (t + 5))) (k := t) G hH.1 (cCt hw ht) vc7 inU7 8 (by decide) u95 rfl dX7_addWearer_27 ?_
    refine lv_iload_n G.x G.b dX7_addWearer_30 rfl (lv_at hl 0 rfl) ?_
    refine lv_iload_n G.x G.b dX7_addWearer_31 rfl (lv_at hl 2 rfl) ?_
    obtain ⟨j4, ej4, h⟩ := z_bind h
    obtain ⟨M5, eM5, h⟩ := z_let h
    refine z_iastN (k := (t + 5)) G hH (cCt5 hw ht) ej4 dX7_addWearer_32 eM5 (fun H locs hH => ?_)
    refine lv_aload_n G.x G.b dX7_addWearer_33 rfl (lv_at hl 1 rfl) ?_
    refine z_get (v := .ref (za w (t + 6))) (k := t) G hH.1 (cCt hw ht) vc7 inU7 9 (by decide) u98 rfl dX7_addWearer_34 ?_
    refine lv_iload_n G.x G.b dX7_addWearer_37 rfl (lv_at hl 0 rfl) ?_
    refine lv_iload_n G.x G.b dX7_addWearer_38 rfl (lv_at hl 0 rfl) ?_
    obtain ⟨j6, ej6, h⟩ := z_bind h
    obtain ⟨M7, eM7, h⟩ := z_let h
    refine z_iastN (k := (t + 6)) G hH (cCt6 hw ht) ej6 dX7_addWearer_39 eM7 (fun H locs hH => ?_)
    refine lv_aload_n G.x G.b dX7_addWearer_40 rfl (lv_at hl 1 rfl) ?_
    refine z_get (v := .ref (za w (t + 7))) (k := t) G hH.1 (cCt hw ht) vc7 inU7 10 (by decide) u101 rfl dX7_addWearer_41 ?_
    refine lv_iload_n G.x G.b dX7_addWearer_44 rfl (lv_at hl 0 rfl) ?_
    refine lv_iconst (v := (-1 : Int32)) G.x G.b dX7_addWearer_45 (by decide) ?_
    obtain ⟨j8, ej8, h⟩ := z_bind h
    obtain ⟨M9, eM9, h⟩ := z_let h
    refine z_iastN (k := (t + 7)) G hH (cCt7 hw ht) ej8 dX7_addWearer_46 eM9 (fun H locs hH => ?_)
    refine lv_iload_n G.x G.b dX7_addWearer_47 rfl (lv_at hl 0 rfl) ?_
    exact z_retI G hr hlk hH h dX7_addWearer_48
  · have h := z_ifn c1 h
    refine lv_iconst (v := (-1 : Int32)) G.x G.b dX7_addWearer_9 (by decide) ?_
    exact z_retI G hr hlk hH h dX7_addWearer_10
def fX7_putOn (M0 : zM) (t : Nat) (a1 : Int32) (a2 : Int32) : Option zM :=
  (zix a1 6).bind fun j1 =>
  (some (zst M0 (t + 7) j1 a2)).bind fun M2 =>
  (zix a2 8).bind fun j3 =>
  (some (zst M2 (t + 4) j3 a1)).bind fun M4 =>
  some M4
abbrev rX7_putOn : Room := { frames := 0, cells := 0, slots := 0, locals := 0 }
theorem arX7_putOn : zAr yX7_putOn RX7 2 := ⟨rfl, by decide, by decide, by decide +kernel⟩
set_option maxHeartbeats 4000000 in
theorem kX7_putOn (l : Launch) {w : zWd} (hw : zIsC w) {t : Nat} (ht : zT t) {M0 M' : zM} {a1 : Int32} {a2 : Int32} (h : fX7_putOn M0 t a1 a2 = some M') : Met l yX7_putOn (Cond.code yX7_putOn cX7_putOn 3 (none) :: zU) rX7_putOn (zPre w M0 [.ref (za w t), .int a1, .int a2]) (zQ w (none) M') 0 0 (zA w) := by
  refine z_metN (own := RX7) (lv := [(0, .ref (za w t)), (1, .int a1), (2, .int a2)]) hw.1 (by decide) (Nat.le_of_ble_eq_true rfl) rfl rfl ?_
  intro p e s m args below meth c G hr hlk hH ls hl
  unfold fX7_putOn at h
  refine lv_aload_n G.x G.b dX7_putOn_0 rfl (lv_at hl 0 rfl) ?_
  refine z_get (v := .ref (za w (t + 7))) (k := t) G hH.1 (cCt hw ht) vc7 inU7 10 (by decide) u101 rfl dX7_putOn_1 ?_
  refine lv_iload_n G.x G.b dX7_putOn_4 rfl (lv_at hl 1 rfl) ?_
  refine lv_iload_n G.x G.b dX7_putOn_5 rfl (lv_at hl 2 rfl) ?_
  obtain ⟨j1, ej1, h⟩ := z_bind h
  obtain ⟨M2, eM2, h⟩ := z_let h
  refine z_iastN (k := (t + 7)) G hH (cCt7 hw ht) ej1 dX7_putOn_6 eM2 (fun H locs hH => ?_)
  refine lv_aload_n G.x G.b dX7_putOn_7 rfl (lv_at hl 0 rfl) ?_
  refine z_get (v := .ref (za w (t + 4))) (k := t) G hH.1 (cCt hw ht) vc7 inU7 7 (by decide) u92 rfl dX7_putOn_8 ?_
  refine lv_iload_n G.x G.b dX7_putOn_11 rfl (lv_at hl 2 rfl) ?_
  refine lv_iload_n G.x G.b dX7_putOn_12 rfl (lv_at hl 1 rfl) ?_
  obtain ⟨j3, ej3, h⟩ := z_bind h
  obtain ⟨M4, eM4, h⟩ := z_let h
  refine z_iastN (k := (t + 4)) G hH (cCt4 hw ht) ej3 dX7_putOn_13 eM4 (fun H locs hH => ?_)
  exact z_retV G hr hlk hH h dX7_putOn_14
def fX7_takeOff (M0 : zM) (t : Nat) (a1 : Int32) (a2 : Int32) : Option zM :=
  (zix a1 6).bind fun j1 =>
  (some (zst M0 (t + 7) j1 (-1 : Int32))).bind fun M2 =>
  (zix a2 8).bind fun j3 =>
  (some (zst M2 (t + 4) j3 (-1 : Int32))).bind fun M4 =>
  some M4
abbrev rX7_takeOff : Room := { frames := 0, cells := 0, slots := 0, locals := 0 }
theorem arX7_takeOff : zAr yX7_takeOff RX7 2 := ⟨rfl, by decide, by decide, by decide +kernel⟩
set_option maxHeartbeats 4000000 in
theorem kX7_takeOff (l : Launch) {w : zWd} (hw : zIsC w) {t : Nat} (ht : zT t) {M0 M' : zM} {a1 : Int32} {a2 : Int32} (h : fX7_takeOff M0 t a1 a2 = some M') : Met l yX7_takeOff (Cond.code yX7_takeOff cX7_takeOff 3 (none) :: zU) rX7_takeOff (zPre w M0 [.ref (za w t), .int a1, .int a2]) (zQ w (none) M') 0 0 (zA w) := by
  refine z_metN (own := RX7) (lv := [(0, .ref (za w t)), (1, .int a1), (2, .int a2)]) hw.1 (by decide) (Nat.le_of_ble_eq_true rfl) rfl rfl ?_
  intro p e s m args below meth c G hr hlk hH ls hl
  unfold fX7_takeOff at h
  refine lv_aload_n G.x G.b dX7_takeOff_0 rfl (lv_at hl 0 rfl) ?_
  refine z_get (v := .ref (za w (t + 7))) (k := t) G hH.1 (cCt hw ht) vc7 inU7 10 (by decide) u101 rfl dX7_takeOff_1 ?_
  refine lv_iload_n G.x G.b dX7_takeOff_4 rfl (lv_at hl 1 rfl) ?_
  refine lv_iconst (v := (-1 : Int32)) G.x G.b dX7_takeOff_5 (by decide) ?_
  obtain ⟨j1, ej1, h⟩ := z_bind h
  obtain ⟨M2, eM2, h⟩ := z_let h
  refine z_iastN (k := (t + 7)) G hH (cCt7 hw ht) ej1 dX7_takeOff_6 eM2 (fun H locs hH => ?_)
  refine lv_aload_n G.x G.b dX7_takeOff_7 rfl (lv_at hl 0 rfl) ?_
  refine z_get (v := .ref (za w (t + 4))) (k := t) G hH.1 (cCt hw ht) vc7 inU7 7 (by decide) u92 rfl dX7_takeOff_8 ?_
  refine lv_iload_n G.x G.b dX7_takeOff_11 rfl (lv_at hl 2 rfl) ?_
  refine lv_iconst (v := (-1 : Int32)) G.x G.b dX7_takeOff_12 (by decide) ?_
  obtain ⟨j3, ej3, h⟩ := z_bind h
  obtain ⟨M4, eM4, h⟩ := z_let h
  refine z_iastN (k := (t + 4)) G hH (cCt4 hw ht) ej3 dX7_takeOff_13 eM4 (fun H locs hH => ?_)
  exact z_retV G hr hlk hH h dX7_takeOff_14
def fX7_isMonday (M0 : zM) (t : Nat) : Option Int32 :=
  if (zrem (M0.1 t 1) (7 : Int32)) = (0 : Int32) then (zbl (1 : Int32)) else (zbl (0 : Int32))
abbrev rX7_isMonday : Room := { frames := 0, cells := 0, slots := 0, locals := 0 }
theorem arX7_isMonday : zAr yX7_isMonday RX7 0 := ⟨rfl, by decide, by decide, by decide +kernel⟩
set_option maxHeartbeats 4000000 in
theorem kX7_isMonday (l : Launch) {w : zWd} (hw : zIsC w) {t : Nat} (ht : zT t) {M0 : zM} {r : Int32} (h : fX7_isMonday M0 t = some r) : Met l yX7_isMonday (Cond.code yX7_isMonday cX7_isMonday 1 (some .boolean) :: zU) rX7_isMonday (zPre w M0 [.ref (za w t)]) (zR (some (.int r))) 0 0 zNo := by
  refine z_metN (own := RX7) (lv := [(0, .ref (za w t))]) hw.1 (by decide) (Nat.le_of_ble_eq_true rfl) rfl rfl ?_
  intro p e s m args below meth c G hr hlk hH ls hl
  unfold fX7_isMonday at h
  refine lv_aload_n G.x G.b dX7_isMonday_0 rfl (lv_at hl 0 rfl) ?_
  refine z_get (v := .int (M0.1 t 1)) (k := t) G hH.1 (cCt hw ht) vc7 inU7 1 (by decide) u76 rfl dX7_isMonday_1 ?_
  refine lv_bipush (v := (7 : Int32)) G.x G.b dX7_isMonday_4 (by decide) ?_
  refine z_irem G dX7_isMonday_6 (by decide) ?_
  refine lv_if_ne (tgt := 14) G.x G.b dX7_isMonday_7 (by decide) (fun c1 => ?_) (fun c1 => ?_)
  · have h := z_ifn c1 h
    refine lv_iconst (v := (0 : Int32)) G.x G.b dX7_isMonday_14 (by decide) ?_
    exact z_rtZ G hr hlk h dX7_isMonday_15
  · have h := z_if c1 h
    refine lv_iconst (v := (1 : Int32)) G.x G.b dX7_isMonday_10 (by decide) ?_
    refine lv_goto (tgt := 15) G.x G.b dX7_isMonday_11 (by decide) ?_
    exact z_rtZ G hr hlk h dX7_isMonday_15
def fX7_houseTonight (M0 : zM) (t : Nat) (a1 : Int32) : Option Int32 :=
  (zix a1 6).bind fun j1 =>
  some (zrem ((M0.1 t 1) + (M0.1 (t + 6) j1)) (6 : Int32))
abbrev rX7_houseTonight : Room := { frames := 0, cells := 0, slots := 0, locals := 0 }
theorem arX7_houseTonight : zAr yX7_houseTonight RX7 1 := ⟨rfl, by decide, by decide, by decide +kernel⟩
set_option maxHeartbeats 4000000 in
theorem kX7_houseTonight (l : Launch) {w : zWd} (hw : zIsC w) {t : Nat} (ht : zT t) {M0 : zM} {a1 : Int32} {r : Int32} (h : fX7_houseTonight M0 t a1 = some r) : Met l yX7_houseTonight (Cond.code yX7_houseTonight cX7_houseTonight 2 (some .int) :: zU) rX7_houseTonight (zPre w M0 [.ref (za w t), .int a1]) (zR (some (.int r))) 0 0 zNo := by
  refine z_metN (own := RX7) (lv := [(0, .ref (za w t)), (1, .int a1)]) hw.1 (by decide) (Nat.le_of_ble_eq_true rfl) rfl rfl ?_
  intro p e s m args below meth c G hr hlk hH ls hl
  unfold fX7_houseTonight at h
  refine lv_aload_n G.x G.b dX7_houseTonight_0 rfl (lv_at hl 0 rfl) ?_
  refine z_get (v := .int (M0.1 t 1)) (k := t) G hH.1 (cCt hw ht) vc7 inU7 1 (by decide) u76 rfl dX7_houseTonight_1 ?_
  refine lv_aload_n G.x G.b dX7_houseTonight_4 rfl (lv_at hl 0 rfl) ?_
  refine z_get (v := .ref (za w (t + 6))) (k := t) G hH.1 (cCt hw ht) vc7 inU7 9 (by decide) u98 rfl dX7_houseTonight_5 ?_
  refine lv_iload_n G.x G.b dX7_houseTonight_8 rfl (lv_at hl 1 rfl) ?_
  obtain ⟨j1, ej1, h⟩ := z_bind h
  refine z_iald (k := (t + 6)) G hH.1 (cCt6 hw ht) ej1 dX7_houseTonight_9 ?_
  refine lv_iadd G.x G.b dX7_houseTonight_10 ?_
  refine lv_bipush (v := (6 : Int32)) G.x G.b dX7_houseTonight_11 (by decide) ?_
  refine z_irem G dX7_houseTonight_13 (by decide) ?_
  exact z_rtI G hr hlk h dX7_houseTonight_14
def fX7_costOf (M0 : zM) (t : Nat) (a1 : Int32) : Option Int32 :=
  (zix a1 8).bind fun j1 =>
  (zix (M0.1 (t + 1) j1) 6).bind fun j2 =>
  (zix a1 8).bind fun j3 =>
  (zix a1 8).bind fun j4 =>
  (qcosts j2 (M0.1 (t + 2) j3) (M0.1 (t + 3) j4)).bind fun x5 =>
  some x5
abbrev rX7_costOf : Room := { frames := 3, cells := 0, slots := 0, locals := 66 }
theorem arX7_costOf : zAr yX7_costOf RX7 1 := ⟨rfl, by decide, by decide, by decide +kernel⟩
set_option maxHeartbeats 4000000 in
theorem kX7_costOf (l : Launch) {w : zWd} (hw : zIsC w) {t : Nat} (ht : zT t) {M0 : zM} {a1 : Int32} {r : Int32} (h : fX7_costOf M0 t a1 = some r) : Met l yX7_costOf (Cond.code yX7_costOf cX7_costOf 2 (some .int) :: zU) rX7_costOf (zPre w M0 [.ref (za w t), .int a1]) (zR (some (.int r))) 0 0 zNo := by
  refine z_metN (own := RX7) (lv := [(0, .ref (za w t)), (1, .int a1)]) hw.1 (by decide) (Nat.le_of_ble_eq_true rfl) rfl rfl ?_
  intro p e s m args below meth c G hr hlk hH ls hl
  unfold fX7_costOf at h
  refine lv_aload_n G.x G.b dX7_costOf_0 rfl (lv_at hl 0 rfl) ?_
  refine z_get (v := .ref (za w 35)) (k := t) G hH.1 (cCt hw ht) vc7 inU7 0 (by decide) u75 rfl dX7_costOf_1 ?_
  refine lv_aload_n G.x G.b dX7_costOf_4 rfl (lv_at hl 0 rfl) ?_
  refine z_get (v := .ref (za w (t + 1))) (k := t) G hH.1 (cCt hw ht) vc7 inU7 4 (by decide) u84 rfl dX7_costOf_5 ?_
  refine lv_iload_n G.x G.b dX7_costOf_8 rfl (lv_at hl 1 rfl) ?_
  obtain ⟨j1, ej1, h⟩ := z_bind h
  refine z_iald (k := (t + 1)) G hH.1 (cCt1 hw ht) ej1 dX7_costOf_9 ?_
  obtain ⟨j2, ej2, h⟩ := z_bind h
  refine z_aald (k := 35) G hH.1 (cC35 hw) ej2 dX7_costOf_10 ?_
  refine lv_aload_n G.x G.b dX7_costOf_11 rfl (lv_at hl 0 rfl) ?_
  refine z_get (v := .ref (za w (t + 2))) (k := t) G hH.1 (cCt hw ht) vc7 inU7 5 (by decide) u86 rfl dX7_costOf_12 ?_
  refine lv_iload_n G.x G.b dX7_costOf_15 rfl (lv_at hl 1 rfl) ?_
  obtain ⟨j3, ej3, h⟩ := z_bind h
  refine z_iald (k := (t + 2)) G hH.1 (cCt2 hw ht) ej3 dX7_costOf_16 ?_
  refine lv_aload_n G.x G.b dX7_costOf_17 rfl (lv_at hl 0 rfl) ?_
  refine z_get (v := .ref (za w (t + 3))) (k := t) G hH.1 (cCt hw ht) vc7 inU7 6 (by decide) u89 rfl dX7_costOf_18 ?_
  refine lv_iload_n G.x G.b dX7_costOf_21 rfl (lv_at hl 1 rfl) ?_
  obtain ⟨j4, ej4, h⟩ := z_bind h
  refine z_iald (k := (t + 3)) G hH.1 (cCt3 hw ht) ej4 dX7_costOf_22 ?_
  obtain ⟨x5, ex5, h⟩ := z_bind h
  refine z_rdI (q_costs (rest := []) G hH hl.1 hw (zix_lt ej2) ex5 u286 (Nat.le_of_ble_eq_true rfl) (Nat.le_of_ble_eq_true rfl) (Nat.le_of_ble_eq_true rfl) dX7_costOf_23) ?_
  exact z_rtI G hr hlk h dX7_costOf_26
def fX7_meetingAt (M0 : zM) (t : Nat) (a1 : Int32) (a2 : Int32) : Option Int32 :=
  (zix a1 8).bind fun j1 =>
  (zix (M0.1 (t + 1) j1) 6).bind fun j2 =>
  (zix a2 6).bind fun j3 =>
  (zix a2 6).bind fun j4 =>
  if (M0.1 (t + 9) j4) = a1 then ((zix a1 8).bind fun j8 =>
  (qmeets j2 (M0.1 (t + 8) j3) (1 : Int32) (M0.1 (t + 2) j8)).bind fun x9 =>
  some x9) else ((zix a1 8).bind fun j6 =>
  (qmeets j2 (M0.1 (t + 8) j3) (0 : Int32) (M0.1 (t + 2) j6)).bind fun x7 =>
  some x7)
abbrev rX7_meetingAt : Room := { frames := 3, cells := 0, slots := 0, locals := 71 }
theorem arX7_meetingAt : zAr yX7_meetingAt RX7 2 := ⟨rfl, by decide, by decide, by decide +kernel⟩
set_option maxHeartbeats 4000000 in
theorem kX7_meetingAt (l : Launch) {w : zWd} (hw : zIsC w) {t : Nat} (ht : zT t) {M0 : zM} {a1 : Int32} {a2 : Int32} {r : Int32} (h : fX7_meetingAt M0 t a1 a2 = some r) : Met l yX7_meetingAt (Cond.code yX7_meetingAt cX7_meetingAt 3 (some .int) :: zU) rX7_meetingAt (zPre w M0 [.ref (za w t), .int a1, .int a2]) (zR (some (.int r))) 0 0 zNo := by
  refine z_metN (own := RX7) (lv := [(0, .ref (za w t)), (1, .int a1), (2, .int a2)]) hw.1 (by decide) (Nat.le_of_ble_eq_true rfl) rfl rfl ?_
  intro p e s m args below meth c G hr hlk hH ls hl
  unfold fX7_meetingAt at h
  refine lv_aload_n G.x G.b dX7_meetingAt_0 rfl (lv_at hl 0 rfl) ?_
  refine z_get (v := .ref (za w 35)) (k := t) G hH.1 (cCt hw ht) vc7 inU7 0 (by decide) u75 rfl dX7_meetingAt_1 ?_
  refine lv_aload_n G.x G.b dX7_meetingAt_4 rfl (lv_at hl 0 rfl) ?_
  refine z_get (v := .ref (za w (t + 1))) (k := t) G hH.1 (cCt hw ht) vc7 inU7 4 (by decide) u84 rfl dX7_meetingAt_5 ?_
  refine lv_iload_n G.x G.b dX7_meetingAt_8 rfl (lv_at hl 1 rfl) ?_
  obtain ⟨j1, ej1, h⟩ := z_bind h
  refine z_iald (k := (t + 1)) G hH.1 (cCt1 hw ht) ej1 dX7_meetingAt_9 ?_
  obtain ⟨j2, ej2, h⟩ := z_bind h
  refine z_aald (k := 35) G hH.1 (cC35 hw) ej2 dX7_meetingAt_10 ?_
  refine lv_aload_n G.x G.b dX7_meetingAt_11 rfl (lv_at hl 0 rfl) ?_
  refine z_get (v := .ref (za w (t + 8))) (k := t) G hH.1 (cCt hw ht) vc7 inU7 11 (by decide) u104 rfl dX7_meetingAt_12 ?_
  refine lv_iload_n G.x G.b dX7_meetingAt_15 rfl (lv_at hl 2 rfl) ?_
  obtain ⟨j3, ej3, h⟩ := z_bind h
  refine z_iald (k := (t + 8)) G hH.1 (cCt8 hw ht) ej3 dX7_meetingAt_16 ?_
  refine lv_aload_n G.x G.b dX7_meetingAt_17 rfl (lv_at hl 0 rfl) ?_
  refine z_get (v := .ref (za w (t + 9))) (k := t) G hH.1 (cCt hw ht) vc7 inU7 12 (by decide) u107 rfl dX7_meetingAt_18 ?_
  refine lv_iload_n G.x G.b dX7_meetingAt_21 rfl (lv_at hl 2 rfl) ?_
  obtain ⟨j4, ej4, h⟩ := z_bind h
  refine z_iald (k := (t + 9)) G hH.1 (cCt9 hw ht) ej4 dX7_meetingAt_22 ?_
  refine lv_iload_n G.x G.b dX7_meetingAt_23 rfl (lv_at hl 1 rfl) ?_
  refine lv_icmp_ne (tgt := 31) G.x G.b dX7_meetingAt_24 (by decide) (fun c5 => ?_) (fun c5 => ?_)
  · have h := z_ifn c5 h
    refine lv_iconst (v := (0 : Int32)) G.x G.b dX7_meetingAt_31 (by decide) ?_
    refine lv_aload_n G.x G.b dX7_meetingAt_32 rfl (lv_at hl 0 rfl) ?_
    refine z_get (v := .ref (za w (t + 2))) (k := t) G hH.1 (cCt hw ht) vc7 inU7 5 (by decide) u86 rfl dX7_meetingAt_33 ?_
    refine lv_iload_n G.x G.b dX7_meetingAt_36 rfl (lv_at hl 1 rfl) ?_
    obtain ⟨j6, ej6, h⟩ := z_bind h
    refine z_iald (k := (t + 2)) G hH.1 (cCt2 hw ht) ej6 dX7_meetingAt_37 ?_
    obtain ⟨x7, ex7, h⟩ := z_bind h
    refine z_rdI (q_meets (rest := []) G hH hl.1 hw (zix_lt ej2) ex7 u345 (Nat.le_of_ble_eq_true rfl) (Nat.le_of_ble_eq_true rfl) (Nat.le_of_ble_eq_true rfl) dX7_meetingAt_38) ?_
    exact z_rtI G hr hlk h dX7_meetingAt_41
  · have h := z_if c5 h
    refine lv_iconst (v := (1 : Int32)) G.x G.b dX7_meetingAt_27 (by decide) ?_
    refine lv_goto (tgt := 32) G.x G.b dX7_meetingAt_28 (by decide) ?_
    refine lv_aload_n G.x G.b dX7_meetingAt_32 rfl (lv_at hl 0 rfl) ?_
    refine z_get (v := .ref (za w (t + 2))) (k := t) G hH.1 (cCt hw ht) vc7 inU7 5 (by decide) u86 rfl dX7_meetingAt_33 ?_
    refine lv_iload_n G.x G.b dX7_meetingAt_36 rfl (lv_at hl 1 rfl) ?_
    obtain ⟨j8, ej8, h⟩ := z_bind h
    refine z_iald (k := (t + 2)) G hH.1 (cCt2 hw ht) ej8 dX7_meetingAt_37 ?_
    obtain ⟨x9, ex9, h⟩ := z_bind h
    refine z_rdI (q_meets (rest := []) G hH hl.1 hw (zix_lt ej2) ex9 u345 (Nat.le_of_ble_eq_true rfl) (Nat.le_of_ble_eq_true rfl) (Nat.le_of_ble_eq_true rfl) dX7_meetingAt_38) ?_
    exact z_rtI G hr hlk h dX7_meetingAt_41
def fX7_leavingOf (M0 : zM) (t : Nat) (a1 : Int32) : Option Int32 :=
  (zix a1 8).bind fun j1 =>
  (zix (M0.1 (t + 1) j1) 6).bind fun j2 =>
  (zix a1 8).bind fun j3 =>
  (qleaves j2 (M0.1 (t + 2) j3)).bind fun x4 =>
  some x4
abbrev rX7_leavingOf : Room := { frames := 3, cells := 0, slots := 0, locals := 63 }
theorem arX7_leavingOf : zAr yX7_leavingOf RX7 1 := ⟨rfl, by decide, by decide, by decide +kernel⟩
set_option maxHeartbeats 4000000 in
theorem kX7_leavingOf (l : Launch) {w : zWd} (hw : zIsC w) {t : Nat} (ht : zT t) {M0 : zM} {a1 : Int32} {r : Int32} (h : fX7_leavingOf M0 t a1 = some r) : Met l yX7_leavingOf (Cond.code yX7_leavingOf cX7_leavingOf 2 (some .int) :: zU) rX7_leavingOf (zPre w M0 [.ref (za w t), .int a1]) (zR (some (.int r))) 0 0 zNo := by
  refine z_metN (own := RX7) (lv := [(0, .ref (za w t)), (1, .int a1)]) hw.1 (by decide) (Nat.le_of_ble_eq_true rfl) rfl rfl ?_
  intro p e s m args below meth c G hr hlk hH ls hl
  unfold fX7_leavingOf at h
  refine lv_aload_n G.x G.b dX7_leavingOf_0 rfl (lv_at hl 0 rfl) ?_
  refine z_get (v := .ref (za w 35)) (k := t) G hH.1 (cCt hw ht) vc7 inU7 0 (by decide) u75 rfl dX7_leavingOf_1 ?_
  refine lv_aload_n G.x G.b dX7_leavingOf_4 rfl (lv_at hl 0 rfl) ?_
  refine z_get (v := .ref (za w (t + 1))) (k := t) G hH.1 (cCt hw ht) vc7 inU7 4 (by decide) u84 rfl dX7_leavingOf_5 ?_
  refine lv_iload_n G.x G.b dX7_leavingOf_8 rfl (lv_at hl 1 rfl) ?_
  obtain ⟨j1, ej1, h⟩ := z_bind h
  refine z_iald (k := (t + 1)) G hH.1 (cCt1 hw ht) ej1 dX7_leavingOf_9 ?_
  obtain ⟨j2, ej2, h⟩ := z_bind h
  refine z_aald (k := 35) G hH.1 (cC35 hw) ej2 dX7_leavingOf_10 ?_
  refine lv_aload_n G.x G.b dX7_leavingOf_11 rfl (lv_at hl 0 rfl) ?_
  refine z_get (v := .ref (za w (t + 2))) (k := t) G hH.1 (cCt hw ht) vc7 inU7 5 (by decide) u86 rfl dX7_leavingOf_12 ?_
  refine lv_iload_n G.x G.b dX7_leavingOf_15 rfl (lv_at hl 1 rfl) ?_
  obtain ⟨j3, ej3, h⟩ := z_bind h
  refine z_iald (k := (t + 2)) G hH.1 (cCt2 hw ht) ej3 dX7_leavingOf_16 ?_
  obtain ⟨x4, ex4, h⟩ := z_bind h
  refine z_rdI (q_leaves (rest := []) G hH hl.1 hw (zix_lt ej2) ex4 u374 (Nat.le_of_ble_eq_true rfl) (Nat.le_of_ble_eq_true rfl) (Nat.le_of_ble_eq_true rfl) dX7_leavingOf_17) ?_
  exact z_rtI G hr hlk h dX7_leavingOf_20
def fX7_gainOf (M0 : zM) (t : Nat) (a1 : Int32) : Option Int32 :=
  (zix a1 8).bind fun j1 =>
  (zix (M0.1 (t + 1) j1) 6).bind fun j2 =>
  (fX7_isMonday M0 t).bind fun x3 =>
  (qgains j2 x3).bind fun x4 =>
  some x4
abbrev rX7_gainOf : Room := { frames := 3, cells := 0, slots := 0, locals := 63 }
theorem arX7_gainOf : zAr yX7_gainOf RX7 1 := ⟨rfl, by decide, by decide, by decide +kernel⟩
set_option maxHeartbeats 4000000 in
theorem kX7_gainOf (l : Launch) {w : zWd} (hw : zIsC w) {t : Nat} (ht : zT t) {M0 : zM} {a1 : Int32} {r : Int32} (h : fX7_gainOf M0 t a1 = some r) : Met l yX7_gainOf (Cond.code yX7_gainOf cX7_gainOf 2 (some .int) :: zU) rX7_gainOf (zPre w M0 [.ref (za w t), .int a1]) (zR (some (.int r))) 0 0 zNo := by
  refine z_metN (own := RX7) (lv := [(0, .ref (za w t)), (1, .int a1)]) hw.1 (by decide) (Nat.le_of_ble_eq_true rfl) rfl rfl ?_
  intro p e s m args below meth c G hr hlk hH ls hl
  unfold fX7_gainOf at h
  refine lv_aload_n G.x G.b dX7_gainOf_0 rfl (lv_at hl 0 rfl) ?_
  refine z_get (v := .ref (za w 35)) (k := t) G hH.1 (cCt hw ht) vc7 inU7 0 (by decide) u75 rfl dX7_gainOf_1 ?_
  refine lv_aload_n G.x G.b dX7_gainOf_4 rfl (lv_at hl 0 rfl) ?_
  refine z_get (v := .ref (za w (t + 1))) (k := t) G hH.1 (cCt hw ht) vc7 inU7 4 (by decide) u84 rfl dX7_gainOf_5 ?_
  refine lv_iload_n G.x G.b dX7_gainOf_8 rfl (lv_at hl 1 rfl) ?_
  obtain ⟨j1, ej1, h⟩ := z_bind h
  refine z_iald (k := (t + 1)) G hH.1 (cCt1 hw ht) ej1 dX7_gainOf_9 ?_
  obtain ⟨j2, ej2, h⟩ := z_bind h
  refine z_aald (k := 35) G hH.1 (cC35 hw) ej2 dX7_gainOf_10 ?_
  refine lv_aload_n G.x G.b dX7_gainOf_11 rfl (lv_at hl 0 rfl) ?_
  obtain ⟨x3, ex3, h⟩ := z_bind h
  refine z_rdI (z_runV (k := t) (As := []) (rest := [.ref (za w (36 + j2))]) G hH hl.1 (kX7_isMonday l hw ht ex3) (cCt hw ht) vc7 arX7_isMonday u313 u252 u253 u8 u254 rfl rfl rfl (Nat.le_of_ble_eq_true rfl) (Nat.le_of_ble_eq_true rfl) rfl (Nat.le_of_ble_eq_true rfl) dX7_gainOf_12) ?_
  obtain ⟨x4, ex4, h⟩ := z_bind h
  refine z_rdI (q_gains (rest := []) G hH hl.1 hw (zix_lt ej2) ex4 u314 (Nat.le_of_ble_eq_true rfl) (Nat.le_of_ble_eq_true rfl) (Nat.le_of_ble_eq_true rfl) dX7_gainOf_15) ?_
  exact z_rtI G hr hlk h dX7_gainOf_18
def fX7_held (a1 : Int32) (a2 : Int32) (a3 : Int32) : Option Int32 :=
  some (zmax a2 (zmin a3 a1))
abbrev rX7_held : Room := { frames := 1, cells := 0, slots := 0, locals := 24 }
theorem arX7_held : zAr yX7_held RX7 3 := ⟨rfl, by decide, by decide, by decide +kernel⟩
set_option maxHeartbeats 4000000 in
theorem kX7_held (l : Launch) {w : zWd} (ho : zOk w) {M0 : zM} {a1 : Int32} {a2 : Int32} {a3 : Int32} {r : Int32} (h : fX7_held a1 a2 a3 = some r) : Met l yX7_held (Cond.code yX7_held cX7_held 3 (some .int) :: zU) rX7_held (zPre w M0 [.int a1, .int a2, .int a3]) (zR (some (.int r))) 0 0 zNo := by
  refine z_metN (own := RX7) (lv := [(0, .int a1), (1, .int a2), (2, .int a3)]) ho (by decide) (Nat.le_of_ble_eq_true rfl) rfl rfl ?_
  intro p e s m args below meth c G hr hlk hH ls hl
  unfold fX7_held at h
  refine lv_iload_n G.x G.b dX7_held_0 rfl (lv_at hl 1 rfl) ?_
  refine lv_iload_n G.x G.b dX7_held_1 rfl (lv_at hl 2 rfl) ?_
  refine lv_iload_n G.x G.b dX7_held_2 rfl (lv_at hl 0 rfl) ?_
  refine z_mmin G hl.1 u470 u471 u12 u472 (Nat.le_of_ble_eq_true rfl) (Nat.le_of_ble_eq_true rfl) dX7_held_3 ?_
  refine z_mmax G hl.1 u473 u474 u12 u475 (Nat.le_of_ble_eq_true rfl) (Nat.le_of_ble_eq_true rfl) dX7_held_6 ?_
  exact z_rtI G hr hlk h dX7_held_9
def fX7_spendNight (M0 : zM) (t : Nat) (a1 : Int32) (a2 : Int32) : Option zM :=
  (zix a2 8).bind fun j1 =>
  (zix (M0.1 (t + 1) j1) 6).bind fun j2 =>
  (zix a2 8).bind fun j3 =>
  (zix a2 8).bind fun j4 =>
  (qcosts j2 (M0.1 (t + 2) j3) (M0.1 (t + 3) j4)).bind fun x5 =>
  (zix a1 6).bind fun j6 =>
  if x5 ≤ (M0.1 (t + 5) j6) then ((fX7_houseTonight M0 t a1).bind fun x8 =>
  (zix x8 6).bind fun j9 =>
  (zix x8 6).bind fun j10 =>
  zj (fun (x11 : Int32) =>
  (zix a2 8).bind fun j13 =>
  (qmeets j2 (M0.1 (t + 8) j9) x11 (M0.1 (t + 2) j13)).bind fun x14 =>
  (zix a2 8).bind fun j15 =>
  (qleaves j2 (M0.1 (t + 2) j15)).bind fun x16 =>
  (fX7_isMonday M0 t).bind fun x17 =>
  (qgains j2 x17).bind fun x18 =>
  (zix a1 6).bind fun j19 =>
  (fX7_held (((M0.1 (t + 5) j19) - x5) + x14) (0 : Int32) (9999 : Int32)).bind fun x20 =>
  (zix a1 6).bind fun j21 =>
  (some (zst M0 (t + 5) j21 x20)).bind fun M22 =>
  (zix a2 8).bind fun j23 =>
  zj (fun (x24 : Int32) =>
  (fX7_held ((M22.1 (t + 3) j23) + x24) (0 : Int32) (999 : Int32)).bind fun x26 =>
  (zix a2 8).bind fun j27 =>
  (some (zst M22 (t + 3) j27 x26)).bind fun M28 =>
  (zix x8 6).bind fun j29 =>
  (fX7_held ((M28.1 (t + 8) j29) + x16) (-50 : Int32) (50 : Int32)).bind fun x30 =>
  (zix x8 6).bind fun j31 =>
  (some (zst M28 (t + 8) j31 x30)).bind fun M32 =>
  (zix x8 6).bind fun j33 =>
  (some (zst M32 (t + 9) j33 a2)).bind fun M34 =>
  (zix a2 8).bind fun j35 =>
  (fX7_held ((M34.1 (t + 2) j35) + x18) (0 : Int32) (99 : Int32)).bind fun x36 =>
  (zix a2 8).bind fun j37 =>
  (some (zst M34 (t + 2) j37 x36)).bind fun M38 =>
  some M38) fun J158_25 =>
  if x14 ≤ (0 : Int32) then (J158_25 (1 : Int32)) else (J158_25 (3 : Int32))) fun J79_12 =>
  if (M0.1 (t + 9) j10) = a2 then (J79_12 (1 : Int32)) else (J79_12 (0 : Int32))) else ((fX7_takeOff M0 t a1 a2).bind fun M41 =>
  some M41)
abbrev rX7_spendNight : Room := { frames := 3, cells := 0, slots := 0, locals := 71 }
theorem arX7_spendNight : zAr yX7_spendNight RX7 2 := ⟨rfl, by decide, by decide, by decide +kernel⟩
set_option maxHeartbeats 4000000 in
theorem kX7_spendNight (l : Launch) {w : zWd} (hw : zIsC w) {t : Nat} (ht : zT t) {M0 M' : zM} {a1 : Int32} {a2 : Int32} (h : fX7_spendNight M0 t a1 a2 = some M') : Met l yX7_spendNight (Cond.code yX7_spendNight cX7_spendNight 9 (none) :: zU) rX7_spendNight (zPre w M0 [.ref (za w t), .int a1, .int a2]) (zQ w (none) M') 0 0 (zA w) := by
  refine z_metN (own := RX7) (lv := [(0, .ref (za w t)), (1, .int a1), (2, .int a2)]) hw.1 (by decide) (Nat.le_of_ble_eq_true rfl) rfl rfl ?_
  intro p e s m args below meth c G hr hlk hH ls hl
  unfold fX7_spendNight at h
  refine lv_aload_n G.x G.b dX7_spendNight_0 rfl (lv_at hl 0 rfl) ?_
  refine z_get (v := .ref (za w 35)) (k := t) G hH.1 (cCt hw ht) vc7 inU7 0 (by decide) u75 rfl dX7_spendNight_1 ?_
  refine lv_aload_n G.x G.b dX7_spendNight_4 rfl (lv_at hl 0 rfl) ?_
  refine z_get (v := .ref (za w (t + 1))) (k := t) G hH.1 (cCt hw ht) vc7 inU7 4 (by decide) u84 rfl dX7_spendNight_5 ?_
  refine lv_iload_n G.x G.b dX7_spendNight_8 rfl (lv_at hl 2 rfl) ?_
  obtain ⟨j1, ej1, h⟩ := z_bind h
  refine z_iald (k := (t + 1)) G hH.1 (cCt1 hw ht) ej1 dX7_spendNight_9 ?_
  obtain ⟨j2, ej2, h⟩ := z_bind h
  refine z_aald (k := 35) G hH.1 (cC35 hw) ej2 dX7_spendNight_10 ?_
  refine lv_astore_n (lv' := [(3, .ref (za w (36 + j2))), (0, .ref (za w t)), (1, .int a1), (2, .int a2)]) G.x G.b dX7_spendNight_11 rfl hl (Nat.le_of_ble_eq_true rfl) rfl (fun ls hl => ?_)
  refine lv_aload_n G.x G.b dX7_spendNight_12 rfl (lv_at hl 0 rfl) ?_
  refine lv_aload_n G.x G.b dX7_spendNight_13 rfl (lv_at hl 1 rfl) ?_
  refine z_get (v := .ref (za w (t + 2))) (k := t) G hH.1 (cCt hw ht) vc7 inU7 5 (by decide) u86 rfl dX7_spendNight_14 ?_
  refine lv_iload_n G.x G.b dX7_spendNight_17 rfl (lv_at hl 3 rfl) ?_
  obtain ⟨j3, ej3, h⟩ := z_bind h
  refine z_iald (k := (t + 2)) G hH.1 (cCt2 hw ht) ej3 dX7_spendNight_18 ?_
  refine lv_aload_n G.x G.b dX7_spendNight_19 rfl (lv_at hl 1 rfl) ?_
  refine z_get (v := .ref (za w (t + 3))) (k := t) G hH.1 (cCt hw ht) vc7 inU7 6 (by decide) u89 rfl dX7_spendNight_20 ?_
  refine lv_iload_n G.x G.b dX7_spendNight_23 rfl (lv_at hl 3 rfl) ?_
  obtain ⟨j4, ej4, h⟩ := z_bind h
  refine z_iald (k := (t + 3)) G hH.1 (cCt3 hw ht) ej4 dX7_spendNight_24 ?_
  obtain ⟨x5, ex5, h⟩ := z_bind h
  refine z_rdI (q_costs (rest := []) G hH hl.1 hw (zix_lt ej2) ex5 u286 (Nat.le_of_ble_eq_true rfl) (Nat.le_of_ble_eq_true rfl) (Nat.le_of_ble_eq_true rfl) dX7_spendNight_25) ?_
  refine lv_istore (lv' := [(4, .int x5), (3, .ref (za w (36 + j2))), (0, .ref (za w t)), (1, .int a1), (2, .int a2)]) G.x G.b dX7_spendNight_28 hl (Nat.le_of_ble_eq_true rfl) rfl (fun ls hl => ?_)
  refine lv_aload_n G.x G.b dX7_spendNight_30 rfl (lv_at hl 2 rfl) ?_
  refine z_get (v := .ref (za w (t + 5))) (k := t) G hH.1 (cCt hw ht) vc7 inU7 8 (by decide) u95 rfl dX7_spendNight_31 ?_
  refine lv_iload_n G.x G.b dX7_spendNight_34 rfl (lv_at hl 3 rfl) ?_
  obtain ⟨j6, ej6, h⟩ := z_bind h
  refine z_iald (k := (t + 5)) G hH.1 (cCt5 hw ht) ej6 dX7_spendNight_35 ?_
  refine lv_iload G.x G.b dX7_spendNight_36 (lv_at hl 0 rfl) ?_
  refine lv_icmp_ge (tgt := 48) G.x G.b dX7_spendNight_38 (by decide) (fun c7 => ?_) (fun c7 => ?_)
  · have h := z_if c7 h
    refine lv_aload_n G.x G.b dX7_spendNight_48 rfl (lv_at hl 2 rfl) ?_
    refine lv_iload_n G.x G.b dX7_spendNight_49 rfl (lv_at hl 3 rfl) ?_
    obtain ⟨x8, ex8, h⟩ := z_bind h
    refine z_rdI (z_runV (k := t) (As := [.int a1]) (rest := []) G hH hl.1 (kX7_houseTonight l hw ht ex8) (cCt hw ht) vc7 arX7_houseTonight u243 u244 u245 u8 u246 rfl rfl rfl (Nat.le_of_ble_eq_true rfl) (Nat.le_of_ble_eq_true rfl) rfl (Nat.le_of_ble_eq_true rfl) dX7_spendNight_50) ?_
    refine lv_istore (lv' := [(5, .int x8), (4, .int x5), (3, .ref (za w (36 + j2))), (0, .ref (za w t)), (1, .int a1), (2, .int a2)]) G.x G.b dX7_spendNight_53 hl (Nat.le_of_ble_eq_true rfl) rfl (fun ls hl => ?_)
    refine lv_aload_n G.x G.b dX7_spendNight_55 rfl (lv_at hl 2 rfl) ?_
    refine lv_aload_n G.x G.b dX7_spendNight_56 rfl (lv_at hl 3 rfl) ?_
    refine z_get (v := .ref (za w (t + 8))) (k := t) G hH.1 (cCt hw ht) vc7 inU7 11 (by decide) u104 rfl dX7_spendNight_57 ?_
    refine lv_iload G.x G.b dX7_spendNight_60 (lv_at hl 0 rfl) ?_
    obtain ⟨j9, ej9, h⟩ := z_bind h
    refine z_iald (k := (t + 8)) G hH.1 (cCt8 hw ht) ej9 dX7_spendNight_62 ?_
    refine lv_aload_n G.x G.b dX7_spendNight_63 rfl (lv_at hl 3 rfl) ?_
    refine z_get (v := .ref (za w (t + 9))) (k := t) G hH.1 (cCt hw ht) vc7 inU7 12 (by decide) u107 rfl dX7_spendNight_64 ?_
    refine lv_iload G.x G.b dX7_spendNight_67 (lv_at hl 0 rfl) ?_
    obtain ⟨j10, ej10, h⟩ := z_bind h
    refine z_iald (k := (t + 9)) G hH.1 (cCt9 hw ht) ej10 dX7_spendNight_69 ?_
    refine lv_iload_n G.x G.b dX7_spendNight_70 rfl (lv_at hl 5 rfl) ?_
    obtain ⟨J79_12, hJ79_12, h⟩ := z_j h
    have kJ79_12 : ∀ (x11 : Int32) (ls : Array Slot), J79_12 x11 = some M' → lv_has ls 9 [(0, .ref (za w t)), (1, .int a1), (2, .int a2), (3, .ref (za w (36 + j2))), (4, .int x5), (5, .int x8)] → zGo p l e rX7_spendNight s m args below meth c (zQ w (none) M') (zA w) s.heap [] (F0 m 79 ls [.int x11, .int (M0.1 (t + 8) j9), .ref (za w (36 + j2))]) := by
      intro x11 ls h hl
      rw [hJ79_12] at h
      refine lv_aload_n G.x G.b dX7_spendNight_79 rfl (lv_at hl 0 rfl) ?_
      refine z_get (v := .ref (za w (t + 2))) (k := t) G hH.1 (cCt hw ht) vc7 inU7 5 (by decide) u86 rfl dX7_spendNight_80 ?_
      refine lv_iload_n G.x G.b dX7_spendNight_83 rfl (lv_at hl 2 rfl) ?_
      obtain ⟨j13, ej13, h⟩ := z_bind h
      refine z_iald (k := (t + 2)) G hH.1 (cCt2 hw ht) ej13 dX7_spendNight_84 ?_
      obtain ⟨x14, ex14, h⟩ := z_bind h
      refine z_rdI (q_meets (rest := []) G hH hl.1 hw (zix_lt ej2) ex14 u345 (Nat.le_of_ble_eq_true rfl) (Nat.le_of_ble_eq_true rfl) (Nat.le_of_ble_eq_true rfl) dX7_spendNight_85) ?_
      refine lv_istore (lv' := [(6, .int x14), (0, .ref (za w t)), (1, .int a1), (2, .int a2), (3, .ref (za w (36 + j2))), (4, .int x5), (5, .int x8)]) G.x G.b dX7_spendNight_88 hl (Nat.le_of_ble_eq_true rfl) rfl (fun ls hl => ?_)
      refine lv_aload_n G.x G.b dX7_spendNight_90 rfl (lv_at hl 4 rfl) ?_
      refine lv_aload_n G.x G.b dX7_spendNight_91 rfl (lv_at hl 1 rfl) ?_
      refine z_get (v := .ref (za w (t + 2))) (k := t) G hH.1 (cCt hw ht) vc7 inU7 5 (by decide) u86 rfl dX7_spendNight_92 ?_
      refine lv_iload_n G.x G.b dX7_spendNight_95 rfl (lv_at hl 3 rfl) ?_
      obtain ⟨j15, ej15, h⟩ := z_bind h
      refine z_iald (k := (t + 2)) G hH.1 (cCt2 hw ht) ej15 dX7_spendNight_96 ?_
      obtain ⟨x16, ex16, h⟩ := z_bind h
      refine z_rdI (q_leaves (rest := []) G hH hl.1 hw (zix_lt ej2) ex16 u374 (Nat.le_of_ble_eq_true rfl) (Nat.le_of_ble_eq_true rfl) (Nat.le_of_ble_eq_true rfl) dX7_spendNight_97) ?_
      refine lv_istore (lv' := [(7, .int x16), (6, .int x14), (0, .ref (za w t)), (1, .int a1), (2, .int a2), (3, .ref (za w (36 + j2))), (4, .int x5), (5, .int x8)]) G.x G.b dX7_spendNight_100 hl (Nat.le_of_ble_eq_true rfl) rfl (fun ls hl => ?_)
      refine lv_aload_n G.x G.b dX7_spendNight_102 rfl (lv_at hl 5 rfl) ?_
      refine lv_aload_n G.x G.b dX7_spendNight_103 rfl (lv_at hl 2 rfl) ?_
      obtain ⟨x17, ex17, h⟩ := z_bind h
      refine z_rdI (z_runV (k := t) (As := []) (rest := [.ref (za w (36 + j2))]) G hH hl.1 (kX7_isMonday l hw ht ex17) (cCt hw ht) vc7 arX7_isMonday u313 u252 u253 u8 u254 rfl rfl rfl (Nat.le_of_ble_eq_true rfl) (Nat.le_of_ble_eq_true rfl) rfl (Nat.le_of_ble_eq_true rfl) dX7_spendNight_104) ?_
      obtain ⟨x18, ex18, h⟩ := z_bind h
      refine z_rdI (q_gains (rest := []) G hH hl.1 hw (zix_lt ej2) ex18 u314 (Nat.le_of_ble_eq_true rfl) (Nat.le_of_ble_eq_true rfl) (Nat.le_of_ble_eq_true rfl) dX7_spendNight_107) ?_
      refine lv_istore (lv' := [(8, .int x18), (7, .int x16), (6, .int x14), (0, .ref (za w t)), (1, .int a1), (2, .int a2), (3, .ref (za w (36 + j2))), (4, .int x5), (5, .int x8)]) G.x G.b dX7_spendNight_110 hl (Nat.le_of_ble_eq_true rfl) rfl (fun ls hl => ?_)
      refine lv_aload_n G.x G.b dX7_spendNight_112 rfl (lv_at hl 3 rfl) ?_
      refine z_get (v := .ref (za w (t + 5))) (k := t) G hH.1 (cCt hw ht) vc7 inU7 8 (by decide) u95 rfl dX7_spendNight_113 ?_
      refine lv_iload_n G.x G.b dX7_spendNight_116 rfl (lv_at hl 4 rfl) ?_
      refine lv_aload_n G.x G.b dX7_spendNight_117 rfl (lv_at hl 3 rfl) ?_
      refine z_get (v := .ref (za w (t + 5))) (k := t) G hH.1 (cCt hw ht) vc7 inU7 8 (by decide) u95 rfl dX7_spendNight_118 ?_
      refine lv_iload_n G.x G.b dX7_spendNight_121 rfl (lv_at hl 4 rfl) ?_
      obtain ⟨j19, ej19, h⟩ := z_bind h
      refine z_iald (k := (t + 5)) G hH.1 (cCt5 hw ht) ej19 dX7_spendNight_122 ?_
      refine lv_iload G.x G.b dX7_spendNight_123 (lv_at hl 7 rfl) ?_
      refine lv_isub G.x G.b dX7_spendNight_125 ?_
      refine lv_iload G.x G.b dX7_spendNight_126 (lv_at hl 2 rfl) ?_
      refine lv_iadd G.x G.b dX7_spendNight_128 ?_
      refine lv_iconst (v := (0 : Int32)) G.x G.b dX7_spendNight_129 (by decide) ?_
      refine lv_sipush (v := (9999 : Int32)) G.x G.b dX7_spendNight_130 (by decide) ?_
      obtain ⟨x20, ex20, h⟩ := z_bind h
      refine z_rdI (z_runS (As := [.int (((M0.1 (t + 5) j19) - x5) + x14), .int (0 : Int32), .int (9999 : Int32)]) (rest := [.int a1, .ref (za w (t + 5))]) G hH hl.1 (kX7_held l hw.1 ex20) arX7_held u467 u468 u8 u469 rfl rfl rfl (Nat.le_of_ble_eq_true rfl) (Nat.le_of_ble_eq_true rfl) rfl (Nat.le_of_ble_eq_true rfl) dX7_spendNight_133) ?_
      obtain ⟨j21, ej21, h⟩ := z_bind h
      obtain ⟨M22, eM22, h⟩ := z_let h
      refine z_iastN (k := (t + 5)) G hH (cCt5 hw ht) ej21 dX7_spendNight_136 eM22 (fun H locs hH => ?_)
      refine lv_aload_n G.x G.b dX7_spendNight_137 rfl (lv_at hl 3 rfl) ?_
      refine z_get (v := .ref (za w (t + 3))) (k := t) G hH.1 (cCt hw ht) vc7 inU7 6 (by decide) u89 rfl dX7_spendNight_138 ?_
      refine lv_iload_n G.x G.b dX7_spendNight_141 rfl (lv_at hl 5 rfl) ?_
      refine lv_aload_n G.x G.b dX7_spendNight_142 rfl (lv_at hl 3 rfl) ?_
      refine z_get (v := .ref (za w (t + 3))) (k := t) G hH.1 (cCt hw ht) vc7 inU7 6 (by decide) u89 rfl dX7_spendNight_143 ?_
      refine lv_iload_n G.x G.b dX7_spendNight_146 rfl (lv_at hl 5 rfl) ?_
      obtain ⟨j23, ej23, h⟩ := z_bind h
      refine z_iald (k := (t + 3)) G hH.1 (cCt3 hw ht) ej23 dX7_spendNight_147 ?_
      refine lv_iload G.x G.b dX7_spendNight_148 (lv_at hl 2 rfl) ?_
      obtain ⟨J158_25, hJ158_25, h⟩ := z_j h
      have kJ158_25 : ∀ (x24 : Int32) (ls : Array Slot), J158_25 x24 = some M' → lv_has ls 9 [(0, .ref (za w t)), (2, .int a2), (5, .int x8), (7, .int x16), (8, .int x18)] → zGo p l e rX7_spendNight s m args below meth c (zQ w (none) M') (zA w) H locs (F0 m 158 ls [.int x24, .int (M22.1 (t + 3) j23), .int a2, .ref (za w (t + 3))]) := by
        intro x24 ls h hl
        rw [hJ158_25] at h
        refine lv_iadd G.x G.b dX7_spendNight_158 ?_
        refine lv_iconst (v := (0 : Int32)) G.x G.b dX7_spendNight_159 (by decide) ?_
        refine lv_sipush (v := (999 : Int32)) G.x G.b dX7_spendNight_160 (by decide) ?_
        obtain ⟨x26, ex26, h⟩ := z_bind h
        refine z_rdI (z_runS (As := [.int ((M22.1 (t + 3) j23) + x24), .int (0 : Int32), .int (999 : Int32)]) (rest := [.int a2, .ref (za w (t + 3))]) G hH hl.1 (kX7_held l hw.1 ex26) arX7_held u467 u468 u8 u469 rfl rfl rfl (Nat.le_of_ble_eq_true rfl) (Nat.le_of_ble_eq_true rfl) rfl (Nat.le_of_ble_eq_true rfl) dX7_spendNight_163) ?_
        obtain ⟨j27, ej27, h⟩ := z_bind h
        obtain ⟨M28, eM28, h⟩ := z_let h
        refine z_iastN (k := (t + 3)) G hH (cCt3 hw ht) ej27 dX7_spendNight_166 eM28 (fun H locs hH => ?_)
        refine lv_aload_n G.x G.b dX7_spendNight_167 rfl (lv_at hl 0 rfl) ?_
        refine z_get (v := .ref (za w (t + 8))) (k := t) G hH.1 (cCt hw ht) vc7 inU7 11 (by decide) u104 rfl dX7_spendNight_168 ?_
        refine lv_iload G.x G.b dX7_spendNight_171 (lv_at hl 2 rfl) ?_
        refine lv_aload_n G.x G.b dX7_spendNight_173 rfl (lv_at hl 0 rfl) ?_
        refine z_get (v := .ref (za w (t + 8))) (k := t) G hH.1 (cCt hw ht) vc7 inU7 11 (by decide) u104 rfl dX7_spendNight_174 ?_
        refine lv_iload G.x G.b dX7_spendNight_177 (lv_at hl 2 rfl) ?_
        obtain ⟨j29, ej29, h⟩ := z_bind h
        refine z_iald (k := (t + 8)) G hH.1 (cCt8 hw ht) ej29 dX7_spendNight_179 ?_
        refine lv_iload G.x G.b dX7_spendNight_180 (lv_at hl 3 rfl) ?_
        refine lv_iadd G.x G.b dX7_spendNight_182 ?_
        refine lv_bipush (v := (-50 : Int32)) G.x G.b dX7_spendNight_183 (by decide) ?_
        refine lv_bipush (v := (50 : Int32)) G.x G.b dX7_spendNight_185 (by decide) ?_
        obtain ⟨x30, ex30, h⟩ := z_bind h
        refine z_rdI (z_runS (As := [.int ((M28.1 (t + 8) j29) + x16), .int (-50 : Int32), .int (50 : Int32)]) (rest := [.int x8, .ref (za w (t + 8))]) G hH hl.1 (kX7_held l hw.1 ex30) arX7_held u467 u468 u8 u469 rfl rfl rfl (Nat.le_of_ble_eq_true rfl) (Nat.le_of_ble_eq_true rfl) rfl (Nat.le_of_ble_eq_true rfl) dX7_spendNight_187) ?_
        obtain ⟨j31, ej31, h⟩ := z_bind h
        obtain ⟨M32, eM32, h⟩ := z_let h
        refine z_iastN (k := (t + 8)) G hH (cCt8 hw ht) ej31 dX7_spendNight_190 eM32 (fun H locs hH => ?_)
        refine lv_aload_n G.x G.b dX7_spendNight_191 rfl (lv_at hl 0 rfl) ?_
        refine z_get (v := .ref (za w (t + 9))) (k := t) G hH.1 (cCt hw ht) vc7 inU7 12 (by decide) u107 rfl dX7_spendNight_192 ?_
        refine lv_iload G.x G.b dX7_spendNight_195 (lv_at hl 2 rfl) ?_
        refine lv_iload_n G.x G.b dX7_spendNight_197 rfl (lv_at hl 1 rfl) ?_
        obtain ⟨j33, ej33, h⟩ := z_bind h
        obtain ⟨M34, eM34, h⟩ := z_let h
        refine z_iastN (k := (t + 9)) G hH (cCt9 hw ht) ej33 dX7_spendNight_198 eM34 (fun H locs hH => ?_)
        refine lv_aload_n G.x G.b dX7_spendNight_199 rfl (lv_at hl 0 rfl) ?_
        refine z_get (v := .ref (za w (t + 2))) (k := t) G hH.1 (cCt hw ht) vc7 inU7 5 (by decide) u86 rfl dX7_spendNight_200 ?_
        refine lv_iload_n G.x G.b dX7_spendNight_203 rfl (lv_at hl 1 rfl) ?_
        refine lv_aload_n G.x G.b dX7_spendNight_204 rfl (lv_at hl 0 rfl) ?_
        refine z_get (v := .ref (za w (t + 2))) (k := t) G hH.1 (cCt hw ht) vc7 inU7 5 (by decide) u86 rfl dX7_spendNight_205 ?_
        refine lv_iload_n G.x G.b dX7_spendNight_208 rfl (lv_at hl 1 rfl) ?_
        obtain ⟨j35, ej35, h⟩ := z_bind h
        refine z_iald (k := (t + 2)) G hH.1 (cCt2 hw ht) ej35 dX7_spendNight_209 ?_
        refine lv_iload G.x G.b dX7_spendNight_210 (lv_at hl 4 rfl) ?_
        refine lv_iadd G.x G.b dX7_spendNight_212 ?_
        refine lv_iconst (v := (0 : Int32)) G.x G.b dX7_spendNight_213 (by decide) ?_
        refine lv_bipush (v := (99 : Int32)) G.x G.b dX7_spendNight_214 (by decide) ?_
        obtain ⟨x36, ex36, h⟩ := z_bind h
        refine z_rdI (z_runS (As := [.int ((M34.1 (t + 2) j35) + x18), .int (0 : Int32), .int (99 : Int32)]) (rest := [.int a2, .ref (za w (t + 2))]) G hH hl.1 (kX7_held l hw.1 ex36) arX7_held u467 u468 u8 u469 rfl rfl rfl (Nat.le_of_ble_eq_true rfl) (Nat.le_of_ble_eq_true rfl) rfl (Nat.le_of_ble_eq_true rfl) dX7_spendNight_216) ?_
        obtain ⟨j37, ej37, h⟩ := z_bind h
        obtain ⟨M38, eM38, h⟩ := z_let h
        refine z_iastN (k := (t + 2)) G hH (cCt2 hw ht) ej37 dX7_spendNight_219 eM38 (fun H locs hH => ?_)
        exact z_retV G hr hlk hH h dX7_spendNight_220
      refine lv_if_le (tgt := 157) G.x G.b dX7_spendNight_150 (by decide) (fun c39 => ?_) (fun c39 => ?_)
      · have h := z_if c39 h
        refine lv_iconst (v := (1 : Int32)) G.x G.b dX7_spendNight_157 (by decide) ?_
        exact kJ158_25 (1 : Int32) ls h (lv_sub hl [3, 5, 8, 1, 0] rfl)
      · have h := z_ifn c39 h
        refine lv_iconst (v := (3 : Int32)) G.x G.b dX7_spendNight_153 (by decide) ?_
        refine lv_goto (tgt := 158) G.x G.b dX7_spendNight_154 (by decide) ?_
        exact kJ158_25 (3 : Int32) ls h (lv_sub hl [3, 5, 8, 1, 0] rfl)
    refine lv_icmp_ne (tgt := 78) G.x G.b dX7_spendNight_71 (by decide) (fun c40 => ?_) (fun c40 => ?_)
    · have h := z_ifn c40 h
      refine lv_iconst (v := (0 : Int32)) G.x G.b dX7_spendNight_78 (by decide) ?_
      exact kJ79_12 (0 : Int32) ls h (lv_sub hl [3, 4, 5, 2, 1, 0] rfl)
    · have h := z_if c40 h
      refine lv_iconst (v := (1 : Int32)) G.x G.b dX7_spendNight_74 (by decide) ?_
      refine lv_goto (tgt := 79) G.x G.b dX7_spendNight_75 (by decide) ?_
      exact kJ79_12 (1 : Int32) ls h (lv_sub hl [3, 4, 5, 2, 1, 0] rfl)
  · have h := z_ifn c7 h
    refine lv_aload_n G.x G.b dX7_spendNight_41 rfl (lv_at hl 2 rfl) ?_
    refine lv_iload_n G.x G.b dX7_spendNight_42 rfl (lv_at hl 3 rfl) ?_
    refine lv_iload_n G.x G.b dX7_spendNight_43 rfl (lv_at hl 4 rfl) ?_
    obtain ⟨M41, eM41, h⟩ := z_bind h
    refine z_aftV (z_runV (k := t) (As := [.int a1, .int a2]) (rest := []) G hH hl.1 (kX7_takeOff l hw ht eM41) (cCt hw ht) vc7 arX7_takeOff u466 u446 u447 u8 u448 rfl rfl rfl (Nat.le_of_ble_eq_true rfl) (Nat.le_of_ble_eq_true rfl) rfl (Nat.le_of_ble_eq_true rfl) dX7_spendNight_44) hH (fun H locs hH => ?_)
    exact z_retV G hr hlk hH h dX7_spendNight_47
def bX7_combOut_2 (t : Nat) (E33_2 : zM → Option zM) (rc5 : zM → Int32 → Option zM) (M3 : zM) (x4 : Int32) : Option zM :=
  if (M3.1 t 2) ≤ x4 then (E33_2 M3) else ((zix x4 8).bind fun j7 =>
  zj (fun (M8 : zM) =>
  (some (x4 + (1 : Int32))).bind fun x10 =>
  rc5 M8 x10) fun J27_9 =>
  if (M3.1 (t + 4) j7) = (-1 : Int32) then ((zix x4 8).bind fun j12 =>
  (some (zst M3 (t + 3) j12 (0 : Int32))).bind fun M13 =>
  J27_9 M13) else (J27_9 M3))
def lX7_combOut_2 (t : Nat) (E33_2 : zM → Option zM) : Nat → zM → Int32 → Option zM := zL2 (bX7_combOut_2 t E33_2)
def fX7_combOut (M0 : zM) (t : Nat) : Option zM :=
  zj (fun (M1 : zM) =>
  some M1) fun E33_2 =>
  lX7_combOut_2 t E33_2 zFuel M0 (0 : Int32)
abbrev rX7_combOut : Room := { frames := 0, cells := 0, slots := 0, locals := 0 }
theorem arX7_combOut : zAr yX7_combOut RX7 0 := ⟨rfl, by decide, by decide, by decide +kernel⟩
set_option maxHeartbeats 4000000 in
theorem kX7_combOut (l : Launch) {w : zWd} (hw : zIsC w) {t : Nat} (ht : zT t) {M0 M' : zM} (h : fX7_combOut M0 t = some M') : Met l yX7_combOut (Cond.code yX7_combOut cX7_combOut 2 (none) :: zU) rX7_combOut (zPre w M0 [.ref (za w t)]) (zQ w (none) M') 0 0 (zA w) := by
  refine z_metN (own := RX7) (lv := [(0, .ref (za w t))]) hw.1 (by decide) (Nat.le_of_ble_eq_true rfl) rfl rfl ?_
  intro p e s m args below meth c G hr hlk hH ls hl
  unfold fX7_combOut at h
  refine lv_iconst (v := (0 : Int32)) G.x G.b dX7_combOut_0 (by decide) ?_
  refine lv_istore_n (lv' := [(1, .int (0 : Int32)), (0, .ref (za w t))]) G.x G.b dX7_combOut_1 rfl hl (Nat.le_of_ble_eq_true rfl) rfl (fun ls hl => ?_)
  obtain ⟨E33_2, hE33_2, h⟩ := z_j h
  have kE33_2 : ∀ (M1 : zM) (H : Heap) (locs : List Loc) (ls : Array Slot), E33_2 M1 = some M' → zH w s M1 H locs → lv_has ls 2 [] → zGo p l e rX7_combOut s m args below meth c (zQ w (none) M') (zA w) H locs (F0 m 33 ls []) := by
    intro M1 H locs ls h hH hl
    rw [hE33_2] at h
    exact z_retV G hr hlk hH h dX7_combOut_33
  have n5 : ∀ (n : Nat) (M3 : zM) (x4 : Int32) (H : Heap) (locs : List Loc) (ls : Array Slot), zL2 (bX7_combOut_2 t E33_2) n M3 x4 = some M' → zH w s M3 H locs → lv_has ls 2 [(0, .ref (za w t)), (1, .int x4)] → zGo p l e rX7_combOut s m args below meth c (zQ w (none) M') (zA w) H locs (F0 m 2 ls []) := by
    intro n
    induction n with
    | zero => intro M3 x4 H locs ls h; exact (zL2_0 h).elim
    | succ n ih5 =>
      intro M3 x4 H locs ls h hH hl
      obtain ⟨rc5, hrc5, h⟩ := zL2_s h
      rw [← hrc5] at ih5
      unfold bX7_combOut_2 at h
      refine lv_iload_n G.x G.b dX7_combOut_2 rfl (lv_at hl 1 rfl) ?_
      refine lv_aload_n G.x G.b dX7_combOut_3 rfl (lv_at hl 0 rfl) ?_
      refine z_get (v := .int (M3.1 t 2)) (k := t) G hH.1 (cCt hw ht) vc7 inU7 2 (by decide) u78 rfl dX7_combOut_4 ?_
      refine lv_icmp_ge (tgt := 33) G.x G.b dX7_combOut_7 (by decide) (fun c6 => ?_) (fun c6 => ?_)
      · have h := z_if c6 h
        exact kE33_2 M3 H locs ls h hH (lv_sub hl [] rfl)
      · have h := z_ifn c6 h
        refine lv_aload_n G.x G.b dX7_combOut_10 rfl (lv_at hl 0 rfl) ?_
        refine z_get (v := .ref (za w (t + 4))) (k := t) G hH.1 (cCt hw ht) vc7 inU7 7 (by decide) u92 rfl dX7_combOut_11 ?_
        refine lv_iload_n G.x G.b dX7_combOut_14 rfl (lv_at hl 1 rfl) ?_
        obtain ⟨j7, ej7, h⟩ := z_bind h
        refine z_iald (k := (t + 4)) G hH.1 (cCt4 hw ht) ej7 dX7_combOut_15 ?_
        refine lv_iconst (v := (-1 : Int32)) G.x G.b dX7_combOut_16 (by decide) ?_
        obtain ⟨J27_9, hJ27_9, h⟩ := z_j h
        have kJ27_9 : ∀ (M8 : zM) (H : Heap) (locs : List Loc) (ls : Array Slot), J27_9 M8 = some M' → zH w s M8 H locs → lv_has ls 2 [(0, .ref (za w t)), (1, .int x4)] → zGo p l e rX7_combOut s m args below meth c (zQ w (none) M') (zA w) H locs (F0 m 27 ls []) := by
          intro M8 H locs ls h hH hl
          rw [hJ27_9] at h
          obtain ⟨x10, ex10, h⟩ := z_let h
          refine lv_iinc (v := x10) (lv' := [(1, .int x10), (0, .ref (za w t))]) G.x G.b dX7_combOut_27 hl (k := 1) rfl (by rw [ex10]; rfl) (Nat.le_of_ble_eq_true rfl) rfl (fun ls hl => ?_)
          refine lv_goto (tgt := 2) G.x G.b dX7_combOut_30 (by decide) ?_
          exact ih5 M8 x10 H locs ls h hH (lv_sub hl [1, 0] rfl)
        refine lv_icmp_ne (tgt := 27) G.x G.b dX7_combOut_17 (by decide) (fun c11 => ?_) (fun c11 => ?_)
        · have h := z_ifn c11 h
          exact kJ27_9 M3 H locs ls h hH (lv_sub hl [0, 1] rfl)
        · have h := z_if c11 h
          refine lv_aload_n G.x G.b dX7_combOut_20 rfl (lv_at hl 0 rfl) ?_
          refine z_get (v := .ref (za w (t + 3))) (k := t) G hH.1 (cCt hw ht) vc7 inU7 6 (by decide) u89 rfl dX7_combOut_21 ?_
          refine lv_iload_n G.x G.b dX7_combOut_24 rfl (lv_at hl 1 rfl) ?_
          refine lv_iconst (v := (0 : Int32)) G.x G.b dX7_combOut_25 (by decide) ?_
          obtain ⟨j12, ej12, h⟩ := z_bind h
          obtain ⟨M13, eM13, h⟩ := z_let h
          refine z_iastN (k := (t + 3)) G hH (cCt3 hw ht) ej12 dX7_combOut_26 eM13 (fun H locs hH => ?_)
          exact kJ27_9 M13 H locs ls h hH (lv_sub hl [0, 1] rfl)
  exact n5 zFuel M0 (0 : Int32) s.heap [] ls h hH (lv_sub hl [1, 0] rfl)
def bX7_passNight_2 (t : Nat) (E37_2 : zM → Option zM) (rc10 : zM → Int32 → Option zM) (M8 : zM) (x9 : Int32) : Option zM :=
  if (M8.1 t 3) ≤ x9 then (E37_2 M8) else ((zix x9 6).bind fun j12 =>
  zj (fun (M13 : zM) =>
  (some (x9 + (1 : Int32))).bind fun x15 =>
  rc10 M13 x15) fun J31_14 =>
  if (M8.1 (t + 7) j12) = (-1 : Int32) then (J31_14 M8) else ((zix x9 6).bind fun j17 =>
  (fX7_spendNight M8 t x9 (M8.1 (t + 7) j17)).bind fun M18 =>
  J31_14 M18))
def lX7_passNight_2 (t : Nat) (E37_2 : zM → Option zM) : Nat → zM → Int32 → Option zM := zL2 (bX7_passNight_2 t E37_2)
def fX7_passNight (M0 : zM) (t : Nat) : Option zM :=
  zj (fun (M1 : zM) =>
  (fX7_isMonday M1 t).bind fun x3 =>
  if x3 = (0 : Int32) then ((some (zst M1 t 1 ((M1.1 t 1) + (1 : Int32)))).bind fun M5 =>
  some M5) else ((fX7_combOut M1 t).bind fun M6 =>
  (some (zst M6 t 1 ((M6.1 t 1) + (1 : Int32)))).bind fun M7 =>
  some M7)) fun E37_2 =>
  lX7_passNight_2 t E37_2 zFuel M0 (0 : Int32)
abbrev rX7_passNight : Room := { frames := 4, cells := 0, slots := 0, locals := 99 }
theorem arX7_passNight : zAr yX7_passNight RX7 0 := ⟨rfl, by decide, by decide, by decide +kernel⟩
set_option maxHeartbeats 4000000 in
theorem kX7_passNight (l : Launch) {w : zWd} (hw : zIsC w) {t : Nat} (ht : zT t) {M0 M' : zM} (h : fX7_passNight M0 t = some M') : Met l yX7_passNight (Cond.code yX7_passNight cX7_passNight 2 (none) :: zU) rX7_passNight (zPre w M0 [.ref (za w t)]) (zQ w (none) M') 0 0 (zA w) := by
  refine z_metN (own := RX7) (lv := [(0, .ref (za w t))]) hw.1 (by decide) (Nat.le_of_ble_eq_true rfl) rfl rfl ?_
  intro p e s m args below meth c G hr hlk hH ls hl
  unfold fX7_passNight at h
  refine lv_iconst (v := (0 : Int32)) G.x G.b dX7_passNight_0 (by decide) ?_
  refine lv_istore_n (lv' := [(1, .int (0 : Int32)), (0, .ref (za w t))]) G.x G.b dX7_passNight_1 rfl hl (Nat.le_of_ble_eq_true rfl) rfl (fun ls hl => ?_)
  obtain ⟨E37_2, hE37_2, h⟩ := z_j h
  have kE37_2 : ∀ (M1 : zM) (H : Heap) (locs : List Loc) (ls : Array Slot), E37_2 M1 = some M' → zH w s M1 H locs → lv_has ls 2 [(0, .ref (za w t))] → zGo p l e rX7_passNight s m args below meth c (zQ w (none) M') (zA w) H locs (F0 m 37 ls []) := by
    intro M1 H locs ls h hH hl
    rw [hE37_2] at h
    refine lv_aload_n G.x G.b dX7_passNight_37 rfl (lv_at hl 0 rfl) ?_
    obtain ⟨x3, ex3, h⟩ := z_bind h
    refine z_rdI (z_runV (k := t) (As := []) (rest := []) G hH hl.1 (kX7_isMonday l hw ht ex3) (cCt hw ht) vc7 arX7_isMonday u313 u252 u253 u8 u254 rfl rfl rfl (Nat.le_of_ble_eq_true rfl) (Nat.le_of_ble_eq_true rfl) rfl (Nat.le_of_ble_eq_true rfl) dX7_passNight_38) ?_
    refine lv_if_eq (tgt := 48) G.x G.b dX7_passNight_41 (by decide) (fun c4 => ?_) (fun c4 => ?_)
    · have h := z_if c4 h
      refine lv_aload_n G.x G.b dX7_passNight_48 rfl (lv_at hl 0 rfl) ?_
      refine lv_dup G.x G.b dX7_passNight_49 rfl ?_
      refine z_get (v := .int (M1.1 t 1)) (k := t) G hH.1 (cCt hw ht) vc7 inU7 1 (by decide) u76 rfl dX7_passNight_50 ?_
      refine lv_iconst (v := (1 : Int32)) G.x G.b dX7_passNight_53 (by decide) ?_
      refine lv_iadd G.x G.b dX7_passNight_54 ?_
      obtain ⟨M5, eM5, h⟩ := z_let h
      refine z_putN (k := t) G hH (cCt hw ht) vc7 inU7 tyX7 tyX7_ok nmX7 1 (by decide) u76 rfl (ty := .int) rfl rfl rfl cP7_1 (Nat.le_of_ble_eq_true rfl) dX7_passNight_55 eM5 (fun H locs hH => ?_)
      exact z_retV G hr hlk hH h dX7_passNight_58
    · have h := z_ifn c4 h
      refine lv_aload_n G.x G.b dX7_passNight_44 rfl (lv_at hl 0 rfl) ?_
      obtain ⟨M6, eM6, h⟩ := z_bind h
      refine z_aftV (z_runV (k := t) (As := []) (rest := []) G hH hl.1 (kX7_combOut l hw ht eM6) (cCt hw ht) vc7 arX7_combOut u476 u478 us4 u8 u479 rfl rfl rfl (Nat.le_of_ble_eq_true rfl) (Nat.le_of_ble_eq_true rfl) rfl (Nat.le_of_ble_eq_true rfl) dX7_passNight_45) hH (fun H locs hH => ?_)
      refine lv_aload_n G.x G.b dX7_passNight_48 rfl (lv_at hl 0 rfl) ?_
      refine lv_dup G.x G.b dX7_passNight_49 rfl ?_
      refine z_get (v := .int (M6.1 t 1)) (k := t) G hH.1 (cCt hw ht) vc7 inU7 1 (by decide) u76 rfl dX7_passNight_50 ?_
      refine lv_iconst (v := (1 : Int32)) G.x G.b dX7_passNight_53 (by decide) ?_
      refine lv_iadd G.x G.b dX7_passNight_54 ?_
      obtain ⟨M7, eM7, h⟩ := z_let h
      refine z_putN (k := t) G hH (cCt hw ht) vc7 inU7 tyX7 tyX7_ok nmX7 1 (by decide) u76 rfl (ty := .int) rfl rfl rfl cP7_1 (Nat.le_of_ble_eq_true rfl) dX7_passNight_55 eM7 (fun H locs hH => ?_)
      exact z_retV G hr hlk hH h dX7_passNight_58
  have n10 : ∀ (n : Nat) (M8 : zM) (x9 : Int32) (H : Heap) (locs : List Loc) (ls : Array Slot), zL2 (bX7_passNight_2 t E37_2) n M8 x9 = some M' → zH w s M8 H locs → lv_has ls 2 [(0, .ref (za w t)), (1, .int x9)] → zGo p l e rX7_passNight s m args below meth c (zQ w (none) M') (zA w) H locs (F0 m 2 ls []) := by
    intro n
    induction n with
    | zero => intro M8 x9 H locs ls h; exact (zL2_0 h).elim
    | succ n ih10 =>
      intro M8 x9 H locs ls h hH hl
      obtain ⟨rc10, hrc10, h⟩ := zL2_s h
      rw [← hrc10] at ih10
      unfold bX7_passNight_2 at h
      refine lv_iload_n G.x G.b dX7_passNight_2 rfl (lv_at hl 1 rfl) ?_
      refine lv_aload_n G.x G.b dX7_passNight_3 rfl (lv_at hl 0 rfl) ?_
      refine z_get (v := .int (M8.1 t 3)) (k := t) G hH.1 (cCt hw ht) vc7 inU7 3 (by decide) u81 rfl dX7_passNight_4 ?_
      refine lv_icmp_ge (tgt := 37) G.x G.b dX7_passNight_7 (by decide) (fun c11 => ?_) (fun c11 => ?_)
      · have h := z_if c11 h
        exact kE37_2 M8 H locs ls h hH (lv_sub hl [0] rfl)
      · have h := z_ifn c11 h
        refine lv_aload_n G.x G.b dX7_passNight_10 rfl (lv_at hl 0 rfl) ?_
        refine z_get (v := .ref (za w (t + 7))) (k := t) G hH.1 (cCt hw ht) vc7 inU7 10 (by decide) u101 rfl dX7_passNight_11 ?_
        refine lv_iload_n G.x G.b dX7_passNight_14 rfl (lv_at hl 1 rfl) ?_
        obtain ⟨j12, ej12, h⟩ := z_bind h
        refine z_iald (k := (t + 7)) G hH.1 (cCt7 hw ht) ej12 dX7_passNight_15 ?_
        refine lv_iconst (v := (-1 : Int32)) G.x G.b dX7_passNight_16 (by decide) ?_
        obtain ⟨J31_14, hJ31_14, h⟩ := z_j h
        have kJ31_14 : ∀ (M13 : zM) (H : Heap) (locs : List Loc) (ls : Array Slot), J31_14 M13 = some M' → zH w s M13 H locs → lv_has ls 2 [(0, .ref (za w t)), (1, .int x9)] → zGo p l e rX7_passNight s m args below meth c (zQ w (none) M') (zA w) H locs (F0 m 31 ls []) := by
          intro M13 H locs ls h hH hl
          rw [hJ31_14] at h
          obtain ⟨x15, ex15, h⟩ := z_let h
          refine lv_iinc (v := x15) (lv' := [(1, .int x15), (0, .ref (za w t))]) G.x G.b dX7_passNight_31 hl (k := 1) rfl (by rw [ex15]; rfl) (Nat.le_of_ble_eq_true rfl) rfl (fun ls hl => ?_)
          refine lv_goto (tgt := 2) G.x G.b dX7_passNight_34 (by decide) ?_
          exact ih10 M13 x15 H locs ls h hH (lv_sub hl [1, 0] rfl)
        refine lv_icmp_eq (tgt := 31) G.x G.b dX7_passNight_17 (by decide) (fun c16 => ?_) (fun c16 => ?_)
        · have h := z_if c16 h
          exact kJ31_14 M8 H locs ls h hH (lv_sub hl [0, 1] rfl)
        · have h := z_ifn c16 h
          refine lv_aload_n G.x G.b dX7_passNight_20 rfl (lv_at hl 0 rfl) ?_
          refine lv_iload_n G.x G.b dX7_passNight_21 rfl (lv_at hl 1 rfl) ?_
          refine lv_aload_n G.x G.b dX7_passNight_22 rfl (lv_at hl 0 rfl) ?_
          refine z_get (v := .ref (za w (t + 7))) (k := t) G hH.1 (cCt hw ht) vc7 inU7 10 (by decide) u101 rfl dX7_passNight_23 ?_
          refine lv_iload_n G.x G.b dX7_passNight_26 rfl (lv_at hl 1 rfl) ?_
          obtain ⟨j17, ej17, h⟩ := z_bind h
          refine z_iald (k := (t + 7)) G hH.1 (cCt7 hw ht) ej17 dX7_passNight_27 ?_
          obtain ⟨M18, eM18, h⟩ := z_bind h
          refine z_aftV (z_runV (k := t) (As := [.int x9, .int (M8.1 (t + 7) j17)]) (rest := []) G hH hl.1 (kX7_spendNight l hw ht eM18) (cCt hw ht) vc7 arX7_spendNight u462 u464 us3 u8 u465 rfl rfl rfl (Nat.le_of_ble_eq_true rfl) (Nat.le_of_ble_eq_true rfl) rfl (Nat.le_of_ble_eq_true rfl) dX7_passNight_28) hH (fun H locs hH => ?_)
          exact kJ31_14 M18 H locs ls h hH (lv_sub hl [0, 1] rfl)
  exact n10 zFuel M0 (0 : Int32) s.heap [] ls h hH (lv_sub hl [1, 0] rfl)
def bX7_passNights_2 (t : Nat) (a1 : Int32) (E17_2 : zM → Option zM) (rc5 : zM → Int32 → Option zM) (M3 : zM) (x4 : Int32) : Option zM :=
  if a1 ≤ x4 then (E17_2 M3) else ((fX7_passNight M3 t).bind fun M7 =>
  (some (x4 + (1 : Int32))).bind fun x8 =>
  rc5 M7 x8)
def lX7_passNights_2 (t : Nat) (a1 : Int32) (E17_2 : zM → Option zM) : Nat → zM → Int32 → Option zM := zL2 (bX7_passNights_2 t a1 E17_2)
def fX7_passNights (M0 : zM) (t : Nat) (a1 : Int32) : Option zM :=
  zj (fun (M1 : zM) =>
  some M1) fun E17_2 =>
  lX7_passNights_2 t a1 E17_2 zFuel M0 (0 : Int32)
abbrev rX7_passNights : Room := { frames := 5, cells := 0, slots := 0, locals := 120 }
theorem arX7_passNights : zAr yX7_passNights RX7 1 := ⟨rfl, by decide, by decide, by decide +kernel⟩
set_option maxHeartbeats 4000000 in
theorem kX7_passNights (l : Launch) {w : zWd} (hw : zIsC w) {t : Nat} (ht : zT t) {M0 M' : zM} {a1 : Int32} (h : fX7_passNights M0 t a1 = some M') : Met l yX7_passNights (Cond.code yX7_passNights cX7_passNights 3 (none) :: zU) rX7_passNights (zPre w M0 [.ref (za w t), .int a1]) (zQ w (none) M') 0 0 (zA w) := by
  refine z_metN (own := RX7) (lv := [(0, .ref (za w t)), (1, .int a1)]) hw.1 (by decide) (Nat.le_of_ble_eq_true rfl) rfl rfl ?_
  intro p e s m args below meth c G hr hlk hH ls hl
  unfold fX7_passNights at h
  refine lv_iconst (v := (0 : Int32)) G.x G.b dX7_passNights_0 (by decide) ?_
  refine lv_istore_n (lv' := [(2, .int (0 : Int32)), (0, .ref (za w t)), (1, .int a1)]) G.x G.b dX7_passNights_1 rfl hl (Nat.le_of_ble_eq_true rfl) rfl (fun ls hl => ?_)
  obtain ⟨E17_2, hE17_2, h⟩ := z_j h
  have kE17_2 : ∀ (M1 : zM) (H : Heap) (locs : List Loc) (ls : Array Slot), E17_2 M1 = some M' → zH w s M1 H locs → lv_has ls 3 [] → zGo p l e rX7_passNights s m args below meth c (zQ w (none) M') (zA w) H locs (F0 m 17 ls []) := by
    intro M1 H locs ls h hH hl
    rw [hE17_2] at h
    exact z_retV G hr hlk hH h dX7_passNights_17
  have n5 : ∀ (n : Nat) (M3 : zM) (x4 : Int32) (H : Heap) (locs : List Loc) (ls : Array Slot), zL2 (bX7_passNights_2 t a1 E17_2) n M3 x4 = some M' → zH w s M3 H locs → lv_has ls 3 [(0, .ref (za w t)), (1, .int a1), (2, .int x4)] → zGo p l e rX7_passNights s m args below meth c (zQ w (none) M') (zA w) H locs (F0 m 2 ls []) := by
    intro n
    induction n with
    | zero => intro M3 x4 H locs ls h; exact (zL2_0 h).elim
    | succ n ih5 =>
      intro M3 x4 H locs ls h hH hl
      obtain ⟨rc5, hrc5, h⟩ := zL2_s h
      rw [← hrc5] at ih5
      unfold bX7_passNights_2 at h
      refine lv_iload_n G.x G.b dX7_passNights_2 rfl (lv_at hl 2 rfl) ?_
      refine lv_iload_n G.x G.b dX7_passNights_3 rfl (lv_at hl 1 rfl) ?_
      refine lv_icmp_ge (tgt := 17) G.x G.b dX7_passNights_4 (by decide) (fun c6 => ?_) (fun c6 => ?_)
      · have h := z_if c6 h
        exact kE17_2 M3 H locs ls h hH (lv_sub hl [] rfl)
      · have h := z_ifn c6 h
        refine lv_aload_n G.x G.b dX7_passNights_7 rfl (lv_at hl 0 rfl) ?_
        obtain ⟨M7, eM7, h⟩ := z_bind h
        refine z_aftV (z_runV (k := t) (As := []) (rest := []) G hH hl.1 (kX7_passNight l hw ht eM7) (cCt hw ht) vc7 arX7_passNight u458 u459 u460 u8 u461 rfl rfl rfl (Nat.le_of_ble_eq_true rfl) (Nat.le_of_ble_eq_true rfl) rfl (Nat.le_of_ble_eq_true rfl) dX7_passNights_8) hH (fun H locs hH => ?_)
        obtain ⟨x8, ex8, h⟩ := z_let h
        refine lv_iinc (v := x8) (lv' := [(2, .int x8), (0, .ref (za w t)), (1, .int a1)]) G.x G.b dX7_passNights_11 hl (k := 2) rfl (by rw [ex8]; rfl) (Nat.le_of_ble_eq_true rfl) rfl (fun ls hl => ?_)
        refine lv_goto (tgt := 2) G.x G.b dX7_passNights_14 (by decide) ?_
        exact ih5 M7 x8 H locs ls h hH (lv_sub hl [1, 2, 0] rfl)
  exact n5 zFuel M0 (0 : Int32) s.heap [] ls h hH (lv_sub hl [1, 2, 0] rfl)
def bX7_passNightsOfWearer_2 (t : Nat) (a1 : Int32) (a2 : Int32) (E27_2 : zM → Option zM) (rc5 : zM → Int32 → Option zM) (M3 : zM) (x4 : Int32) : Option zM :=
  if a2 ≤ x4 then (E27_2 M3) else ((zix a1 6).bind fun j7 =>
  if (M3.1 (t + 7) j7) = (-1 : Int32) then (E27_2 M3) else ((fX7_passNight M3 t).bind fun M9 =>
  (some (x4 + (1 : Int32))).bind fun x10 =>
  rc5 M9 x10))
def lX7_passNightsOfWearer_2 (t : Nat) (a1 : Int32) (a2 : Int32) (E27_2 : zM → Option zM) : Nat → zM → Int32 → Option zM := zL2 (bX7_passNightsOfWearer_2 t a1 a2 E27_2)
def fX7_passNightsOfWearer (M0 : zM) (t : Nat) (a1 : Int32) (a2 : Int32) : Option zM :=
  zj (fun (M1 : zM) =>
  some M1) fun E27_2 =>
  lX7_passNightsOfWearer_2 t a1 a2 E27_2 zFuel M0 (0 : Int32)
abbrev rX7_passNightsOfWearer : Room := { frames := 5, cells := 0, slots := 0, locals := 120 }
theorem arX7_passNightsOfWearer : zAr yX7_passNightsOfWearer RX7 2 := ⟨rfl, by decide, by decide, by decide +kernel⟩
set_option maxHeartbeats 4000000 in
theorem kX7_passNightsOfWearer (l : Launch) {w : zWd} (hw : zIsC w) {t : Nat} (ht : zT t) {M0 M' : zM} {a1 : Int32} {a2 : Int32} (h : fX7_passNightsOfWearer M0 t a1 a2 = some M') : Met l yX7_passNightsOfWearer (Cond.code yX7_passNightsOfWearer cX7_passNightsOfWearer 4 (none) :: zU) rX7_passNightsOfWearer (zPre w M0 [.ref (za w t), .int a1, .int a2]) (zQ w (none) M') 0 0 (zA w) := by
  refine z_metN (own := RX7) (lv := [(0, .ref (za w t)), (1, .int a1), (2, .int a2)]) hw.1 (by decide) (Nat.le_of_ble_eq_true rfl) rfl rfl ?_
  intro p e s m args below meth c G hr hlk hH ls hl
  unfold fX7_passNightsOfWearer at h
  refine lv_iconst (v := (0 : Int32)) G.x G.b dX7_passNightsOfWearer_0 (by decide) ?_
  refine lv_istore_n (lv' := [(3, .int (0 : Int32)), (0, .ref (za w t)), (1, .int a1), (2, .int a2)]) G.x G.b dX7_passNightsOfWearer_1 rfl hl (Nat.le_of_ble_eq_true rfl) rfl (fun ls hl => ?_)
  obtain ⟨E27_2, hE27_2, h⟩ := z_j h
  have kE27_2 : ∀ (M1 : zM) (H : Heap) (locs : List Loc) (ls : Array Slot), E27_2 M1 = some M' → zH w s M1 H locs → lv_has ls 4 [] → zGo p l e rX7_passNightsOfWearer s m args below meth c (zQ w (none) M') (zA w) H locs (F0 m 27 ls []) := by
    intro M1 H locs ls h hH hl
    rw [hE27_2] at h
    exact z_retV G hr hlk hH h dX7_passNightsOfWearer_27
  have n5 : ∀ (n : Nat) (M3 : zM) (x4 : Int32) (H : Heap) (locs : List Loc) (ls : Array Slot), zL2 (bX7_passNightsOfWearer_2 t a1 a2 E27_2) n M3 x4 = some M' → zH w s M3 H locs → lv_has ls 4 [(0, .ref (za w t)), (1, .int a1), (2, .int a2), (3, .int x4)] → zGo p l e rX7_passNightsOfWearer s m args below meth c (zQ w (none) M') (zA w) H locs (F0 m 2 ls []) := by
    intro n
    induction n with
    | zero => intro M3 x4 H locs ls h; exact (zL2_0 h).elim
    | succ n ih5 =>
      intro M3 x4 H locs ls h hH hl
      obtain ⟨rc5, hrc5, h⟩ := zL2_s h
      rw [← hrc5] at ih5
      unfold bX7_passNightsOfWearer_2 at h
      refine lv_iload_n G.x G.b dX7_passNightsOfWearer_2 rfl (lv_at hl 3 rfl) ?_
      refine lv_iload_n G.x G.b dX7_passNightsOfWearer_3 rfl (lv_at hl 2 rfl) ?_
      refine lv_icmp_ge (tgt := 27) G.x G.b dX7_passNightsOfWearer_4 (by decide) (fun c6 => ?_) (fun c6 => ?_)
      · have h := z_if c6 h
        exact kE27_2 M3 H locs ls h hH (lv_sub hl [] rfl)
      · have h := z_ifn c6 h
        refine lv_aload_n G.x G.b dX7_passNightsOfWearer_7 rfl (lv_at hl 0 rfl) ?_
        refine z_get (v := .ref (za w (t + 7))) (k := t) G hH.1 (cCt hw ht) vc7 inU7 10 (by decide) u101 rfl dX7_passNightsOfWearer_8 ?_
        refine lv_iload_n G.x G.b dX7_passNightsOfWearer_11 rfl (lv_at hl 1 rfl) ?_
        obtain ⟨j7, ej7, h⟩ := z_bind h
        refine z_iald (k := (t + 7)) G hH.1 (cCt7 hw ht) ej7 dX7_passNightsOfWearer_12 ?_
        refine lv_iconst (v := (-1 : Int32)) G.x G.b dX7_passNightsOfWearer_13 (by decide) ?_
        refine lv_icmp_eq (tgt := 27) G.x G.b dX7_passNightsOfWearer_14 (by decide) (fun c8 => ?_) (fun c8 => ?_)
        · have h := z_if c8 h
          exact kE27_2 M3 H locs ls h hH (lv_sub hl [] rfl)
        · have h := z_ifn c8 h
          refine lv_aload_n G.x G.b dX7_passNightsOfWearer_17 rfl (lv_at hl 0 rfl) ?_
          obtain ⟨M9, eM9, h⟩ := z_bind h
          refine z_aftV (z_runV (k := t) (As := []) (rest := []) G hH hl.1 (kX7_passNight l hw ht eM9) (cCt hw ht) vc7 arX7_passNight u458 u459 u460 u8 u461 rfl rfl rfl (Nat.le_of_ble_eq_true rfl) (Nat.le_of_ble_eq_true rfl) rfl (Nat.le_of_ble_eq_true rfl) dX7_passNightsOfWearer_18) hH (fun H locs hH => ?_)
          obtain ⟨x10, ex10, h⟩ := z_let h
          refine lv_iinc (v := x10) (lv' := [(3, .int x10), (0, .ref (za w t)), (1, .int a1), (2, .int a2)]) G.x G.b dX7_passNightsOfWearer_21 hl (k := 3) rfl (by rw [ex10]; rfl) (Nat.le_of_ble_eq_true rfl) rfl (fun ls hl => ?_)
          refine lv_goto (tgt := 2) G.x G.b dX7_passNightsOfWearer_24 (by decide) ?_
          exact ih5 M9 x10 H locs ls h hH (lv_sub hl [1, 2, 3, 0] rfl)
  exact n5 zFuel M0 (0 : Int32) s.heap [] ls h hH (lv_sub hl [1, 2, 3, 0] rfl)
def bX7_guestsAt_4 (M0 : zM) (t : Nat) (a1 : Int32) (E33_2 : Int32 → Option Int32) (rc5 : Int32 → Int32 → Option Int32) (x3 : Int32) (x4 : Int32) : Option Int32 :=
  if (M0.1 t 3) ≤ x4 then (E33_2 x3) else ((fX7_houseTonight M0 t x4).bind fun x7 =>
  zj (fun (x8 : Int32) =>
  (some (x4 + (1 : Int32))).bind fun x10 =>
  rc5 x8 x10) fun J27_9 =>
  if x7 = a1 then ((some (x3 ||| ((1 : Int32) <<< (x4 &&& 31)))).bind fun x12 =>
  J27_9 x12) else (J27_9 x3))
def lX7_guestsAt_4 (M0 : zM) (t : Nat) (a1 : Int32) (E33_2 : Int32 → Option Int32) : Nat → Int32 → Int32 → Option Int32 := zL2 (bX7_guestsAt_4 M0 t a1 E33_2)
def fX7_guestsAt (M0 : zM) (t : Nat) (a1 : Int32) : Option Int32 :=
  zj (fun (x1 : Int32) =>
  some x1) fun E33_2 =>
  lX7_guestsAt_4 M0 t a1 E33_2 zFuel (0 : Int32) (0 : Int32)
abbrev rX7_guestsAt : Room := { frames := 1, cells := 0, slots := 0, locals := 21 }
theorem arX7_guestsAt : zAr yX7_guestsAt RX7 1 := ⟨rfl, by decide, by decide, by decide +kernel⟩
set_option maxHeartbeats 4000000 in
theorem kX7_guestsAt (l : Launch) {w : zWd} (hw : zIsC w) {t : Nat} (ht : zT t) {M0 : zM} {a1 : Int32} {r : Int32} (h : fX7_guestsAt M0 t a1 = some r) : Met l yX7_guestsAt (Cond.code yX7_guestsAt cX7_guestsAt 4 (some .int) :: zU) rX7_guestsAt (zPre w M0 [.ref (za w t), .int a1]) (zR (some (.int r))) 0 0 zNo := by
  refine z_metN (own := RX7) (lv := [(0, .ref (za w t)), (1, .int a1)]) hw.1 (by decide) (Nat.le_of_ble_eq_true rfl) rfl rfl ?_
  intro p e s m args below meth c G hr hlk hH ls hl
  unfold fX7_guestsAt at h
  refine lv_iconst (v := (0 : Int32)) G.x G.b dX7_guestsAt_0 (by decide) ?_
  refine lv_istore_n (lv' := [(2, .int (0 : Int32)), (0, .ref (za w t)), (1, .int a1)]) G.x G.b dX7_guestsAt_1 rfl hl (Nat.le_of_ble_eq_true rfl) rfl (fun ls hl => ?_)
  refine lv_iconst (v := (0 : Int32)) G.x G.b dX7_guestsAt_2 (by decide) ?_
  refine lv_istore_n (lv' := [(3, .int (0 : Int32)), (2, .int (0 : Int32)), (0, .ref (za w t)), (1, .int a1)]) G.x G.b dX7_guestsAt_3 rfl hl (Nat.le_of_ble_eq_true rfl) rfl (fun ls hl => ?_)
  obtain ⟨E33_2, hE33_2, h⟩ := z_j h
  have kE33_2 : ∀ (x1 : Int32) (ls : Array Slot), E33_2 x1 = some r → lv_has ls 4 [(2, .int x1)] → zGo p l e rX7_guestsAt s m args below meth c (zR (some (.int r))) zNo s.heap [] (F0 m 33 ls []) := by
    intro x1 ls h hl
    rw [hE33_2] at h
    refine lv_iload_n G.x G.b dX7_guestsAt_33 rfl (lv_at hl 0 rfl) ?_
    exact z_rtI G hr hlk h dX7_guestsAt_34
  have n5 : ∀ (n : Nat) (x3 : Int32) (x4 : Int32) (ls : Array Slot), zL2 (bX7_guestsAt_4 M0 t a1 E33_2) n x3 x4 = some r → lv_has ls 4 [(0, .ref (za w t)), (1, .int a1), (2, .int x3), (3, .int x4)] → zGo p l e rX7_guestsAt s m args below meth c (zR (some (.int r))) zNo s.heap [] (F0 m 4 ls []) := by
    intro n
    induction n with
    | zero => intro x3 x4 ls h; exact (zL2_0 h).elim
    | succ n ih5 =>
      intro x3 x4 ls h hl
      obtain ⟨rc5, hrc5, h⟩ := zL2_s h
      rw [← hrc5] at ih5
      unfold bX7_guestsAt_4 at h
      refine lv_iload_n G.x G.b dX7_guestsAt_4 rfl (lv_at hl 3 rfl) ?_
      refine lv_aload_n G.x G.b dX7_guestsAt_5 rfl (lv_at hl 0 rfl) ?_
      refine z_get (v := .int (M0.1 t 3)) (k := t) G hH.1 (cCt hw ht) vc7 inU7 3 (by decide) u81 rfl dX7_guestsAt_6 ?_
      refine lv_icmp_ge (tgt := 33) G.x G.b dX7_guestsAt_9 (by decide) (fun c6 => ?_) (fun c6 => ?_)
      · have h := z_if c6 h
        exact kE33_2 x3 ls h (lv_sub hl [2] rfl)
      · have h := z_ifn c6 h
        refine lv_aload_n G.x G.b dX7_guestsAt_12 rfl (lv_at hl 0 rfl) ?_
        refine lv_iload_n G.x G.b dX7_guestsAt_13 rfl (lv_at hl 3 rfl) ?_
        obtain ⟨x7, ex7, h⟩ := z_bind h
        refine z_rdI (z_runV (k := t) (As := [.int x4]) (rest := []) G hH hl.1 (kX7_houseTonight l hw ht ex7) (cCt hw ht) vc7 arX7_houseTonight u243 u244 u245 u8 u246 rfl rfl rfl (Nat.le_of_ble_eq_true rfl) (Nat.le_of_ble_eq_true rfl) rfl (Nat.le_of_ble_eq_true rfl) dX7_guestsAt_14) ?_
        refine lv_iload_n G.x G.b dX7_guestsAt_17 rfl (lv_at hl 1 rfl) ?_
        obtain ⟨J27_9, hJ27_9, h⟩ := z_j h
        have kJ27_9 : ∀ (x8 : Int32) (ls : Array Slot), J27_9 x8 = some r → lv_has ls 4 [(0, .ref (za w t)), (1, .int a1), (2, .int x8), (3, .int x4)] → zGo p l e rX7_guestsAt s m args below meth c (zR (some (.int r))) zNo s.heap [] (F0 m 27 ls []) := by
          intro x8 ls h hl
          rw [hJ27_9] at h
          obtain ⟨x10, ex10, h⟩ := z_let h
          refine lv_iinc (v := x10) (lv' := [(3, .int x10), (0, .ref (za w t)), (1, .int a1), (2, .int x8)]) G.x G.b dX7_guestsAt_27 hl (k := 3) rfl (by rw [ex10]; rfl) (Nat.le_of_ble_eq_true rfl) rfl (fun ls hl => ?_)
          refine lv_goto (tgt := 4) G.x G.b dX7_guestsAt_30 (by decide) ?_
          exact ih5 x8 x10 ls h (lv_sub hl [1, 2, 3, 0] rfl)
        refine lv_icmp_ne (tgt := 27) G.x G.b dX7_guestsAt_18 (by decide) (fun c11 => ?_) (fun c11 => ?_)
        · have h := z_ifn c11 h
          exact kJ27_9 x3 ls h (lv_sub hl [0, 1, 2, 3] rfl)
        · have h := z_if c11 h
          refine lv_iload_n G.x G.b dX7_guestsAt_21 rfl (lv_at hl 2 rfl) ?_
          refine lv_iconst (v := (1 : Int32)) G.x G.b dX7_guestsAt_22 (by decide) ?_
          refine lv_iload_n G.x G.b dX7_guestsAt_23 rfl (lv_at hl 3 rfl) ?_
          refine lv_ishl G.x G.b dX7_guestsAt_24 ?_
          refine lv_ior G.x G.b dX7_guestsAt_25 ?_
          obtain ⟨x12, ex12, h⟩ := z_let h
          refine z_nmI ex12 ?_
          refine lv_istore_n (lv' := [(2, .int x12), (0, .ref (za w t)), (1, .int a1), (3, .int x4)]) G.x G.b dX7_guestsAt_26 rfl hl (Nat.le_of_ble_eq_true rfl) rfl (fun ls hl => ?_)
          exact kJ27_9 x12 ls h (lv_sub hl [1, 2, 0, 3] rfl)
  exact n5 zFuel (0 : Int32) (0 : Int32) ls h (lv_sub hl [2, 3, 1, 0] rfl)
def bX7_beardsInShop_4 (M0 : zM) (t : Nat) (E34_2 : Int32 → Option Int32) (rc5 : Int32 → Int32 → Option Int32) (x3 : Int32) (x4 : Int32) : Option Int32 :=
  if (M0.1 t 2) ≤ x4 then (E34_2 x3) else ((zix x4 8).bind fun j7 =>
  zj (fun (x8 : Int32) =>
  (some (x4 + (1 : Int32))).bind fun x10 =>
  rc5 x8 x10) fun J28_9 =>
  if (M0.1 (t + 4) j7) = (-1 : Int32) then ((some (x3 ||| ((1 : Int32) <<< (x4 &&& 31)))).bind fun x12 =>
  J28_9 x12) else (J28_9 x3))
def lX7_beardsInShop_4 (M0 : zM) (t : Nat) (E34_2 : Int32 → Option Int32) : Nat → Int32 → Int32 → Option Int32 := zL2 (bX7_beardsInShop_4 M0 t E34_2)
def fX7_beardsInShop (M0 : zM) (t : Nat) : Option Int32 :=
  zj (fun (x1 : Int32) =>
  some x1) fun E34_2 =>
  lX7_beardsInShop_4 M0 t E34_2 zFuel (0 : Int32) (0 : Int32)
abbrev rX7_beardsInShop : Room := { frames := 0, cells := 0, slots := 0, locals := 0 }
theorem arX7_beardsInShop : zAr yX7_beardsInShop RX7 0 := ⟨rfl, by decide, by decide, by decide +kernel⟩
set_option maxHeartbeats 4000000 in
theorem kX7_beardsInShop (l : Launch) {w : zWd} (hw : zIsC w) {t : Nat} (ht : zT t) {M0 : zM} {r : Int32} (h : fX7_beardsInShop M0 t = some r) : Met l yX7_beardsInShop (Cond.code yX7_beardsInShop cX7_beardsInShop 3 (some .int) :: zU) rX7_beardsInShop (zPre w M0 [.ref (za w t)]) (zR (some (.int r))) 0 0 zNo := by
  refine z_metN (own := RX7) (lv := [(0, .ref (za w t))]) hw.1 (by decide) (Nat.le_of_ble_eq_true rfl) rfl rfl ?_
  intro p e s m args below meth c G hr hlk hH ls hl
  unfold fX7_beardsInShop at h
  refine lv_iconst (v := (0 : Int32)) G.x G.b dX7_beardsInShop_0 (by decide) ?_
  refine lv_istore_n (lv' := [(1, .int (0 : Int32)), (0, .ref (za w t))]) G.x G.b dX7_beardsInShop_1 rfl hl (Nat.le_of_ble_eq_true rfl) rfl (fun ls hl => ?_)
  refine lv_iconst (v := (0 : Int32)) G.x G.b dX7_beardsInShop_2 (by decide) ?_
  refine lv_istore_n (lv' := [(2, .int (0 : Int32)), (1, .int (0 : Int32)), (0, .ref (za w t))]) G.x G.b dX7_beardsInShop_3 rfl hl (Nat.le_of_ble_eq_true rfl) rfl (fun ls hl => ?_)
  obtain ⟨E34_2, hE34_2, h⟩ := z_j h
  have kE34_2 : ∀ (x1 : Int32) (ls : Array Slot), E34_2 x1 = some r → lv_has ls 3 [(1, .int x1)] → zGo p l e rX7_beardsInShop s m args below meth c (zR (some (.int r))) zNo s.heap [] (F0 m 34 ls []) := by
    intro x1 ls h hl
    rw [hE34_2] at h
    refine lv_iload_n G.x G.b dX7_beardsInShop_34 rfl (lv_at hl 0 rfl) ?_
    exact z_rtI G hr hlk h dX7_beardsInShop_35
  have n5 : ∀ (n : Nat) (x3 : Int32) (x4 : Int32) (ls : Array Slot), zL2 (bX7_beardsInShop_4 M0 t E34_2) n x3 x4 = some r → lv_has ls 3 [(0, .ref (za w t)), (1, .int x3), (2, .int x4)] → zGo p l e rX7_beardsInShop s m args below meth c (zR (some (.int r))) zNo s.heap [] (F0 m 4 ls []) := by
    intro n
    induction n with
    | zero => intro x3 x4 ls h; exact (zL2_0 h).elim
    | succ n ih5 =>
      intro x3 x4 ls h hl
      obtain ⟨rc5, hrc5, h⟩ := zL2_s h
      rw [← hrc5] at ih5
      unfold bX7_beardsInShop_4 at h
      refine lv_iload_n G.x G.b dX7_beardsInShop_4 rfl (lv_at hl 2 rfl) ?_
      refine lv_aload_n G.x G.b dX7_beardsInShop_5 rfl (lv_at hl 0 rfl) ?_
      refine z_get (v := .int (M0.1 t 2)) (k := t) G hH.1 (cCt hw ht) vc7 inU7 2 (by decide) u78 rfl dX7_beardsInShop_6 ?_
      refine lv_icmp_ge (tgt := 34) G.x G.b dX7_beardsInShop_9 (by decide) (fun c6 => ?_) (fun c6 => ?_)
      · have h := z_if c6 h
        exact kE34_2 x3 ls h (lv_sub hl [1] rfl)
      · have h := z_ifn c6 h
        refine lv_aload_n G.x G.b dX7_beardsInShop_12 rfl (lv_at hl 0 rfl) ?_
        refine z_get (v := .ref (za w (t + 4))) (k := t) G hH.1 (cCt hw ht) vc7 inU7 7 (by decide) u92 rfl dX7_beardsInShop_13 ?_
        refine lv_iload_n G.x G.b dX7_beardsInShop_16 rfl (lv_at hl 2 rfl) ?_
        obtain ⟨j7, ej7, h⟩ := z_bind h
        refine z_iald (k := (t + 4)) G hH.1 (cCt4 hw ht) ej7 dX7_beardsInShop_17 ?_
        refine lv_iconst (v := (-1 : Int32)) G.x G.b dX7_beardsInShop_18 (by decide) ?_
        obtain ⟨J28_9, hJ28_9, h⟩ := z_j h
        have kJ28_9 : ∀ (x8 : Int32) (ls : Array Slot), J28_9 x8 = some r → lv_has ls 3 [(0, .ref (za w t)), (1, .int x8), (2, .int x4)] → zGo p l e rX7_beardsInShop s m args below meth c (zR (some (.int r))) zNo s.heap [] (F0 m 28 ls []) := by
          intro x8 ls h hl
          rw [hJ28_9] at h
          obtain ⟨x10, ex10, h⟩ := z_let h
          refine lv_iinc (v := x10) (lv' := [(2, .int x10), (0, .ref (za w t)), (1, .int x8)]) G.x G.b dX7_beardsInShop_28 hl (k := 2) rfl (by rw [ex10]; rfl) (Nat.le_of_ble_eq_true rfl) rfl (fun ls hl => ?_)
          refine lv_goto (tgt := 4) G.x G.b dX7_beardsInShop_31 (by decide) ?_
          exact ih5 x8 x10 ls h (lv_sub hl [1, 2, 0] rfl)
        refine lv_icmp_ne (tgt := 28) G.x G.b dX7_beardsInShop_19 (by decide) (fun c11 => ?_) (fun c11 => ?_)
        · have h := z_ifn c11 h
          exact kJ28_9 x3 ls h (lv_sub hl [0, 1, 2] rfl)
        · have h := z_if c11 h
          refine lv_iload_n G.x G.b dX7_beardsInShop_22 rfl (lv_at hl 1 rfl) ?_
          refine lv_iconst (v := (1 : Int32)) G.x G.b dX7_beardsInShop_23 (by decide) ?_
          refine lv_iload_n G.x G.b dX7_beardsInShop_24 rfl (lv_at hl 2 rfl) ?_
          refine lv_ishl G.x G.b dX7_beardsInShop_25 ?_
          refine lv_ior G.x G.b dX7_beardsInShop_26 ?_
          obtain ⟨x12, ex12, h⟩ := z_let h
          refine z_nmI ex12 ?_
          refine lv_istore_n (lv' := [(1, .int x12), (0, .ref (za w t)), (2, .int x4)]) G.x G.b dX7_beardsInShop_27 rfl hl (Nat.le_of_ble_eq_true rfl) rfl (fun ls hl => ?_)
          exact kJ28_9 x12 ls h (lv_sub hl [1, 0, 2] rfl)
  exact n5 zFuel (0 : Int32) (0 : Int32) ls h (lv_sub hl [2, 1, 0] rfl)
def bX7_wearersInBeards_4 (M0 : zM) (t : Nat) (E34_2 : Int32 → Option Int32) (rc5 : Int32 → Int32 → Option Int32) (x3 : Int32) (x4 : Int32) : Option Int32 :=
  if (M0.1 t 3) ≤ x4 then (E34_2 x3) else ((zix x4 6).bind fun j7 =>
  zj (fun (x8 : Int32) =>
  (some (x4 + (1 : Int32))).bind fun x10 =>
  rc5 x8 x10) fun J28_9 =>
  if (M0.1 (t + 7) j7) = (-1 : Int32) then (J28_9 x3) else ((some (x3 ||| ((1 : Int32) <<< (x4 &&& 31)))).bind fun x12 =>
  J28_9 x12))
def lX7_wearersInBeards_4 (M0 : zM) (t : Nat) (E34_2 : Int32 → Option Int32) : Nat → Int32 → Int32 → Option Int32 := zL2 (bX7_wearersInBeards_4 M0 t E34_2)
def fX7_wearersInBeards (M0 : zM) (t : Nat) : Option Int32 :=
  zj (fun (x1 : Int32) =>
  some x1) fun E34_2 =>
  lX7_wearersInBeards_4 M0 t E34_2 zFuel (0 : Int32) (0 : Int32)
abbrev rX7_wearersInBeards : Room := { frames := 0, cells := 0, slots := 0, locals := 0 }
theorem arX7_wearersInBeards : zAr yX7_wearersInBeards RX7 0 := ⟨rfl, by decide, by decide, by decide +kernel⟩
set_option maxHeartbeats 4000000 in
theorem kX7_wearersInBeards (l : Launch) {w : zWd} (hw : zIsC w) {t : Nat} (ht : zT t) {M0 : zM} {r : Int32} (h : fX7_wearersInBeards M0 t = some r) : Met l yX7_wearersInBeards (Cond.code yX7_wearersInBeards cX7_wearersInBeards 3 (some .int) :: zU) rX7_wearersInBeards (zPre w M0 [.ref (za w t)]) (zR (some (.int r))) 0 0 zNo := by
  refine z_metN (own := RX7) (lv := [(0, .ref (za w t))]) hw.1 (by decide) (Nat.le_of_ble_eq_true rfl) rfl rfl ?_
  intro p e s m args below meth c G hr hlk hH ls hl
  unfold fX7_wearersInBeards at h
  refine lv_iconst (v := (0 : Int32)) G.x G.b dX7_wearersInBeards_0 (by decide) ?_
  refine lv_istore_n (lv' := [(1, .int (0 : Int32)), (0, .ref (za w t))]) G.x G.b dX7_wearersInBeards_1 rfl hl (Nat.le_of_ble_eq_true rfl) rfl (fun ls hl => ?_)
  refine lv_iconst (v := (0 : Int32)) G.x G.b dX7_wearersInBeards_2 (by decide) ?_
  refine lv_istore_n (lv' := [(2, .int (0 : Int32)), (1, .int (0 : Int32)), (0, .ref (za w t))]) G.x G.b dX7_wearersInBeards_3 rfl hl (Nat.le_of_ble_eq_true rfl) rfl (fun ls hl => ?_)
  obtain ⟨E34_2, hE34_2, h⟩ := z_j h
  have kE34_2 : ∀ (x1 : Int32) (ls : Array Slot), E34_2 x1 = some r → lv_has ls 3 [(1, .int x1)] → zGo p l e rX7_wearersInBeards s m args below meth c (zR (some (.int r))) zNo s.heap [] (F0 m 34 ls []) := by
    intro x1 ls h hl
    rw [hE34_2] at h
    refine lv_iload_n G.x G.b dX7_wearersInBeards_34 rfl (lv_at hl 0 rfl) ?_
    exact z_rtI G hr hlk h dX7_wearersInBeards_35
  have n5 : ∀ (n : Nat) (x3 : Int32) (x4 : Int32) (ls : Array Slot), zL2 (bX7_wearersInBeards_4 M0 t E34_2) n x3 x4 = some r → lv_has ls 3 [(0, .ref (za w t)), (1, .int x3), (2, .int x4)] → zGo p l e rX7_wearersInBeards s m args below meth c (zR (some (.int r))) zNo s.heap [] (F0 m 4 ls []) := by
    intro n
    induction n with
    | zero => intro x3 x4 ls h; exact (zL2_0 h).elim
    | succ n ih5 =>
      intro x3 x4 ls h hl
      obtain ⟨rc5, hrc5, h⟩ := zL2_s h
      rw [← hrc5] at ih5
      unfold bX7_wearersInBeards_4 at h
      refine lv_iload_n G.x G.b dX7_wearersInBeards_4 rfl (lv_at hl 2 rfl) ?_
      refine lv_aload_n G.x G.b dX7_wearersInBeards_5 rfl (lv_at hl 0 rfl) ?_
      refine z_get (v := .int (M0.1 t 3)) (k := t) G hH.1 (cCt hw ht) vc7 inU7 3 (by decide) u81 rfl dX7_wearersInBeards_6 ?_
      refine lv_icmp_ge (tgt := 34) G.x G.b dX7_wearersInBeards_9 (by decide) (fun c6 => ?_) (fun c6 => ?_)
      · have h := z_if c6 h
        exact kE34_2 x3 ls h (lv_sub hl [1] rfl)
      · have h := z_ifn c6 h
        refine lv_aload_n G.x G.b dX7_wearersInBeards_12 rfl (lv_at hl 0 rfl) ?_
        refine z_get (v := .ref (za w (t + 7))) (k := t) G hH.1 (cCt hw ht) vc7 inU7 10 (by decide) u101 rfl dX7_wearersInBeards_13 ?_
        refine lv_iload_n G.x G.b dX7_wearersInBeards_16 rfl (lv_at hl 2 rfl) ?_
        obtain ⟨j7, ej7, h⟩ := z_bind h
        refine z_iald (k := (t + 7)) G hH.1 (cCt7 hw ht) ej7 dX7_wearersInBeards_17 ?_
        refine lv_iconst (v := (-1 : Int32)) G.x G.b dX7_wearersInBeards_18 (by decide) ?_
        obtain ⟨J28_9, hJ28_9, h⟩ := z_j h
        have kJ28_9 : ∀ (x8 : Int32) (ls : Array Slot), J28_9 x8 = some r → lv_has ls 3 [(0, .ref (za w t)), (1, .int x8), (2, .int x4)] → zGo p l e rX7_wearersInBeards s m args below meth c (zR (some (.int r))) zNo s.heap [] (F0 m 28 ls []) := by
          intro x8 ls h hl
          rw [hJ28_9] at h
          obtain ⟨x10, ex10, h⟩ := z_let h
          refine lv_iinc (v := x10) (lv' := [(2, .int x10), (0, .ref (za w t)), (1, .int x8)]) G.x G.b dX7_wearersInBeards_28 hl (k := 2) rfl (by rw [ex10]; rfl) (Nat.le_of_ble_eq_true rfl) rfl (fun ls hl => ?_)
          refine lv_goto (tgt := 4) G.x G.b dX7_wearersInBeards_31 (by decide) ?_
          exact ih5 x8 x10 ls h (lv_sub hl [1, 2, 0] rfl)
        refine lv_icmp_eq (tgt := 28) G.x G.b dX7_wearersInBeards_19 (by decide) (fun c11 => ?_) (fun c11 => ?_)
        · have h := z_if c11 h
          exact kJ28_9 x3 ls h (lv_sub hl [0, 1, 2] rfl)
        · have h := z_ifn c11 h
          refine lv_iload_n G.x G.b dX7_wearersInBeards_22 rfl (lv_at hl 1 rfl) ?_
          refine lv_iconst (v := (1 : Int32)) G.x G.b dX7_wearersInBeards_23 (by decide) ?_
          refine lv_iload_n G.x G.b dX7_wearersInBeards_24 rfl (lv_at hl 2 rfl) ?_
          refine lv_ishl G.x G.b dX7_wearersInBeards_25 ?_
          refine lv_ior G.x G.b dX7_wearersInBeards_26 ?_
          obtain ⟨x12, ex12, h⟩ := z_let h
          refine z_nmI ex12 ?_
          refine lv_istore_n (lv' := [(1, .int x12), (0, .ref (za w t)), (2, .int x4)]) G.x G.b dX7_wearersInBeards_27 rfl hl (Nat.le_of_ble_eq_true rfl) rfl (fun ls hl => ?_)
          exact kJ28_9 x12 ls h (lv_sub hl [1, 0, 2] rfl)
  exact n5 zFuel (0 : Int32) (0 : Int32) ls h (lv_sub hl [2, 1, 0] rfl)
def bX7_allPurses_4 (M0 : zM) (t : Nat) (E27_2 : Int32 → Option Int32) (rc5 : Int32 → Int32 → Option Int32) (x3 : Int32) (x4 : Int32) : Option Int32 :=
  if (M0.1 t 3) ≤ x4 then (E27_2 x3) else ((zix x4 6).bind fun j7 =>
  (some (x3 + (M0.1 (t + 5) j7))).bind fun x8 =>
  (some (x4 + (1 : Int32))).bind fun x9 =>
  rc5 x8 x9)
def lX7_allPurses_4 (M0 : zM) (t : Nat) (E27_2 : Int32 → Option Int32) : Nat → Int32 → Int32 → Option Int32 := zL2 (bX7_allPurses_4 M0 t E27_2)
def fX7_allPurses (M0 : zM) (t : Nat) : Option Int32 :=
  zj (fun (x1 : Int32) =>
  some x1) fun E27_2 =>
  lX7_allPurses_4 M0 t E27_2 zFuel (0 : Int32) (0 : Int32)
abbrev rX7_allPurses : Room := { frames := 0, cells := 0, slots := 0, locals := 0 }
theorem arX7_allPurses : zAr yX7_allPurses RX7 0 := ⟨rfl, by decide, by decide, by decide +kernel⟩
set_option maxHeartbeats 4000000 in
theorem kX7_allPurses (l : Launch) {w : zWd} (hw : zIsC w) {t : Nat} (ht : zT t) {M0 : zM} {r : Int32} (h : fX7_allPurses M0 t = some r) : Met l yX7_allPurses (Cond.code yX7_allPurses cX7_allPurses 3 (some .int) :: zU) rX7_allPurses (zPre w M0 [.ref (za w t)]) (zR (some (.int r))) 0 0 zNo := by
  refine z_metN (own := RX7) (lv := [(0, .ref (za w t))]) hw.1 (by decide) (Nat.le_of_ble_eq_true rfl) rfl rfl ?_
  intro p e s m args below meth c G hr hlk hH ls hl
  unfold fX7_allPurses at h
  refine lv_iconst (v := (0 : Int32)) G.x G.b dX7_allPurses_0 (by decide) ?_
  refine lv_istore_n (lv' := [(1, .int (0 : Int32)), (0, .ref (za w t))]) G.x G.b dX7_allPurses_1 rfl hl (Nat.le_of_ble_eq_true rfl) rfl (fun ls hl => ?_)
  refine lv_iconst (v := (0 : Int32)) G.x G.b dX7_allPurses_2 (by decide) ?_
  refine lv_istore_n (lv' := [(2, .int (0 : Int32)), (1, .int (0 : Int32)), (0, .ref (za w t))]) G.x G.b dX7_allPurses_3 rfl hl (Nat.le_of_ble_eq_true rfl) rfl (fun ls hl => ?_)
  obtain ⟨E27_2, hE27_2, h⟩ := z_j h
  have kE27_2 : ∀ (x1 : Int32) (ls : Array Slot), E27_2 x1 = some r → lv_has ls 3 [(1, .int x1)] → zGo p l e rX7_allPurses s m args below meth c (zR (some (.int r))) zNo s.heap [] (F0 m 27 ls []) := by
    intro x1 ls h hl
    rw [hE27_2] at h
    refine lv_iload_n G.x G.b dX7_allPurses_27 rfl (lv_at hl 0 rfl) ?_
    exact z_rtI G hr hlk h dX7_allPurses_28
  have n5 : ∀ (n : Nat) (x3 : Int32) (x4 : Int32) (ls : Array Slot), zL2 (bX7_allPurses_4 M0 t E27_2) n x3 x4 = some r → lv_has ls 3 [(0, .ref (za w t)), (1, .int x3), (2, .int x4)] → zGo p l e rX7_allPurses s m args below meth c (zR (some (.int r))) zNo s.heap [] (F0 m 4 ls []) := by
    intro n
    induction n with
    | zero => intro x3 x4 ls h; exact (zL2_0 h).elim
    | succ n ih5 =>
      intro x3 x4 ls h hl
      obtain ⟨rc5, hrc5, h⟩ := zL2_s h
      rw [← hrc5] at ih5
      unfold bX7_allPurses_4 at h
      refine lv_iload_n G.x G.b dX7_allPurses_4 rfl (lv_at hl 2 rfl) ?_
      refine lv_aload_n G.x G.b dX7_allPurses_5 rfl (lv_at hl 0 rfl) ?_
      refine z_get (v := .int (M0.1 t 3)) (k := t) G hH.1 (cCt hw ht) vc7 inU7 3 (by decide) u81 rfl dX7_allPurses_6 ?_
      refine lv_icmp_ge (tgt := 27) G.x G.b dX7_allPurses_9 (by decide) (fun c6 => ?_) (fun c6 => ?_)
      · have h := z_if c6 h
        exact kE27_2 x3 ls h (lv_sub hl [1] rfl)
      · have h := z_ifn c6 h
        refine lv_iload_n G.x G.b dX7_allPurses_12 rfl (lv_at hl 1 rfl) ?_
        refine lv_aload_n G.x G.b dX7_allPurses_13 rfl (lv_at hl 0 rfl) ?_
        refine z_get (v := .ref (za w (t + 5))) (k := t) G hH.1 (cCt hw ht) vc7 inU7 8 (by decide) u95 rfl dX7_allPurses_14 ?_
        refine lv_iload_n G.x G.b dX7_allPurses_17 rfl (lv_at hl 2 rfl) ?_
        obtain ⟨j7, ej7, h⟩ := z_bind h
        refine z_iald (k := (t + 5)) G hH.1 (cCt5 hw ht) ej7 dX7_allPurses_18 ?_
        refine lv_iadd G.x G.b dX7_allPurses_19 ?_
        obtain ⟨x8, ex8, h⟩ := z_let h
        refine z_nmI ex8 ?_
        refine lv_istore_n (lv' := [(1, .int x8), (0, .ref (za w t)), (2, .int x4)]) G.x G.b dX7_allPurses_20 rfl hl (Nat.le_of_ble_eq_true rfl) rfl (fun ls hl => ?_)
        obtain ⟨x9, ex9, h⟩ := z_let h
        refine lv_iinc (v := x9) (lv' := [(2, .int x9), (1, .int x8), (0, .ref (za w t))]) G.x G.b dX7_allPurses_21 hl (k := 2) rfl (by rw [ex9]; rfl) (Nat.le_of_ble_eq_true rfl) rfl (fun ls hl => ?_)
        refine lv_goto (tgt := 4) G.x G.b dX7_allPurses_24 (by decide) ?_
        exact ih5 x8 x9 ls h (lv_sub hl [2, 1, 0] rfl)
  exact n5 zFuel (0 : Int32) (0 : Int32) ls h (lv_sub hl [2, 1, 0] rfl)
def bX7_allHoards_4 (M0 : zM) (t : Nat) (E27_2 : Int32 → Option Int32) (rc5 : Int32 → Int32 → Option Int32) (x3 : Int32) (x4 : Int32) : Option Int32 :=
  if (M0.1 t 2) ≤ x4 then (E27_2 x3) else ((zix x4 8).bind fun j7 =>
  (some (x3 + (M0.1 (t + 3) j7))).bind fun x8 =>
  (some (x4 + (1 : Int32))).bind fun x9 =>
  rc5 x8 x9)
def lX7_allHoards_4 (M0 : zM) (t : Nat) (E27_2 : Int32 → Option Int32) : Nat → Int32 → Int32 → Option Int32 := zL2 (bX7_allHoards_4 M0 t E27_2)
def fX7_allHoards (M0 : zM) (t : Nat) : Option Int32 :=
  zj (fun (x1 : Int32) =>
  some x1) fun E27_2 =>
  lX7_allHoards_4 M0 t E27_2 zFuel (0 : Int32) (0 : Int32)
abbrev rX7_allHoards : Room := { frames := 0, cells := 0, slots := 0, locals := 0 }
theorem arX7_allHoards : zAr yX7_allHoards RX7 0 := ⟨rfl, by decide, by decide, by decide +kernel⟩
set_option maxHeartbeats 4000000 in
theorem kX7_allHoards (l : Launch) {w : zWd} (hw : zIsC w) {t : Nat} (ht : zT t) {M0 : zM} {r : Int32} (h : fX7_allHoards M0 t = some r) : Met l yX7_allHoards (Cond.code yX7_allHoards cX7_allHoards 3 (some .int) :: zU) rX7_allHoards (zPre w M0 [.ref (za w t)]) (zR (some (.int r))) 0 0 zNo := by
  refine z_metN (own := RX7) (lv := [(0, .ref (za w t))]) hw.1 (by decide) (Nat.le_of_ble_eq_true rfl) rfl rfl ?_
  intro p e s m args below meth c G hr hlk hH ls hl
  unfold fX7_allHoards at h
  refine lv_iconst (v := (0 : Int32)) G.x G.b dX7_allHoards_0 (by decide) ?_
  refine lv_istore_n (lv' := [(1, .int (0 : Int32)), (0, .ref (za w t))]) G.x G.b dX7_allHoards_1 rfl hl (Nat.le_of_ble_eq_true rfl) rfl (fun ls hl => ?_)
  refine lv_iconst (v := (0 : Int32)) G.x G.b dX7_allHoards_2 (by decide) ?_
  refine lv_istore_n (lv' := [(2, .int (0 : Int32)), (1, .int (0 : Int32)), (0, .ref (za w t))]) G.x G.b dX7_allHoards_3 rfl hl (Nat.le_of_ble_eq_true rfl) rfl (fun ls hl => ?_)
  obtain ⟨E27_2, hE27_2, h⟩ := z_j h
  have kE27_2 : ∀ (x1 : Int32) (ls : Array Slot), E27_2 x1 = some r → lv_has ls 3 [(1, .int x1)] → zGo p l e rX7_allHoards s m args below meth c (zR (some (.int r))) zNo s.heap [] (F0 m 27 ls []) := by
    intro x1 ls h hl
    rw [hE27_2] at h
    refine lv_iload_n G.x G.b dX7_allHoards_27 rfl (lv_at hl 0 rfl) ?_
    exact z_rtI G hr hlk h dX7_allHoards_28
  have n5 : ∀ (n : Nat) (x3 : Int32) (x4 : Int32) (ls : Array Slot), zL2 (bX7_allHoards_4 M0 t E27_2) n x3 x4 = some r → lv_has ls 3 [(0, .ref (za w t)), (1, .int x3), (2, .int x4)] → zGo p l e rX7_allHoards s m args below meth c (zR (some (.int r))) zNo s.heap [] (F0 m 4 ls []) := by
    intro n
    induction n with
    | zero => intro x3 x4 ls h; exact (zL2_0 h).elim
    | succ n ih5 =>
      intro x3 x4 ls h hl
      obtain ⟨rc5, hrc5, h⟩ := zL2_s h
      rw [← hrc5] at ih5
      unfold bX7_allHoards_4 at h
      refine lv_iload_n G.x G.b dX7_allHoards_4 rfl (lv_at hl 2 rfl) ?_
      refine lv_aload_n G.x G.b dX7_allHoards_5 rfl (lv_at hl 0 rfl) ?_
      refine z_get (v := .int (M0.1 t 2)) (k := t) G hH.1 (cCt hw ht) vc7 inU7 2 (by decide) u78 rfl dX7_allHoards_6 ?_
      refine lv_icmp_ge (tgt := 27) G.x G.b dX7_allHoards_9 (by decide) (fun c6 => ?_) (fun c6 => ?_)
      · have h := z_if c6 h
        exact kE27_2 x3 ls h (lv_sub hl [1] rfl)
      · have h := z_ifn c6 h
        refine lv_iload_n G.x G.b dX7_allHoards_12 rfl (lv_at hl 1 rfl) ?_
        refine lv_aload_n G.x G.b dX7_allHoards_13 rfl (lv_at hl 0 rfl) ?_
        refine z_get (v := .ref (za w (t + 3))) (k := t) G hH.1 (cCt hw ht) vc7 inU7 6 (by decide) u89 rfl dX7_allHoards_14 ?_
        refine lv_iload_n G.x G.b dX7_allHoards_17 rfl (lv_at hl 2 rfl) ?_
        obtain ⟨j7, ej7, h⟩ := z_bind h
        refine z_iald (k := (t + 3)) G hH.1 (cCt3 hw ht) ej7 dX7_allHoards_18 ?_
        refine lv_iadd G.x G.b dX7_allHoards_19 ?_
        obtain ⟨x8, ex8, h⟩ := z_let h
        refine z_nmI ex8 ?_
        refine lv_istore_n (lv' := [(1, .int x8), (0, .ref (za w t)), (2, .int x4)]) G.x G.b dX7_allHoards_20 rfl hl (Nat.le_of_ble_eq_true rfl) rfl (fun ls hl => ?_)
        obtain ⟨x9, ex9, h⟩ := z_let h
        refine lv_iinc (v := x9) (lv' := [(2, .int x9), (1, .int x8), (0, .ref (za w t))]) G.x G.b dX7_allHoards_21 hl (k := 2) rfl (by rw [ex9]; rfl) (Nat.le_of_ble_eq_true rfl) rfl (fun ls hl => ?_)
        refine lv_goto (tgt := 4) G.x G.b dX7_allHoards_24 (by decide) ?_
        exact ih5 x8 x9 ls h (lv_sub hl [2, 1, 0] rfl)
  exact n5 zFuel (0 : Int32) (0 : Int32) ls h (lv_sub hl [2, 1, 0] rfl)
