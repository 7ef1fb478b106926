def fX6_append (M0 : zM) (a1 : Int32) : Option zM :=
  if (120 : Int32) ≤ (M0.1 31 2) then (some M0) else ((zix (M0.1 31 2) 120).bind fun j2 =>
  (some (zst M0 32 j2 a1)).bind fun M3 =>
  (some (zst M3 31 2 ((M3.1 31 2) + (1 : Int32)))).bind fun M4 =>
  some M4)
abbrev rX6_append : Room := { frames := 0, cells := 0, slots := 0, locals := 0 }
theorem arX6_append : zAr yX6_append RX6 1 := ⟨rfl, by decide, by decide, by decide +kernel⟩
set_option maxHeartbeats 4000000 in
theorem kX6_append (l : Launch) {w : zWd} (hw : zIsC w) {M0 M' : zM} {a1 : Int32} (h : fX6_append M0 a1 = some M') : Met l yX6_append (Cond.code yX6_append cX6_append 2 (none) :: zU) rX6_append (zPre w M0 [.ref (za w 31), .int a1]) (zQ w (none) M') 0 0 (zA w) := by
  refine z_metN (own := RX6) (lv := [(0, .ref (za w 31)), (1, .int a1)]) hw.1 (by decide) (Nat.le_of_ble_eq_true rfl) rfl rfl ?_
  intro p e s m args below meth c G hr hlk hH ls hl
  unfold fX6_append at h
  refine lv_aload_n G.x G.b dX6_append_0 rfl (lv_at hl 0 rfl) ?_
  refine z_get (v := .int (M0.1 31 2)) (k := 31) G hH.1 (cC31 hw) vc6 inU6 2 (by decide) u145 rfl dX6_append_1 ?_
  refine lv_bipush (v := (120 : Int32)) G.x G.b dX6_append_4 (by decide) ?_
  refine lv_icmp_ge (tgt := 29) G.x G.b dX6_append_6 (by decide) (fun c1 => ?_) (fun c1 => ?_)
  · have h := z_if c1 h
    exact z_retV G hr hlk hH h dX6_append_29
  · have h := z_ifn c1 h
    refine lv_aload_n G.x G.b dX6_append_9 rfl (lv_at hl 0 rfl) ?_
    refine z_get (v := .ref (za w 32)) (k := 31) G hH.1 (cC31 hw) vc6 inU6 1 (by decide) u144 rfl dX6_append_10 ?_
    refine lv_aload_n G.x G.b dX6_append_13 rfl (lv_at hl 0 rfl) ?_
    refine z_get (v := .int (M0.1 31 2)) (k := 31) G hH.1 (cC31 hw) vc6 inU6 2 (by decide) u145 rfl dX6_append_14 ?_
    refine lv_iload_n G.x G.b dX6_append_17 rfl (lv_at hl 1 rfl) ?_
    obtain ⟨j2, ej2, h⟩ := z_bind h
    obtain ⟨M3, eM3, h⟩ := z_let h
    refine z_iastN (k := 32) G hH (cC32 hw) ej2 dX6_append_18 eM3 (fun H locs hH => ?_)
    refine lv_aload_n G.x G.b dX6_append_19 rfl (lv_at hl 0 rfl) ?_
    refine lv_dup G.x G.b dX6_append_20 rfl ?_
    refine z_get (v := .int (M3.1 31 2)) (k := 31) G hH.1 (cC31 hw) vc6 inU6 2 (by decide) u145 rfl dX6_append_21 ?_
    refine lv_iconst (v := (1 : Int32)) G.x G.b dX6_append_24 (by decide) ?_
    refine lv_iadd G.x G.b dX6_append_25 ?_
    obtain ⟨M4, eM4, h⟩ := z_let h
    refine z_putN (k := 31) G hH (cC31 hw) vc6 inU6 tyX6 tyX6_ok nmX6 2 (by decide) u145 rfl (ty := .int) rfl rfl rfl cP6_2 (Nat.le_of_ble_eq_true rfl) dX6_append_26 eM4 (fun H locs hH => ?_)
    exact z_retV G hr hlk hH h dX6_append_29
def fX6_isLetter (a1 : Int32) : Option Int32 :=
  if a1 < (97 : Int32) then (zbl (0 : Int32)) else (if (122 : Int32) < a1 then (zbl (0 : Int32)) else (zbl (1 : Int32)))
abbrev rX6_isLetter : Room := { frames := 0, cells := 0, slots := 0, locals := 0 }
theorem arX6_isLetter : zAr yX6_isLetter RX6 1 := ⟨rfl, by decide, by decide, by decide +kernel⟩
set_option maxHeartbeats 4000000 in
theorem kX6_isLetter (l : Launch) {w : zWd} (ho : zOk w) {M0 : zM} {a1 : Int32} {r : Int32} (h : fX6_isLetter a1 = some r) : Met l yX6_isLetter (Cond.code yX6_isLetter cX6_isLetter 1 (some .boolean) :: zU) rX6_isLetter (zPre w M0 [.int a1]) (zR (some (.int r))) 0 0 zNo := by
  refine z_metN (own := RX6) (lv := [(0, .int a1)]) ho (by decide) (Nat.le_of_ble_eq_true rfl) rfl rfl ?_
  intro p e s m args below meth c G hr hlk hH ls hl
  unfold fX6_isLetter at h
  refine lv_iload_n G.x G.b dX6_isLetter_0 rfl (lv_at hl 0 rfl) ?_
  refine lv_bipush (v := (97 : Int32)) G.x G.b dX6_isLetter_1 (by decide) ?_
  refine lv_icmp_lt (tgt := 16) G.x G.b dX6_isLetter_3 (by decide) (fun c1 => ?_) (fun c1 => ?_)
  · have h := z_if c1 h
    refine lv_iconst (v := (0 : Int32)) G.x G.b dX6_isLetter_16 (by decide) ?_
    exact z_rtZ G hr hlk h dX6_isLetter_17
  · have h := z_ifn c1 h
    refine lv_iload_n G.x G.b dX6_isLetter_6 rfl (lv_at hl 0 rfl) ?_
    refine lv_bipush (v := (122 : Int32)) G.x G.b dX6_isLetter_7 (by decide) ?_
    refine lv_icmp_gt (tgt := 16) G.x G.b dX6_isLetter_9 (by decide) (fun c2 => ?_) (fun c2 => ?_)
    · have h := z_if c2 h
      refine lv_iconst (v := (0 : Int32)) G.x G.b dX6_isLetter_16 (by decide) ?_
      exact z_rtZ G hr hlk h dX6_isLetter_17
    · have h := z_ifn c2 h
      refine lv_iconst (v := (1 : Int32)) G.x G.b dX6_isLetter_12 (by decide) ?_
      refine lv_goto (tgt := 17) G.x G.b dX6_isLetter_13 (by decide) ?_
      exact z_rtZ G hr hlk h dX6_isLetter_17
def fX6_isDigit (a1 : Int32) : Option Int32 :=
  if a1 < (48 : Int32) then (zbl (0 : Int32)) else (if (57 : Int32) < a1 then (zbl (0 : Int32)) else (zbl (1 : Int32)))
abbrev rX6_isDigit : Room := { frames := 0, cells := 0, slots := 0, locals := 0 }
theorem arX6_isDigit : zAr yX6_isDigit RX6 1 := ⟨rfl, by decide, by decide, by decide +kernel⟩
set_option maxHeartbeats 4000000 in
theorem kX6_isDigit (l : Launch) {w : zWd} (ho : zOk w) {M0 : zM} {a1 : Int32} {r : Int32} (h : fX6_isDigit a1 = some r) : Met l yX6_isDigit (Cond.code yX6_isDigit cX6_isDigit 1 (some .boolean) :: zU) rX6_isDigit (zPre w M0 [.int a1]) (zR (some (.int r))) 0 0 zNo := by
  refine z_metN (own := RX6) (lv := [(0, .int a1)]) ho (by decide) (Nat.le_of_ble_eq_true rfl) rfl rfl ?_
  intro p e s m args below meth c G hr hlk hH ls hl
  unfold fX6_isDigit at h
  refine lv_iload_n G.x G.b dX6_isDigit_0 rfl (lv_at hl 0 rfl) ?_
  refine lv_bipush (v := (48 : Int32)) G.x G.b dX6_isDigit_1 (by decide) ?_
  refine lv_icmp_lt (tgt := 16) G.x G.b dX6_isDigit_3 (by decide) (fun c1 => ?_) (fun c1 => ?_)
  · have h := z_if c1 h
    refine lv_iconst (v := (0 : Int32)) G.x G.b dX6_isDigit_16 (by decide) ?_
    exact z_rtZ G hr hlk h dX6_isDigit_17
  · have h := z_ifn c1 h
    refine lv_iload_n G.x G.b dX6_isDigit_6 rfl (lv_at hl 0 rfl) ?_
    refine lv_bipush (v := (57 : Int32)) G.x G.b dX6_isDigit_7 (by decide) ?_
    refine lv_icmp_gt (tgt := 16) G.x G.b dX6_isDigit_9 (by decide) (fun c2 => ?_) (fun c2 => ?_)
    · have h := z_if c2 h
      refine lv_iconst (v := (0 : Int32)) G.x G.b dX6_isDigit_16 (by decide) ?_
      exact z_rtZ G hr hlk h dX6_isDigit_17
    · have h := z_ifn c2 h
      refine lv_iconst (v := (1 : Int32)) G.x G.b dX6_isDigit_12 (by decide) ?_
      refine lv_goto (tgt := 17) G.x G.b dX6_isDigit_13 (by decide) ?_
      exact z_rtZ G hr hlk h dX6_isDigit_17
def bX6_advance_157 (E259_21 : zM → Option zM) (rc23 : zM → Option zM) (M22 : zM) : Option zM :=
  if (M22.1 31 2) ≤ (M22.1 31 6) then (E259_21 M22) else ((zix (M22.1 31 6) 120).bind fun j25 =>
  (fX6_isDigit (M22.1 32 j25)).bind fun x26 =>
  if x26 = (0 : Int32) then (E259_21 M22) else ((zix (M22.1 31 6) 120).bind fun j28 =>
  (some (zst M22 31 7 (zmin (10000 : Int32) ((((M22.1 31 7) * (10 : Int32)) + (M22.1 32 j28)) - (48 : Int32))))).bind fun M29 =>
  (some (zst M29 31 6 ((M29.1 31 6) + (1 : Int32)))).bind fun M30 =>
  rc23 M30))
def lX6_advance_157 (E259_21 : zM → Option zM) : Nat → zM → Option zM := zL1 (bX6_advance_157 E259_21)
def bX6_advance_93 (E259_33 : zM → Option zM) (rc35 : zM → Option zM) (M34 : zM) : Option zM :=
  if (M34.1 31 2) ≤ (M34.1 31 6) then (E259_33 M34) else ((zix (M34.1 31 6) 120).bind fun j37 =>
  (fX6_isLetter (M34.1 32 j37)).bind fun x38 =>
  if x38 = (0 : Int32) then (E259_33 M34) else ((some (zst M34 31 6 ((M34.1 31 6) + (1 : Int32)))).bind fun M40 =>
  rc35 M40))
def lX6_advance_93 (E259_33 : zM → Option zM) : Nat → zM → Option zM := zL1 (bX6_advance_93 E259_33)
def bX6_advance_8 (E46_3 : zM → Option zM) (rc43 : zM → Option zM) (M42 : zM) : Option zM :=
  if (M42.1 31 2) ≤ (M42.1 31 5) then (E46_3 M42) else ((zix (M42.1 31 5) 120).bind fun j45 =>
  if (M42.1 32 j45) = (32 : Int32) then ((some (zst M42 31 5 ((M42.1 31 5) + (1 : Int32)))).bind fun M47 =>
  rc43 M47) else (E46_3 M42))
def lX6_advance_8 (E46_3 : zM → Option zM) : Nat → zM → Option zM := zL1 (bX6_advance_8 E46_3)
def fX6_advance (M0 : zM) : Option zM :=
  (some (zst M0 31 5 (M0.1 31 6))).bind fun M1 =>
  zj (fun (M2 : zM) =>
  (some (zst M2 31 6 (M2.1 31 5))).bind fun M4 =>
  if (M4.1 31 5) < (M4.1 31 2) then ((zix (M4.1 31 5) 120).bind fun j6 =>
  (fX6_isLetter (M4.1 32 j6)).bind fun x7 =>
  if x7 = (0 : Int32) then ((zix (M4.1 31 5) 120).bind fun j9 =>
  (fX6_isDigit (M4.1 32 j9)).bind fun x10 =>
  if x10 = (0 : Int32) then ((zix (M4.1 31 5) 120).bind fun j12 =>
  zj (fun (x13 : Int32) =>
  (some (zst M4 31 4 x13)).bind fun M15 =>
  (some (zst M15 31 6 ((M15.1 31 6) + (1 : Int32)))).bind fun M16 =>
  some M16) fun J246_14 =>
  if (M4.1 32 j12) = (59 : Int32) then (J246_14 (3 : Int32)) else (J246_14 (4 : Int32))) else ((some (zst M4 31 4 (2 : Int32))).bind fun M18 =>
  (some (zst M18 31 7 (0 : Int32))).bind fun M19 =>
  zj (fun (M20 : zM) =>
  some M20) fun E259_21 =>
  lX6_advance_157 E259_21 zFuel M19)) else ((some (zst M4 31 4 (1 : Int32))).bind fun M31 =>
  zj (fun (M32 : zM) =>
  some M32) fun E259_33 =>
  lX6_advance_93 E259_33 zFuel M31)) else ((some (zst M4 31 4 (0 : Int32))).bind fun M41 =>
  some M41)) fun E46_3 =>
  lX6_advance_8 E46_3 zFuel M1
abbrev rX6_advance : Room := { frames := 1, cells := 0, slots := 0, locals := 24 }
theorem arX6_advance : zAr yX6_advance RX6 0 := ⟨rfl, by decide, by decide, by decide +kernel⟩
set_option maxHeartbeats 4000000 in
theorem kX6_advance (l : Launch) {w : zWd} (hw : zIsC w) {M0 M' : zM} (h : fX6_advance M0 = some M') : Met l yX6_advance (Cond.code yX6_advance cX6_advance 1 (none) :: zU) rX6_advance (zPre w M0 [.ref (za w 31)]) (zQ w (none) M') 0 0 (zA w) := by
  refine z_metN (own := RX6) (lv := [(0, .ref (za w 31))]) hw.1 (by decide) (Nat.le_of_ble_eq_true rfl) rfl rfl ?_
  intro p e s m args below meth c G hr hlk hH ls hl
  unfold fX6_advance at h
  refine lv_aload_n G.x G.b dX6_advance_0 rfl (lv_at hl 0 rfl) ?_
  refine lv_aload_n G.x G.b dX6_advance_1 rfl (lv_at hl 0 rfl) ?_
  refine z_get (v := .int (M0.1 31 6)) (k := 31) G hH.1 (cC31 hw) vc6 inU6 6 (by decide) u150 rfl dX6_advance_2 ?_
  obtain ⟨M1, eM1, h⟩ := z_let h
  refine z_putN (k := 31) G hH (cC31 hw) vc6 inU6 tyX6 tyX6_ok nmX6 5 (by decide) u149 rfl (ty := .int) rfl rfl rfl cP6_5 (Nat.le_of_ble_eq_true rfl) dX6_advance_5 eM1 (fun H locs hH => ?_)
  obtain ⟨E46_3, hE46_3, h⟩ := z_j h
  have kE46_3 : ∀ (M2 : zM) (H : Heap) (locs : List Loc) (ls : Array Slot), E46_3 M2 = some M' → zH w s M2 H locs → lv_has ls 1 [(0, .ref (za w 31))] → zGo p l e rX6_advance s m args below meth c (zQ w (none) M') (zA w) H locs (F0 m 46 ls []) := by
    intro M2 H locs ls h hH hl
    rw [hE46_3] at h
    refine lv_aload_n G.x G.b dX6_advance_46 rfl (lv_at hl 0 rfl) ?_
    refine lv_aload_n G.x G.b dX6_advance_47 rfl (lv_at hl 0 rfl) ?_
    refine z_get (v := .int (M2.1 31 5)) (k := 31) G hH.1 (cC31 hw) vc6 inU6 5 (by decide) u149 rfl dX6_advance_48 ?_
    obtain ⟨M4, eM4, h⟩ := z_let h
    refine z_putN (k := 31) G hH (cC31 hw) vc6 inU6 tyX6 tyX6_ok nmX6 6 (by decide) u150 rfl (ty := .int) rfl rfl rfl cP6_6 (Nat.le_of_ble_eq_true rfl) dX6_advance_51 eM4 (fun H locs hH => ?_)
    refine lv_aload_n G.x G.b dX6_advance_54 rfl (lv_at hl 0 rfl) ?_
    refine z_get (v := .int (M4.1 31 5)) (k := 31) G hH.1 (cC31 hw) vc6 inU6 5 (by decide) u149 rfl dX6_advance_55 ?_
    refine lv_aload_n G.x G.b dX6_advance_58 rfl (lv_at hl 0 rfl) ?_
    refine z_get (v := .int (M4.1 31 2)) (k := 31) G hH.1 (cC31 hw) vc6 inU6 2 (by decide) u145 rfl dX6_advance_59 ?_
    refine lv_icmp_lt (tgt := 73) G.x G.b dX6_advance_62 (by decide) (fun c5 => ?_) (fun c5 => ?_)
    · have h := z_if c5 h
      refine lv_aload_n G.x G.b dX6_advance_73 rfl (lv_at hl 0 rfl) ?_
      refine z_get (v := .ref (za w 32)) (k := 31) G hH.1 (cC31 hw) vc6 inU6 1 (by decide) u144 rfl dX6_advance_74 ?_
      refine lv_aload_n G.x G.b dX6_advance_77 rfl (lv_at hl 0 rfl) ?_
      refine z_get (v := .int (M4.1 31 5)) (k := 31) G hH.1 (cC31 hw) vc6 inU6 5 (by decide) u149 rfl dX6_advance_78 ?_
      obtain ⟨j6, ej6, h⟩ := z_bind h
      refine z_iald (k := 32) G hH.1 (cC32 hw) ej6 dX6_advance_81 ?_
      obtain ⟨x7, ex7, h⟩ := z_bind h
      refine z_rdI (z_runS (As := [.int (M4.1 32 j6)]) (rest := []) G hH hl.1 (kX6_isLetter l hw.1 ex7) arX6_isLetter u560 u561 u9 u562 rfl rfl rfl (Nat.le_of_ble_eq_true rfl) (Nat.le_of_ble_eq_true rfl) rfl (Nat.le_of_ble_eq_true rfl) dX6_advance_82) ?_
      refine lv_if_eq (tgt := 132) G.x G.b dX6_advance_85 (by decide) (fun c8 => ?_) (fun c8 => ?_)
      · have h := z_if c8 h
        refine lv_aload_n G.x G.b dX6_advance_132 rfl (lv_at hl 0 rfl) ?_
        refine z_get (v := .ref (za w 32)) (k := 31) G hH.1 (cC31 hw) vc6 inU6 1 (by decide) u144 rfl dX6_advance_133 ?_
        refine lv_aload_n G.x G.b dX6_advance_136 rfl (lv_at hl 0 rfl) ?_
        refine z_get (v := .int (M4.1 31 5)) (k := 31) G hH.1 (cC31 hw) vc6 inU6 5 (by decide) u149 rfl dX6_advance_137 ?_
        obtain ⟨j9, ej9, h⟩ := z_bind h
        refine z_iald (k := 32) G hH.1 (cC32 hw) ej9 dX6_advance_140 ?_
        obtain ⟨x10, ex10, h⟩ := z_bind h
        refine z_rdI (z_runS (As := [.int (M4.1 32 j9)]) (rest := []) G hH hl.1 (kX6_isDigit l hw.1 ex10) arX6_isDigit u563 u564 u9 u565 rfl rfl rfl (Nat.le_of_ble_eq_true rfl) (Nat.le_of_ble_eq_true rfl) rfl (Nat.le_of_ble_eq_true rfl) dX6_advance_141) ?_
        refine lv_if_eq (tgt := 226) G.x G.b dX6_advance_144 (by decide) (fun c11 => ?_) (fun c11 => ?_)
        · have h := z_if c11 h
          refine lv_aload_n G.x G.b dX6_advance_226 rfl (lv_at hl 0 rfl) ?_
          refine lv_aload_n G.x G.b dX6_advance_227 rfl (lv_at hl 0 rfl) ?_
          refine z_get (v := .ref (za w 32)) (k := 31) G hH.1 (cC31 hw) vc6 inU6 1 (by decide) u144 rfl dX6_advance_228 ?_
          refine lv_aload_n G.x G.b dX6_advance_231 rfl (lv_at hl 0 rfl) ?_
          refine z_get (v := .int (M4.1 31 5)) (k := 31) G hH.1 (cC31 hw) vc6 inU6 5 (by decide) u149 rfl dX6_advance_232 ?_
          obtain ⟨j12, ej12, h⟩ := z_bind h
          refine z_iald (k := 32) G hH.1 (cC32 hw) ej12 dX6_advance_235 ?_
          refine lv_bipush (v := (59 : Int32)) G.x G.b dX6_advance_236 (by decide) ?_
          obtain ⟨J246_14, hJ246_14, h⟩ := z_j h
          have kJ246_14 : ∀ (x13 : Int32) (ls : Array Slot), J246_14 x13 = some M' → lv_has ls 1 [(0, .ref (za w 31))] → zGo p l e rX6_advance s m args below meth c (zQ w (none) M') (zA w) H locs (F0 m 246 ls [.int x13, .ref (za w 31)]) := by
            intro x13 ls h hl
            rw [hJ246_14] at h
            obtain ⟨M15, eM15, h⟩ := z_let h
            refine z_putN (k := 31) G hH (cC31 hw) vc6 inU6 tyX6 tyX6_ok nmX6 4 (by decide) u148 rfl (ty := .int) rfl rfl rfl cP6_4 (Nat.le_of_ble_eq_true rfl) dX6_advance_246 eM15 (fun H locs hH => ?_)
            refine lv_aload_n G.x G.b dX6_advance_249 rfl (lv_at hl 0 rfl) ?_
            refine lv_dup G.x G.b dX6_advance_250 rfl ?_
            refine z_get (v := .int (M15.1 31 6)) (k := 31) G hH.1 (cC31 hw) vc6 inU6 6 (by decide) u150 rfl dX6_advance_251 ?_
            refine lv_iconst (v := (1 : Int32)) G.x G.b dX6_advance_254 (by decide) ?_
            refine lv_iadd G.x G.b dX6_advance_255 ?_
            obtain ⟨M16, eM16, h⟩ := z_let h
            refine z_putN (k := 31) G hH (cC31 hw) vc6 inU6 tyX6 tyX6_ok nmX6 6 (by decide) u150 rfl (ty := .int) rfl rfl rfl cP6_6 (Nat.le_of_ble_eq_true rfl) dX6_advance_256 eM16 (fun H locs hH => ?_)
            exact z_retV G hr hlk hH h dX6_advance_259
          refine lv_icmp_ne (tgt := 245) G.x G.b dX6_advance_238 (by decide) (fun c17 => ?_) (fun c17 => ?_)
          · have h := z_ifn c17 h
            refine lv_iconst (v := (4 : Int32)) G.x G.b dX6_advance_245 (by decide) ?_
            exact kJ246_14 (4 : Int32) ls h (lv_sub hl [0] rfl)
          · have h := z_if c17 h
            refine lv_iconst (v := (3 : Int32)) G.x G.b dX6_advance_241 (by decide) ?_
            refine lv_goto (tgt := 246) G.x G.b dX6_advance_242 (by decide) ?_
            exact kJ246_14 (3 : Int32) ls h (lv_sub hl [0] rfl)
        · have h := z_ifn c11 h
          refine lv_aload_n G.x G.b dX6_advance_147 rfl (lv_at hl 0 rfl) ?_
          refine lv_iconst (v := (2 : Int32)) G.x G.b dX6_advance_148 (by decide) ?_
          obtain ⟨M18, eM18, h⟩ := z_let h
          refine z_putN (k := 31) G hH (cC31 hw) vc6 inU6 tyX6 tyX6_ok nmX6 4 (by decide) u148 rfl (ty := .int) rfl rfl rfl cP6_4 (Nat.le_of_ble_eq_true rfl) dX6_advance_149 eM18 (fun H locs hH => ?_)
          refine lv_aload_n G.x G.b dX6_advance_152 rfl (lv_at hl 0 rfl) ?_
          refine lv_iconst (v := (0 : Int32)) G.x G.b dX6_advance_153 (by decide) ?_
          obtain ⟨M19, eM19, h⟩ := z_let h
          refine z_putN (k := 31) G hH (cC31 hw) vc6 inU6 tyX6 tyX6_ok nmX6 7 (by decide) u151 rfl (ty := .int) rfl rfl rfl cP6_7 (Nat.le_of_ble_eq_true rfl) dX6_advance_154 eM19 (fun H locs hH => ?_)
          obtain ⟨E259_21, hE259_21, h⟩ := z_j h
          have kE259_21 : ∀ (M20 : zM) (H : Heap) (locs : List Loc) (ls : Array Slot), E259_21 M20 = some M' → zH w s M20 H locs → lv_has ls 1 [] → zGo p l e rX6_advance s m args below meth c (zQ w (none) M') (zA w) H locs (F0 m 259 ls []) := by
            intro M20 H locs ls h hH hl
            rw [hE259_21] at h
            exact z_retV G hr hlk hH h dX6_advance_259
          have n23 : ∀ (n : Nat) (M22 : zM) (H : Heap) (locs : List Loc) (ls : Array Slot), zL1 (bX6_advance_157 E259_21) n M22 = some M' → zH w s M22 H locs → lv_has ls 1 [(0, .ref (za w 31))] → zGo p l e rX6_advance s m args below meth c (zQ w (none) M') (zA w) H locs (F0 m 157 ls []) := by
            intro n
            induction n with
            | zero => intro M22 H locs ls h; exact (zL1_0 h).elim
            | succ n ih23 =>
              intro M22 H locs ls h hH hl
              obtain ⟨rc23, hrc23, h⟩ := zL1_s h
              rw [← hrc23] at ih23
              unfold bX6_advance_157 at h
              refine lv_aload_n G.x G.b dX6_advance_157 rfl (lv_at hl 0 rfl) ?_
              refine z_get (v := .int (M22.1 31 6)) (k := 31) G hH.1 (cC31 hw) vc6 inU6 6 (by decide) u150 rfl dX6_advance_158 ?_
              refine lv_aload_n G.x G.b dX6_advance_161 rfl (lv_at hl 0 rfl) ?_
              refine z_get (v := .int (M22.1 31 2)) (k := 31) G hH.1 (cC31 hw) vc6 inU6 2 (by decide) u145 rfl dX6_advance_162 ?_
              refine lv_icmp_ge (tgt := 259) G.x G.b dX6_advance_165 (by decide) (fun c24 => ?_) (fun c24 => ?_)
              · have h := z_if c24 h
                exact kE259_21 M22 H locs ls h hH (lv_sub hl [] rfl)
              · have h := z_ifn c24 h
                refine lv_aload_n G.x G.b dX6_advance_168 rfl (lv_at hl 0 rfl) ?_
                refine z_get (v := .ref (za w 32)) (k := 31) G hH.1 (cC31 hw) vc6 inU6 1 (by decide) u144 rfl dX6_advance_169 ?_
                refine lv_aload_n G.x G.b dX6_advance_172 rfl (lv_at hl 0 rfl) ?_
                refine z_get (v := .int (M22.1 31 6)) (k := 31) G hH.1 (cC31 hw) vc6 inU6 6 (by decide) u150 rfl dX6_advance_173 ?_
                obtain ⟨j25, ej25, h⟩ := z_bind h
                refine z_iald (k := 32) G hH.1 (cC32 hw) ej25 dX6_advance_176 ?_
                obtain ⟨x26, ex26, h⟩ := z_bind h
                refine z_rdI (z_runS (As := [.int (M22.1 32 j25)]) (rest := []) G hH hl.1 (kX6_isDigit l hw.1 ex26) arX6_isDigit u563 u564 u9 u565 rfl rfl rfl (Nat.le_of_ble_eq_true rfl) (Nat.le_of_ble_eq_true rfl) rfl (Nat.le_of_ble_eq_true rfl) dX6_advance_177) ?_
                refine lv_if_eq (tgt := 259) G.x G.b dX6_advance_180 (by decide) (fun c27 => ?_) (fun c27 => ?_)
                · have h := z_if c27 h
                  exact kE259_21 M22 H locs ls h hH (lv_sub hl [] rfl)
                · have h := z_ifn c27 h
                  refine lv_aload_n G.x G.b dX6_advance_183 rfl (lv_at hl 0 rfl) ?_
                  refine lv_sipush (v := (10000 : Int32)) G.x G.b dX6_advance_184 (by decide) ?_
                  refine lv_aload_n G.x G.b dX6_advance_187 rfl (lv_at hl 0 rfl) ?_
                  refine z_get (v := .int (M22.1 31 7)) (k := 31) G hH.1 (cC31 hw) vc6 inU6 7 (by decide) u151 rfl dX6_advance_188 ?_
                  refine lv_bipush (v := (10 : Int32)) G.x G.b dX6_advance_191 (by decide) ?_
                  refine lv_imul G.x G.b dX6_advance_193 ?_
                  refine lv_aload_n G.x G.b dX6_advance_194 rfl (lv_at hl 0 rfl) ?_
                  refine z_get (v := .ref (za w 32)) (k := 31) G hH.1 (cC31 hw) vc6 inU6 1 (by decide) u144 rfl dX6_advance_195 ?_
                  refine lv_aload_n G.x G.b dX6_advance_198 rfl (lv_at hl 0 rfl) ?_
                  refine z_get (v := .int (M22.1 31 6)) (k := 31) G hH.1 (cC31 hw) vc6 inU6 6 (by decide) u150 rfl dX6_advance_199 ?_
                  obtain ⟨j28, ej28, h⟩ := z_bind h
                  refine z_iald (k := 32) G hH.1 (cC32 hw) ej28 dX6_advance_202 ?_
                  refine lv_iadd G.x G.b dX6_advance_203 ?_
                  refine lv_bipush (v := (48 : Int32)) G.x G.b dX6_advance_204 (by decide) ?_
                  refine lv_isub G.x G.b dX6_advance_206 ?_
                  refine z_mmin G hl.1 u566 u471 u12 u472 (Nat.le_of_ble_eq_true rfl) (Nat.le_of_ble_eq_true rfl) dX6_advance_207 ?_
                  obtain ⟨M29, eM29, h⟩ := z_let h
                  refine z_putN (k := 31) G hH (cC31 hw) vc6 inU6 tyX6 tyX6_ok nmX6 7 (by decide) u151 rfl (ty := .int) rfl rfl rfl cP6_7 (Nat.le_of_ble_eq_true rfl) dX6_advance_210 eM29 (fun H locs hH => ?_)
                  refine lv_aload_n G.x G.b dX6_advance_213 rfl (lv_at hl 0 rfl) ?_
                  refine lv_dup G.x G.b dX6_advance_214 rfl ?_
                  refine z_get (v := .int (M29.1 31 6)) (k := 31) G hH.1 (cC31 hw) vc6 inU6 6 (by decide) u150 rfl dX6_advance_215 ?_
                  refine lv_iconst (v := (1 : Int32)) G.x G.b dX6_advance_218 (by decide) ?_
                  refine lv_iadd G.x G.b dX6_advance_219 ?_
                  obtain ⟨M30, eM30, h⟩ := z_let h
                  refine z_putN (k := 31) G hH (cC31 hw) vc6 inU6 tyX6 tyX6_ok nmX6 6 (by decide) u150 rfl (ty := .int) rfl rfl rfl cP6_6 (Nat.le_of_ble_eq_true rfl) dX6_advance_220 eM30 (fun H locs hH => ?_)
                  refine lv_goto (tgt := 157) G.x G.b dX6_advance_223 (by decide) ?_
                  exact ih23 M30 H locs ls h hH (lv_sub hl [0] rfl)
          exact n23 zFuel M19 H locs ls h hH (lv_sub hl [0] rfl)
      · have h := z_ifn c8 h
        refine lv_aload_n G.x G.b dX6_advance_88 rfl (lv_at hl 0 rfl) ?_
        refine lv_iconst (v := (1 : Int32)) G.x G.b dX6_advance_89 (by decide) ?_
        obtain ⟨M31, eM31, h⟩ := z_let h
        refine z_putN (k := 31) G hH (cC31 hw) vc6 inU6 tyX6 tyX6_ok nmX6 4 (by decide) u148 rfl (ty := .int) rfl rfl rfl cP6_4 (Nat.le_of_ble_eq_true rfl) dX6_advance_90 eM31 (fun H locs hH => ?_)
        obtain ⟨E259_33, hE259_33, h⟩ := z_j h
        have kE259_33 : ∀ (M32 : zM) (H : Heap) (locs : List Loc) (ls : Array Slot), E259_33 M32 = some M' → zH w s M32 H locs → lv_has ls 1 [] → zGo p l e rX6_advance s m args below meth c (zQ w (none) M') (zA w) H locs (F0 m 259 ls []) := by
          intro M32 H locs ls h hH hl
          rw [hE259_33] at h
          exact z_retV G hr hlk hH h dX6_advance_259
        have n35 : ∀ (n : Nat) (M34 : zM) (H : Heap) (locs : List Loc) (ls : Array Slot), zL1 (bX6_advance_93 E259_33) n M34 = some M' → zH w s M34 H locs → lv_has ls 1 [(0, .ref (za w 31))] → zGo p l e rX6_advance s m args below meth c (zQ w (none) M') (zA w) H locs (F0 m 93 ls []) := by
          intro n
          induction n with
          | zero => intro M34 H locs ls h; exact (zL1_0 h).elim
          | succ n ih35 =>
            intro M34 H locs ls h hH hl
            obtain ⟨rc35, hrc35, h⟩ := zL1_s h
            rw [← hrc35] at ih35
            unfold bX6_advance_93 at h
            refine lv_aload_n G.x G.b dX6_advance_93 rfl (lv_at hl 0 rfl) ?_
            refine z_get (v := .int (M34.1 31 6)) (k := 31) G hH.1 (cC31 hw) vc6 inU6 6 (by decide) u150 rfl dX6_advance_94 ?_
            refine lv_aload_n G.x G.b dX6_advance_97 rfl (lv_at hl 0 rfl) ?_
            refine z_get (v := .int (M34.1 31 2)) (k := 31) G hH.1 (cC31 hw) vc6 inU6 2 (by decide) u145 rfl dX6_advance_98 ?_
            refine lv_icmp_ge (tgt := 259) G.x G.b dX6_advance_101 (by decide) (fun c36 => ?_) (fun c36 => ?_)
            · have h := z_if c36 h
              exact kE259_33 M34 H locs ls h hH (lv_sub hl [] rfl)
            · have h := z_ifn c36 h
              refine lv_aload_n G.x G.b dX6_advance_104 rfl (lv_at hl 0 rfl) ?_
              refine z_get (v := .ref (za w 32)) (k := 31) G hH.1 (cC31 hw) vc6 inU6 1 (by decide) u144 rfl dX6_advance_105 ?_
              refine lv_aload_n G.x G.b dX6_advance_108 rfl (lv_at hl 0 rfl) ?_
              refine z_get (v := .int (M34.1 31 6)) (k := 31) G hH.1 (cC31 hw) vc6 inU6 6 (by decide) u150 rfl dX6_advance_109 ?_
              obtain ⟨j37, ej37, h⟩ := z_bind h
              refine z_iald (k := 32) G hH.1 (cC32 hw) ej37 dX6_advance_112 ?_
              obtain ⟨x38, ex38, h⟩ := z_bind h
              refine z_rdI (z_runS (As := [.int (M34.1 32 j37)]) (rest := []) G hH hl.1 (kX6_isLetter l hw.1 ex38) arX6_isLetter u560 u561 u9 u562 rfl rfl rfl (Nat.le_of_ble_eq_true rfl) (Nat.le_of_ble_eq_true rfl) rfl (Nat.le_of_ble_eq_true rfl) dX6_advance_113) ?_
              refine lv_if_eq (tgt := 259) G.x G.b dX6_advance_116 (by decide) (fun c39 => ?_) (fun c39 => ?_)
              · have h := z_if c39 h
                exact kE259_33 M34 H locs ls h hH (lv_sub hl [] rfl)
              · have h := z_ifn c39 h
                refine lv_aload_n G.x G.b dX6_advance_119 rfl (lv_at hl 0 rfl) ?_
                refine lv_dup G.x G.b dX6_advance_120 rfl ?_
                refine z_get (v := .int (M34.1 31 6)) (k := 31) G hH.1 (cC31 hw) vc6 inU6 6 (by decide) u150 rfl dX6_advance_121 ?_
                refine lv_iconst (v := (1 : Int32)) G.x G.b dX6_advance_124 (by decide) ?_
                refine lv_iadd G.x G.b dX6_advance_125 ?_
                obtain ⟨M40, eM40, h⟩ := z_let h
                refine z_putN (k := 31) G hH (cC31 hw) vc6 inU6 tyX6 tyX6_ok nmX6 6 (by decide) u150 rfl (ty := .int) rfl rfl rfl cP6_6 (Nat.le_of_ble_eq_true rfl) dX6_advance_126 eM40 (fun H locs hH => ?_)
                refine lv_goto (tgt := 93) G.x G.b dX6_advance_129 (by decide) ?_
                exact ih35 M40 H locs ls h hH (lv_sub hl [0] rfl)
        exact n35 zFuel M31 H locs ls h hH (lv_sub hl [0] rfl)
    · have h := z_ifn c5 h
      refine lv_aload_n G.x G.b dX6_advance_65 rfl (lv_at hl 0 rfl) ?_
      refine lv_iconst (v := (0 : Int32)) G.x G.b dX6_advance_66 (by decide) ?_
      obtain ⟨M41, eM41, h⟩ := z_let h
      refine z_putN (k := 31) G hH (cC31 hw) vc6 inU6 tyX6 tyX6_ok nmX6 4 (by decide) u148 rfl (ty := .int) rfl rfl rfl cP6_4 (Nat.le_of_ble_eq_true rfl) dX6_advance_67 eM41 (fun H locs hH => ?_)
      refine lv_goto (tgt := 259) G.x G.b dX6_advance_70 (by decide) ?_
      exact z_retV G hr hlk hH h dX6_advance_259
  have n43 : ∀ (n : Nat) (M42 : zM) (H : Heap) (locs : List Loc) (ls : Array Slot), zL1 (bX6_advance_8 E46_3) n M42 = some M' → zH w s M42 H locs → lv_has ls 1 [(0, .ref (za w 31))] → zGo p l e rX6_advance s m args below meth c (zQ w (none) M') (zA w) H locs (F0 m 8 ls []) := by
    intro n
    induction n with
    | zero => intro M42 H locs ls h; exact (zL1_0 h).elim
    | succ n ih43 =>
      intro M42 H locs ls h hH hl
      obtain ⟨rc43, hrc43, h⟩ := zL1_s h
      rw [← hrc43] at ih43
      unfold bX6_advance_8 at h
      refine lv_aload_n G.x G.b dX6_advance_8 rfl (lv_at hl 0 rfl) ?_
      refine z_get (v := .int (M42.1 31 5)) (k := 31) G hH.1 (cC31 hw) vc6 inU6 5 (by decide) u149 rfl dX6_advance_9 ?_
      refine lv_aload_n G.x G.b dX6_advance_12 rfl (lv_at hl 0 rfl) ?_
      refine z_get (v := .int (M42.1 31 2)) (k := 31) G hH.1 (cC31 hw) vc6 inU6 2 (by decide) u145 rfl dX6_advance_13 ?_
      refine lv_icmp_ge (tgt := 46) G.x G.b dX6_advance_16 (by decide) (fun c44 => ?_) (fun c44 => ?_)
      · have h := z_if c44 h
        exact kE46_3 M42 H locs ls h hH (lv_sub hl [0] rfl)
      · have h := z_ifn c44 h
        refine lv_aload_n G.x G.b dX6_advance_19 rfl (lv_at hl 0 rfl) ?_
        refine z_get (v := .ref (za w 32)) (k := 31) G hH.1 (cC31 hw) vc6 inU6 1 (by decide) u144 rfl dX6_advance_20 ?_
        refine lv_aload_n G.x G.b dX6_advance_23 rfl (lv_at hl 0 rfl) ?_
        refine z_get (v := .int (M42.1 31 5)) (k := 31) G hH.1 (cC31 hw) vc6 inU6 5 (by decide) u149 rfl dX6_advance_24 ?_
        obtain ⟨j45, ej45, h⟩ := z_bind h
        refine z_iald (k := 32) G hH.1 (cC32 hw) ej45 dX6_advance_27 ?_
        refine lv_bipush (v := (32 : Int32)) G.x G.b dX6_advance_28 (by decide) ?_
        refine lv_icmp_ne (tgt := 46) G.x G.b dX6_advance_30 (by decide) (fun c46 => ?_) (fun c46 => ?_)
        · have h := z_ifn c46 h
          exact kE46_3 M42 H locs ls h hH (lv_sub hl [0] rfl)
        · have h := z_if c46 h
          refine lv_aload_n G.x G.b dX6_advance_33 rfl (lv_at hl 0 rfl) ?_
          refine lv_dup G.x G.b dX6_advance_34 rfl ?_
          refine z_get (v := .int (M42.1 31 5)) (k := 31) G hH.1 (cC31 hw) vc6 inU6 5 (by decide) u149 rfl dX6_advance_35 ?_
          refine lv_iconst (v := (1 : Int32)) G.x G.b dX6_advance_38 (by decide) ?_
          refine lv_iadd G.x G.b dX6_advance_39 ?_
          obtain ⟨M47, eM47, h⟩ := z_let h
          refine z_putN (k := 31) G hH (cC31 hw) vc6 inU6 tyX6 tyX6_ok nmX6 5 (by decide) u149 rfl (ty := .int) rfl rfl rfl cP6_5 (Nat.le_of_ble_eq_true rfl) dX6_advance_40 eM47 (fun H locs hH => ?_)
          refine lv_goto (tgt := 8) G.x G.b dX6_advance_43 (by decide) ?_
          exact ih43 M47 H locs ls h hH (lv_sub hl [0] rfl)
  exact n43 zFuel M1 H locs ls h hH (lv_sub hl [0] rfl)
def bX6_isWord_28 (M0 : zM) (i : Nat) (E63_3 : Option Int32) (rc5 : Int32 → Option Int32) (x4 : Int32) : Option Int32 :=
  if (zSl i) ≤ x4 then (E63_3) else ((zix ((M0.1 31 5) + x4) 120).bind fun j7 =>
  (zix x4 (zLen.getD i 0)).bind fun j8 =>
  if (M0.1 32 j7) = (zSc i j8) then ((some (x4 + (1 : Int32))).bind fun x10 =>
  rc5 x10) else (zbl (0 : Int32)))
def lX6_isWord_28 (M0 : zM) (i : Nat) (E63_3 : Option Int32) : Nat → Int32 → Option Int32 := zL1 (bX6_isWord_28 M0 i E63_3)
def fX6_isWord (M0 : zM) (i : Nat) : Option Int32 :=
  if (M0.1 31 4) = (1 : Int32) then (if ((M0.1 31 6) - (M0.1 31 5)) = (zSl i) then (zj (zbl (1 : Int32)) fun E63_3 =>
  lX6_isWord_28 M0 i E63_3 zFuel (0 : Int32)) else (zbl (0 : Int32))) else (zbl (0 : Int32))
abbrev rX6_isWord : Room := { frames := 4, cells := 0, slots := 0, locals := 85 }
theorem arX6_isWord : zAr yX6_isWord RX6 1 := ⟨rfl, by decide, by decide, by decide +kernel⟩
set_option maxHeartbeats 4000000 in
theorem kX6_isWord (l : Launch) {w : zWd} (hw : zIsC w) {i : Nat} (hi : i < 14) {M0 : zM} {r : Int32} (h : fX6_isWord M0 i = some r) : Met l yX6_isWord (Cond.code yX6_isWord cX6_isWord 3 (some .boolean) :: zU) rX6_isWord (zPre w M0 [.ref (za w 31), .ref (za w (100 + i))]) (zR (some (.int r))) 0 0 zNo := by
  refine z_metN (own := RX6) (lv := [(0, .ref (za w 31)), (1, .ref (za w (100 + i)))]) hw.1 (by decide) (Nat.le_of_ble_eq_true rfl) rfl rfl ?_
  intro p e s m args below meth c G hr hlk hH ls hl
  unfold fX6_isWord at h
  refine lv_aload_n G.x G.b dX6_isWord_0 rfl (lv_at hl 0 rfl) ?_
  refine z_get (v := .int (M0.1 31 4)) (k := 31) G hH.1 (cC31 hw) vc6 inU6 4 (by decide) u148 rfl dX6_isWord_1 ?_
  refine lv_iconst (v := (1 : Int32)) G.x G.b dX6_isWord_4 (by decide) ?_
  refine lv_icmp_ne (tgt := 24) G.x G.b dX6_isWord_5 (by decide) (fun c1 => ?_) (fun c1 => ?_)
  · have h := z_ifn c1 h
    refine lv_iconst (v := (0 : Int32)) G.x G.b dX6_isWord_24 (by decide) ?_
    exact z_rtZ G hr hlk h dX6_isWord_25
  · have h := z_if c1 h
    refine lv_aload_n G.x G.b dX6_isWord_8 rfl (lv_at hl 0 rfl) ?_
    refine z_get (v := .int (M0.1 31 6)) (k := 31) G hH.1 (cC31 hw) vc6 inU6 6 (by decide) u150 rfl dX6_isWord_9 ?_
    refine lv_aload_n G.x G.b dX6_isWord_12 rfl (lv_at hl 0 rfl) ?_
    refine z_get (v := .int (M0.1 31 5)) (k := 31) G hH.1 (cC31 hw) vc6 inU6 5 (by decide) u149 rfl dX6_isWord_13 ?_
    refine lv_isub G.x G.b dX6_isWord_16 ?_
    refine lv_aload_n G.x G.b dX6_isWord_17 rfl (lv_at hl 1 rfl) ?_
    refine z_rdI (q_slen (rest := [.int ((M0.1 31 6) - (M0.1 31 5))]) G hH hl.1 hw hi u601 (Nat.le_of_ble_eq_true rfl) (Nat.le_of_ble_eq_true rfl) (Nat.le_of_ble_eq_true rfl) dX6_isWord_18) ?_
    refine lv_icmp_eq (tgt := 26) G.x G.b dX6_isWord_21 (by decide) (fun c2 => ?_) (fun c2 => ?_)
    · have h := z_if c2 h
      refine lv_iconst (v := (0 : Int32)) G.x G.b dX6_isWord_26 (by decide) ?_
      refine lv_istore_n (lv' := [(2, .int (0 : Int32)), (0, .ref (za w 31)), (1, .ref (za w (100 + i)))]) G.x G.b dX6_isWord_27 rfl hl (Nat.le_of_ble_eq_true rfl) rfl (fun ls hl => ?_)
      obtain ⟨E63_3, hE63_3, h⟩ := z_j h
      have kE63_3 : ∀ (ls : Array Slot), E63_3 = some r → lv_has ls 3 [] → zGo p l e rX6_isWord s m args below meth c (zR (some (.int r))) zNo s.heap [] (F0 m 63 ls []) := by
        intro ls h hl
        rw [hE63_3] at h
        refine lv_iconst (v := (1 : Int32)) G.x G.b dX6_isWord_63 (by decide) ?_
        exact z_rtZ G hr hlk h dX6_isWord_64
      have n5 : ∀ (n : Nat) (x4 : Int32) (ls : Array Slot), zL1 (bX6_isWord_28 M0 i E63_3) n x4 = some r → lv_has ls 3 [(0, .ref (za w 31)), (1, .ref (za w (100 + i))), (2, .int x4)] → zGo p l e rX6_isWord s m args below meth c (zR (some (.int r))) zNo s.heap [] (F0 m 28 ls []) := by
        intro n
        induction n with
        | zero => intro x4 ls h; exact (zL1_0 h).elim
        | succ n ih5 =>
          intro x4 ls h hl
          obtain ⟨rc5, hrc5, h⟩ := zL1_s h
          rw [← hrc5] at ih5
          unfold bX6_isWord_28 at h
          refine lv_iload_n G.x G.b dX6_isWord_28 rfl (lv_at hl 2 rfl) ?_
          refine lv_aload_n G.x G.b dX6_isWord_29 rfl (lv_at hl 1 rfl) ?_
          refine z_rdI (q_slen (rest := [.int x4]) G hH hl.1 hw hi u601 (Nat.le_of_ble_eq_true rfl) (Nat.le_of_ble_eq_true rfl) (Nat.le_of_ble_eq_true rfl) dX6_isWord_30) ?_
          refine lv_icmp_ge (tgt := 63) G.x G.b dX6_isWord_33 (by decide) (fun c6 => ?_) (fun c6 => ?_)
          · have h := z_if c6 h
            exact kE63_3 ls h (lv_sub hl [] rfl)
          · have h := z_ifn c6 h
            refine lv_aload_n G.x G.b dX6_isWord_36 rfl (lv_at hl 0 rfl) ?_
            refine z_get (v := .ref (za w 32)) (k := 31) G hH.1 (cC31 hw) vc6 inU6 1 (by decide) u144 rfl dX6_isWord_37 ?_
            refine lv_aload_n G.x G.b dX6_isWord_40 rfl (lv_at hl 0 rfl) ?_
            refine z_get (v := .int (M0.1 31 5)) (k := 31) G hH.1 (cC31 hw) vc6 inU6 5 (by decide) u149 rfl dX6_isWord_41 ?_
            refine lv_iload_n G.x G.b dX6_isWord_44 rfl (lv_at hl 2 rfl) ?_
            refine lv_iadd G.x G.b dX6_isWord_45 ?_
            obtain ⟨j7, ej7, h⟩ := z_bind h
            refine z_iald (k := 32) G hH.1 (cC32 hw) ej7 dX6_isWord_46 ?_
            refine lv_aload_n G.x G.b dX6_isWord_47 rfl (lv_at hl 1 rfl) ?_
            refine lv_iload_n G.x G.b dX6_isWord_48 rfl (lv_at hl 2 rfl) ?_
            obtain ⟨j8, ej8, h⟩ := z_bind h
            refine z_rdI (q_schar (rest := [.int (M0.1 32 j7)]) G hH hl.1 hw hi ej8 u611 (Nat.le_of_ble_eq_true rfl) (Nat.le_of_ble_eq_true rfl) (Nat.le_of_ble_eq_true rfl) dX6_isWord_49) ?_
            refine lv_icmp_eq (tgt := 57) G.x G.b dX6_isWord_52 (by decide) (fun c9 => ?_) (fun c9 => ?_)
            · have h := z_if c9 h
              obtain ⟨x10, ex10, h⟩ := z_let h
              refine lv_iinc (v := x10) (lv' := [(2, .int x10), (0, .ref (za w 31)), (1, .ref (za w (100 + i)))]) G.x G.b dX6_isWord_57 hl (k := 2) rfl (by rw [ex10]; rfl) (Nat.le_of_ble_eq_true rfl) rfl (fun ls hl => ?_)
              refine lv_goto (tgt := 28) G.x G.b dX6_isWord_60 (by decide) ?_
              exact ih5 x10 ls h (lv_sub hl [1, 2, 0] rfl)
            · have h := z_ifn c9 h
              refine lv_iconst (v := (0 : Int32)) G.x G.b dX6_isWord_55 (by decide) ?_
              exact z_rtZ G hr hlk h dX6_isWord_56
      exact n5 zFuel (0 : Int32) ls h (lv_sub hl [1, 2, 0] rfl)
    · have h := z_ifn c2 h
      refine lv_iconst (v := (0 : Int32)) G.x G.b dX6_isWord_24 (by decide) ?_
      exact z_rtZ G hr hlk h dX6_isWord_25
def fX6_isNumber (M0 : zM) (a1 : Int32) : Option Int32 :=
  if (M0.1 31 4) = (2 : Int32) then (if a1 < (M0.1 31 7) then (zbl (0 : Int32)) else (zbl (1 : Int32))) else (zbl (0 : Int32))
abbrev rX6_isNumber : Room := { frames := 0, cells := 0, slots := 0, locals := 0 }
theorem arX6_isNumber : zAr yX6_isNumber RX6 1 := ⟨rfl, by decide, by decide, by decide +kernel⟩
set_option maxHeartbeats 4000000 in
theorem kX6_isNumber (l : Launch) {w : zWd} (hw : zIsC w) {M0 : zM} {a1 : Int32} {r : Int32} (h : fX6_isNumber M0 a1 = some r) : Met l yX6_isNumber (Cond.code yX6_isNumber cX6_isNumber 2 (some .boolean) :: zU) rX6_isNumber (zPre w M0 [.ref (za w 31), .int a1]) (zR (some (.int r))) 0 0 zNo := by
  refine z_metN (own := RX6) (lv := [(0, .ref (za w 31)), (1, .int a1)]) hw.1 (by decide) (Nat.le_of_ble_eq_true rfl) rfl rfl ?_
  intro p e s m args below meth c G hr hlk hH ls hl
  unfold fX6_isNumber at h
  refine lv_aload_n G.x G.b dX6_isNumber_0 rfl (lv_at hl 0 rfl) ?_
  refine z_get (v := .int (M0.1 31 4)) (k := 31) G hH.1 (cC31 hw) vc6 inU6 4 (by decide) u148 rfl dX6_isNumber_1 ?_
  refine lv_iconst (v := (2 : Int32)) G.x G.b dX6_isNumber_4 (by decide) ?_
  refine lv_icmp_ne (tgt := 20) G.x G.b dX6_isNumber_5 (by decide) (fun c1 => ?_) (fun c1 => ?_)
  · have h := z_ifn c1 h
    refine lv_iconst (v := (0 : Int32)) G.x G.b dX6_isNumber_20 (by decide) ?_
    exact z_rtZ G hr hlk h dX6_isNumber_21
  · have h := z_if c1 h
    refine lv_aload_n G.x G.b dX6_isNumber_8 rfl (lv_at hl 0 rfl) ?_
    refine z_get (v := .int (M0.1 31 7)) (k := 31) G hH.1 (cC31 hw) vc6 inU6 7 (by decide) u151 rfl dX6_isNumber_9 ?_
    refine lv_iload_n G.x G.b dX6_isNumber_12 rfl (lv_at hl 1 rfl) ?_
    refine lv_icmp_gt (tgt := 20) G.x G.b dX6_isNumber_13 (by decide) (fun c2 => ?_) (fun c2 => ?_)
    · have h := z_if c2 h
      refine lv_iconst (v := (0 : Int32)) G.x G.b dX6_isNumber_20 (by decide) ?_
      exact z_rtZ G hr hlk h dX6_isNumber_21
    · have h := z_ifn c2 h
      refine lv_iconst (v := (1 : Int32)) G.x G.b dX6_isNumber_16 (by decide) ?_
      refine lv_goto (tgt := 21) G.x G.b dX6_isNumber_17 (by decide) ?_
      exact z_rtZ G hr hlk h dX6_isNumber_21
def fX6_takeNumber (M0 : zM) : Option (Int32 × zM) :=
  (some (M0.1 31 7)).bind fun x1 =>
  (fX6_advance M0).bind fun M2 =>
  some (x1, M2)
abbrev rX6_takeNumber : Room := { frames := 2, cells := 0, slots := 0, locals := 44 }
theorem arX6_takeNumber : zAr yX6_takeNumber RX6 0 := ⟨rfl, by decide, by decide, by decide +kernel⟩
set_option maxHeartbeats 4000000 in
theorem kX6_takeNumber (l : Launch) {w : zWd} (hw : zIsC w) {M0 M' : zM} {r : Int32} (h : fX6_takeNumber M0 = some (r, M')) : Met l yX6_takeNumber (Cond.code yX6_takeNumber cX6_takeNumber 2 (some .int) :: zU) rX6_takeNumber (zPre w M0 [.ref (za w 31)]) (zQ w (some (.int r)) M') 0 0 (zA w) := by
  refine z_metN (own := RX6) (lv := [(0, .ref (za w 31))]) hw.1 (by decide) (Nat.le_of_ble_eq_true rfl) rfl rfl ?_
  intro p e s m args below meth c G hr hlk hH ls hl
  unfold fX6_takeNumber at h
  refine lv_aload_n G.x G.b dX6_takeNumber_0 rfl (lv_at hl 0 rfl) ?_
  refine z_get (v := .int (M0.1 31 7)) (k := 31) G hH.1 (cC31 hw) vc6 inU6 7 (by decide) u151 rfl dX6_takeNumber_1 ?_
  obtain ⟨x1, ex1, h⟩ := z_let h
  refine z_nmI ex1 ?_
  refine lv_istore_n (lv' := [(1, .int x1), (0, .ref (za w 31))]) G.x G.b dX6_takeNumber_4 rfl hl (Nat.le_of_ble_eq_true rfl) rfl (fun ls hl => ?_)
  refine lv_aload_n G.x G.b dX6_takeNumber_5 rfl (lv_at hl 1 rfl) ?_
  obtain ⟨M2, eM2, h⟩ := z_bind h
  refine z_aftV (z_runV (k := 31) (As := []) (rest := []) G hH hl.1 (kX6_advance l hw eM2) (cC31 hw) vc6 arX6_advance u556 u558 us5 u9 u559 rfl rfl rfl (Nat.le_of_ble_eq_true rfl) (Nat.le_of_ble_eq_true rfl) rfl (Nat.le_of_ble_eq_true rfl) dX6_takeNumber_6) hH (fun H locs hH => ?_)
  refine lv_iload_n G.x G.b dX6_takeNumber_9 rfl (lv_at hl 0 rfl) ?_
  exact z_retI G hr hlk hH h dX6_takeNumber_10
def fX6_tellBeard (M0 : zM) (a1 : Int32) : Option (Int32 × zM) :=
  zb2 (fX7_addBeard M0 11 a1) fun x1 M2 =>
  if (0 : Int32) ≤ x1 then ((fX6_advance M2).bind fun M4 =>
  (fX6_isWord M4 9).bind fun x5 =>
  zj (fun (M6 : zM) =>
  (fX6_isWord M6 10).bind fun x8 =>
  if x8 = (0 : Int32) then ((zbl (1 : Int32)).bind (fun v => some (v, M6))) else ((fX6_advance M6).bind fun M10 =>
  (fX6_isNumber M10 (999 : Int32)).bind fun x11 =>
  if x11 = (0 : Int32) then ((zbl (0 : Int32)).bind (fun v => some (v, M10))) else (zb2 (fX6_takeNumber M10) fun x13 M14 =>
  (zix x1 8).bind fun j15 =>
  (some (zst M14 14 j15 x13)).bind fun M16 =>
  (zbl (1 : Int32)).bind (fun v => some (v, M16))))) fun J56_7 =>
  if x5 = (0 : Int32) then (J56_7 M4) else ((fX6_advance M4).bind fun M18 =>
  (fX6_isNumber M18 (99 : Int32)).bind fun x19 =>
  if x19 = (0 : Int32) then ((zbl (0 : Int32)).bind (fun v => some (v, M18))) else (zb2 (fX6_takeNumber M18) fun x21 M22 =>
  (zix x1 8).bind fun j23 =>
  (some (zst M22 13 j23 x21)).bind fun M24 =>
  J56_7 M24))) else ((zbl (0 : Int32)).bind (fun v => some (v, M2)))
abbrev rX6_tellBeard : Room := { frames := 5, cells := 0, slots := 0, locals := 107 }
theorem arX6_tellBeard : zAr yX6_tellBeard RX6 1 := ⟨rfl, by decide, by decide, by decide +kernel⟩
set_option maxHeartbeats 4000000 in
theorem kX6_tellBeard (l : Launch) {w : zWd} (hw : zIsC w) {M0 M' : zM} {a1 : Int32} {r : Int32} (h : fX6_tellBeard M0 a1 = some (r, M')) : Met l yX6_tellBeard (Cond.code yX6_tellBeard cX6_tellBeard 3 (some .boolean) :: zU) rX6_tellBeard (zPre w M0 [.ref (za w 31), .int a1]) (zQ w (some (.int r)) M') 0 0 (zA w) := by
  refine z_metN (own := RX6) (lv := [(0, .ref (za w 31)), (1, .int a1)]) hw.1 (by decide) (Nat.le_of_ble_eq_true rfl) rfl rfl ?_
  intro p e s m args below meth c G hr hlk hH ls hl
  unfold fX6_tellBeard at h
  refine lv_aload_n G.x G.b dX6_tellBeard_0 rfl (lv_at hl 0 rfl) ?_
  refine z_get (v := .ref (za w 11)) (k := 31) G hH.1 (cC31 hw) vc6 inU6 3 (by decide) u147 rfl dX6_tellBeard_1 ?_
  refine lv_iload_n G.x G.b dX6_tellBeard_4 rfl (lv_at hl 1 rfl) ?_
  obtain ⟨x1, M2, eM2, h⟩ := z_b2 h
  refine z_aftI (z_runV (k := 11) (As := [.int a1]) (rest := []) G hH hl.1 (kX7_addBeard l hw zT11 eM2) (cCt hw zT11) vc7 arX7_addBeard u653 u275 u276 u8 u277 rfl rfl rfl (Nat.le_of_ble_eq_true rfl) (Nat.le_of_ble_eq_true rfl) rfl (Nat.le_of_ble_eq_true rfl) dX6_tellBeard_5) hH (fun H locs hH => ?_)
  refine lv_istore_n (lv' := [(2, .int x1), (0, .ref (za w 31)), (1, .int a1)]) G.x G.b dX6_tellBeard_8 rfl hl (Nat.le_of_ble_eq_true rfl) rfl (fun ls hl => ?_)
  refine lv_iload_n G.x G.b dX6_tellBeard_9 rfl (lv_at hl 0 rfl) ?_
  refine lv_if_ge (tgt := 15) G.x G.b dX6_tellBeard_10 (by decide) (fun c3 => ?_) (fun c3 => ?_)
  · have h := z_if c3 h
    refine lv_aload_n G.x G.b dX6_tellBeard_15 rfl (lv_at hl 1 rfl) ?_
    obtain ⟨M4, eM4, h⟩ := z_bind h
    refine z_aftV (z_runV (k := 31) (As := []) (rest := []) G hH hl.1 (kX6_advance l hw eM4) (cC31 hw) vc6 arX6_advance u556 u558 us5 u9 u559 rfl rfl rfl (Nat.le_of_ble_eq_true rfl) (Nat.le_of_ble_eq_true rfl) rfl (Nat.le_of_ble_eq_true rfl) dX6_tellBeard_16) hH (fun H locs hH => ?_)
    refine lv_aload_n G.x G.b dX6_tellBeard_19 rfl (lv_at hl 1 rfl) ?_
    refine va_ldcS (q := za w (100 + 9)) G.x G.b G.o ((cE hw G.e).2.1 9 (by decide)) dX6_tellBeard_20 ?_
    obtain ⟨x5, ex5, h⟩ := z_bind h
    refine z_rdI (z_runV (k := 31) (As := [.ref (za w (100 + 9))]) (rest := []) G hH hl.1 (kX6_isWord l hw (by decide) ex5) (cC31 hw) vc6 arX6_isWord u597 u599 us7 u9 u600 rfl rfl rfl (Nat.le_of_ble_eq_true rfl) (Nat.le_of_ble_eq_true rfl) rfl (Nat.le_of_ble_eq_true rfl) dX6_tellBeard_22) ?_
    obtain ⟨J56_7, hJ56_7, h⟩ := z_j h
    have kJ56_7 : ∀ (M6 : zM) (H : Heap) (locs : List Loc) (ls : Array Slot), J56_7 M6 = some (r, M') → zH w s M6 H locs → lv_has ls 3 [(0, .ref (za w 31)), (2, .int x1)] → zGo p l e rX6_tellBeard s m args below meth c (zQ w (some (.int r)) M') (zA w) H locs (F0 m 56 ls []) := by
      intro M6 H locs ls h hH hl
      rw [hJ56_7] at h
      refine lv_aload_n G.x G.b dX6_tellBeard_56 rfl (lv_at hl 0 rfl) ?_
      refine va_ldcS (q := za w (100 + 10)) G.x G.b G.o ((cE hw G.e).2.1 10 (by decide)) dX6_tellBeard_57 ?_
      obtain ⟨x8, ex8, h⟩ := z_bind h
      refine z_rdI (z_runV (k := 31) (As := [.ref (za w (100 + 10))]) (rest := []) G hH hl.1 (kX6_isWord l hw (by decide) ex8) (cC31 hw) vc6 arX6_isWord u597 u599 us7 u9 u600 rfl rfl rfl (Nat.le_of_ble_eq_true rfl) (Nat.le_of_ble_eq_true rfl) rfl (Nat.le_of_ble_eq_true rfl) dX6_tellBeard_59) ?_
      refine lv_if_eq (tgt := 94) G.x G.b dX6_tellBeard_62 (by decide) (fun c9 => ?_) (fun c9 => ?_)
      · have h := z_if c9 h
        refine lv_iconst (v := (1 : Int32)) G.x G.b dX6_tellBeard_94 (by decide) ?_
        exact z_retZ G hr hlk hH h dX6_tellBeard_95
      · have h := z_ifn c9 h
        refine lv_aload_n G.x G.b dX6_tellBeard_65 rfl (lv_at hl 0 rfl) ?_
        obtain ⟨M10, eM10, h⟩ := z_bind h
        refine z_aftV (z_runV (k := 31) (As := []) (rest := []) G hH hl.1 (kX6_advance l hw eM10) (cC31 hw) vc6 arX6_advance u556 u558 us5 u9 u559 rfl rfl rfl (Nat.le_of_ble_eq_true rfl) (Nat.le_of_ble_eq_true rfl) rfl (Nat.le_of_ble_eq_true rfl) dX6_tellBeard_66) hH (fun H locs hH => ?_)
        refine lv_aload_n G.x G.b dX6_tellBeard_69 rfl (lv_at hl 0 rfl) ?_
        refine lv_sipush (v := (999 : Int32)) G.x G.b dX6_tellBeard_70 (by decide) ?_
        obtain ⟨x11, ex11, h⟩ := z_bind h
        refine z_rdI (z_runV (k := 31) (As := [.int (999 : Int32)]) (rest := []) G hH hl.1 (kX6_isNumber l hw ex11) (cC31 hw) vc6 arX6_isNumber u655 u657 us9 u9 u658 rfl rfl rfl (Nat.le_of_ble_eq_true rfl) (Nat.le_of_ble_eq_true rfl) rfl (Nat.le_of_ble_eq_true rfl) dX6_tellBeard_73) ?_
        refine lv_if_ne (tgt := 81) G.x G.b dX6_tellBeard_76 (by decide) (fun c12 => ?_) (fun c12 => ?_)
        · have h := z_ifn c12 h
          refine lv_aload_n G.x G.b dX6_tellBeard_81 rfl (lv_at hl 0 rfl) ?_
          refine z_get (v := .ref (za w 11)) (k := 31) G hH.1 (cC31 hw) vc6 inU6 3 (by decide) u147 rfl dX6_tellBeard_82 ?_
          refine z_get (v := .ref (za w 14)) (k := 11) G hH.1 (cCt hw zT11) vc7 inU7 6 (by decide) u90 rfl dX6_tellBeard_85 ?_
          refine lv_iload_n G.x G.b dX6_tellBeard_88 rfl (lv_at hl 1 rfl) ?_
          refine lv_aload_n G.x G.b dX6_tellBeard_89 rfl (lv_at hl 0 rfl) ?_
          obtain ⟨x13, M14, eM14, h⟩ := z_b2 h
          refine z_aftI (z_runV (k := 31) (As := []) (rest := [.int x1, .ref (za w 14)]) G hH hl.1 (kX6_takeNumber l hw eM14) (cC31 hw) vc6 arX6_takeNumber u659 u661 us10 u9 u662 rfl rfl rfl (Nat.le_of_ble_eq_true rfl) (Nat.le_of_ble_eq_true rfl) rfl (Nat.le_of_ble_eq_true rfl) dX6_tellBeard_90) hH (fun H locs hH => ?_)
          obtain ⟨j15, ej15, h⟩ := z_bind h
          obtain ⟨M16, eM16, h⟩ := z_let h
          refine z_iastN (k := 14) G hH (cCt3 hw zT11) ej15 dX6_tellBeard_93 eM16 (fun H locs hH => ?_)
          refine lv_iconst (v := (1 : Int32)) G.x G.b dX6_tellBeard_94 (by decide) ?_
          exact z_retZ G hr hlk hH h dX6_tellBeard_95
        · have h := z_if c12 h
          refine lv_iconst (v := (0 : Int32)) G.x G.b dX6_tellBeard_79 (by decide) ?_
          exact z_retZ G hr hlk hH h dX6_tellBeard_80
    refine lv_if_eq (tgt := 56) G.x G.b dX6_tellBeard_25 (by decide) (fun c17 => ?_) (fun c17 => ?_)
    · have h := z_if c17 h
      exact kJ56_7 M4 H locs ls h hH (lv_sub hl [1, 0] rfl)
    · have h := z_ifn c17 h
      refine lv_aload_n G.x G.b dX6_tellBeard_28 rfl (lv_at hl 1 rfl) ?_
      obtain ⟨M18, eM18, h⟩ := z_bind h
      refine z_aftV (z_runV (k := 31) (As := []) (rest := []) G hH hl.1 (kX6_advance l hw eM18) (cC31 hw) vc6 arX6_advance u556 u558 us5 u9 u559 rfl rfl rfl (Nat.le_of_ble_eq_true rfl) (Nat.le_of_ble_eq_true rfl) rfl (Nat.le_of_ble_eq_true rfl) dX6_tellBeard_29) hH (fun H locs hH => ?_)
      refine lv_aload_n G.x G.b dX6_tellBeard_32 rfl (lv_at hl 1 rfl) ?_
      refine lv_bipush (v := (99 : Int32)) G.x G.b dX6_tellBeard_33 (by decide) ?_
      obtain ⟨x19, ex19, h⟩ := z_bind h
      refine z_rdI (z_runV (k := 31) (As := [.int (99 : Int32)]) (rest := []) G hH hl.1 (kX6_isNumber l hw ex19) (cC31 hw) vc6 arX6_isNumber u655 u657 us9 u9 u658 rfl rfl rfl (Nat.le_of_ble_eq_true rfl) (Nat.le_of_ble_eq_true rfl) rfl (Nat.le_of_ble_eq_true rfl) dX6_tellBeard_35) ?_
      refine lv_if_ne (tgt := 43) G.x G.b dX6_tellBeard_38 (by decide) (fun c20 => ?_) (fun c20 => ?_)
      · have h := z_ifn c20 h
        refine lv_aload_n G.x G.b dX6_tellBeard_43 rfl (lv_at hl 1 rfl) ?_
        refine z_get (v := .ref (za w 11)) (k := 31) G hH.1 (cC31 hw) vc6 inU6 3 (by decide) u147 rfl dX6_tellBeard_44 ?_
        refine z_get (v := .ref (za w 13)) (k := 11) G hH.1 (cCt hw zT11) vc7 inU7 5 (by decide) u87 rfl dX6_tellBeard_47 ?_
        refine lv_iload_n G.x G.b dX6_tellBeard_50 rfl (lv_at hl 0 rfl) ?_
        refine lv_aload_n G.x G.b dX6_tellBeard_51 rfl (lv_at hl 1 rfl) ?_
        obtain ⟨x21, M22, eM22, h⟩ := z_b2 h
        refine z_aftI (z_runV (k := 31) (As := []) (rest := [.int x1, .ref (za w 13)]) G hH hl.1 (kX6_takeNumber l hw eM22) (cC31 hw) vc6 arX6_takeNumber u659 u661 us10 u9 u662 rfl rfl rfl (Nat.le_of_ble_eq_true rfl) (Nat.le_of_ble_eq_true rfl) rfl (Nat.le_of_ble_eq_true rfl) dX6_tellBeard_52) hH (fun H locs hH => ?_)
        obtain ⟨j23, ej23, h⟩ := z_bind h
        obtain ⟨M24, eM24, h⟩ := z_let h
        refine z_iastN (k := 13) G hH (cCt2 hw zT11) ej23 dX6_tellBeard_55 eM24 (fun H locs hH => ?_)
        exact kJ56_7 M24 H locs ls h hH (lv_sub hl [1, 0] rfl)
      · have h := z_if c20 h
        refine lv_iconst (v := (0 : Int32)) G.x G.b dX6_tellBeard_41 (by decide) ?_
        exact z_retZ G hr hlk hH h dX6_tellBeard_42
  · have h := z_ifn c3 h
    refine lv_iconst (v := (0 : Int32)) G.x G.b dX6_tellBeard_13 (by decide) ?_
    exact z_retZ G hr hlk hH h dX6_tellBeard_14
def fX6_tellWearer (M0 : zM) : Option (Int32 × zM) :=
  zb2 (fX7_addWearer M0 11 (0 : Int32)) fun x1 M2 =>
  if (0 : Int32) ≤ x1 then ((fX6_advance M2).bind fun M4 =>
  (fX6_isNumber M4 (9999 : Int32)).bind fun x5 =>
  if x5 = (0 : Int32) then ((zbl (0 : Int32)).bind (fun v => some (v, M4))) else (zb2 (fX6_takeNumber M4) fun x7 M8 =>
  (zix x1 6).bind fun j9 =>
  (some (zst M8 16 j9 x7)).bind fun M10 =>
  (fX6_isWord M10 11).bind fun x11 =>
  if x11 = (0 : Int32) then ((zbl (1 : Int32)).bind (fun v => some (v, M10))) else ((fX6_advance M10).bind fun M13 =>
  (fX6_isNumber M13 (5 : Int32)).bind fun x14 =>
  if x14 = (0 : Int32) then ((zbl (0 : Int32)).bind (fun v => some (v, M13))) else (zb2 (fX6_takeNumber M13) fun x16 M17 =>
  (zix x1 6).bind fun j18 =>
  (some (zst M17 17 j18 x16)).bind fun M19 =>
  (zbl (1 : Int32)).bind (fun v => some (v, M19)))))) else ((zbl (0 : Int32)).bind (fun v => some (v, M2)))
abbrev rX6_tellWearer : Room := { frames := 5, cells := 0, slots := 0, locals := 107 }
theorem arX6_tellWearer : zAr yX6_tellWearer RX6 0 := ⟨rfl, by decide, by decide, by decide +kernel⟩
set_option maxHeartbeats 4000000 in
theorem kX6_tellWearer (l : Launch) {w : zWd} (hw : zIsC w) {M0 M' : zM} {r : Int32} (h : fX6_tellWearer M0 = some (r, M')) : Met l yX6_tellWearer (Cond.code yX6_tellWearer cX6_tellWearer 2 (some .boolean) :: zU) rX6_tellWearer (zPre w M0 [.ref (za w 31)]) (zQ w (some (.int r)) M') 0 0 (zA w) := by
  refine z_metN (own := RX6) (lv := [(0, .ref (za w 31))]) hw.1 (by decide) (Nat.le_of_ble_eq_true rfl) rfl rfl ?_
  intro p e s m args below meth c G hr hlk hH ls hl
  unfold fX6_tellWearer at h
  refine lv_aload_n G.x G.b dX6_tellWearer_0 rfl (lv_at hl 0 rfl) ?_
  refine z_get (v := .ref (za w 11)) (k := 31) G hH.1 (cC31 hw) vc6 inU6 3 (by decide) u147 rfl dX6_tellWearer_1 ?_
  refine lv_iconst (v := (0 : Int32)) G.x G.b dX6_tellWearer_4 (by decide) ?_
  obtain ⟨x1, M2, eM2, h⟩ := z_b2 h
  refine z_aftI (z_runV (k := 11) (As := [.int (0 : Int32)]) (rest := []) G hH hl.1 (kX7_addWearer l hw zT11 eM2) (cCt hw zT11) vc7 arX7_addWearer u669 u417 u418 u8 u419 rfl rfl rfl (Nat.le_of_ble_eq_true rfl) (Nat.le_of_ble_eq_true rfl) rfl (Nat.le_of_ble_eq_true rfl) dX6_tellWearer_5) hH (fun H locs hH => ?_)
  refine lv_istore_n (lv' := [(1, .int x1), (0, .ref (za w 31))]) G.x G.b dX6_tellWearer_8 rfl hl (Nat.le_of_ble_eq_true rfl) rfl (fun ls hl => ?_)
  refine lv_iload_n G.x G.b dX6_tellWearer_9 rfl (lv_at hl 0 rfl) ?_
  refine lv_if_ge (tgt := 15) G.x G.b dX6_tellWearer_10 (by decide) (fun c3 => ?_) (fun c3 => ?_)
  · have h := z_if c3 h
    refine lv_aload_n G.x G.b dX6_tellWearer_15 rfl (lv_at hl 1 rfl) ?_
    obtain ⟨M4, eM4, h⟩ := z_bind h
    refine z_aftV (z_runV (k := 31) (As := []) (rest := []) G hH hl.1 (kX6_advance l hw eM4) (cC31 hw) vc6 arX6_advance u556 u558 us5 u9 u559 rfl rfl rfl (Nat.le_of_ble_eq_true rfl) (Nat.le_of_ble_eq_true rfl) rfl (Nat.le_of_ble_eq_true rfl) dX6_tellWearer_16) hH (fun H locs hH => ?_)
    refine lv_aload_n G.x G.b dX6_tellWearer_19 rfl (lv_at hl 1 rfl) ?_
    refine lv_sipush (v := (9999 : Int32)) G.x G.b dX6_tellWearer_20 (by decide) ?_
    obtain ⟨x5, ex5, h⟩ := z_bind h
    refine z_rdI (z_runV (k := 31) (As := [.int (9999 : Int32)]) (rest := []) G hH hl.1 (kX6_isNumber l hw ex5) (cC31 hw) vc6 arX6_isNumber u655 u657 us9 u9 u658 rfl rfl rfl (Nat.le_of_ble_eq_true rfl) (Nat.le_of_ble_eq_true rfl) rfl (Nat.le_of_ble_eq_true rfl) dX6_tellWearer_23) ?_
    refine lv_if_ne (tgt := 31) G.x G.b dX6_tellWearer_26 (by decide) (fun c6 => ?_) (fun c6 => ?_)
    · have h := z_ifn c6 h
      refine lv_aload_n G.x G.b dX6_tellWearer_31 rfl (lv_at hl 1 rfl) ?_
      refine z_get (v := .ref (za w 11)) (k := 31) G hH.1 (cC31 hw) vc6 inU6 3 (by decide) u147 rfl dX6_tellWearer_32 ?_
      refine z_get (v := .ref (za w 16)) (k := 11) G hH.1 (cCt hw zT11) vc7 inU7 8 (by decide) u96 rfl dX6_tellWearer_35 ?_
      refine lv_iload_n G.x G.b dX6_tellWearer_38 rfl (lv_at hl 0 rfl) ?_
      refine lv_aload_n G.x G.b dX6_tellWearer_39 rfl (lv_at hl 1 rfl) ?_
      obtain ⟨x7, M8, eM8, h⟩ := z_b2 h
      refine z_aftI (z_runV (k := 31) (As := []) (rest := [.int x1, .ref (za w 16)]) G hH hl.1 (kX6_takeNumber l hw eM8) (cC31 hw) vc6 arX6_takeNumber u659 u661 us10 u9 u662 rfl rfl rfl (Nat.le_of_ble_eq_true rfl) (Nat.le_of_ble_eq_true rfl) rfl (Nat.le_of_ble_eq_true rfl) dX6_tellWearer_40) hH (fun H locs hH => ?_)
      obtain ⟨j9, ej9, h⟩ := z_bind h
      obtain ⟨M10, eM10, h⟩ := z_let h
      refine z_iastN (k := 16) G hH (cCt5 hw zT11) ej9 dX6_tellWearer_43 eM10 (fun H locs hH => ?_)
      refine lv_aload_n G.x G.b dX6_tellWearer_44 rfl (lv_at hl 1 rfl) ?_
      refine va_ldcS (q := za w (100 + 11)) G.x G.b G.o ((cE hw G.e).2.1 11 (by decide)) dX6_tellWearer_45 ?_
      obtain ⟨x11, ex11, h⟩ := z_bind h
      refine z_rdI (z_runV (k := 31) (As := [.ref (za w (100 + 11))]) (rest := []) G hH hl.1 (kX6_isWord l hw (by decide) ex11) (cC31 hw) vc6 arX6_isWord u597 u599 us7 u9 u600 rfl rfl rfl (Nat.le_of_ble_eq_true rfl) (Nat.le_of_ble_eq_true rfl) rfl (Nat.le_of_ble_eq_true rfl) dX6_tellWearer_47) ?_
      refine lv_if_eq (tgt := 80) G.x G.b dX6_tellWearer_50 (by decide) (fun c12 => ?_) (fun c12 => ?_)
      · have h := z_if c12 h
        refine lv_iconst (v := (1 : Int32)) G.x G.b dX6_tellWearer_80 (by decide) ?_
        exact z_retZ G hr hlk hH h dX6_tellWearer_81
      · have h := z_ifn c12 h
        refine lv_aload_n G.x G.b dX6_tellWearer_53 rfl (lv_at hl 1 rfl) ?_
        obtain ⟨M13, eM13, h⟩ := z_bind h
        refine z_aftV (z_runV (k := 31) (As := []) (rest := []) G hH hl.1 (kX6_advance l hw eM13) (cC31 hw) vc6 arX6_advance u556 u558 us5 u9 u559 rfl rfl rfl (Nat.le_of_ble_eq_true rfl) (Nat.le_of_ble_eq_true rfl) rfl (Nat.le_of_ble_eq_true rfl) dX6_tellWearer_54) hH (fun H locs hH => ?_)
        refine lv_aload_n G.x G.b dX6_tellWearer_57 rfl (lv_at hl 1 rfl) ?_
        refine lv_iconst (v := (5 : Int32)) G.x G.b dX6_tellWearer_58 (by decide) ?_
        obtain ⟨x14, ex14, h⟩ := z_bind h
        refine z_rdI (z_runV (k := 31) (As := [.int (5 : Int32)]) (rest := []) G hH hl.1 (kX6_isNumber l hw ex14) (cC31 hw) vc6 arX6_isNumber u655 u657 us9 u9 u658 rfl rfl rfl (Nat.le_of_ble_eq_true rfl) (Nat.le_of_ble_eq_true rfl) rfl (Nat.le_of_ble_eq_true rfl) dX6_tellWearer_59) ?_
        refine lv_if_ne (tgt := 67) G.x G.b dX6_tellWearer_62 (by decide) (fun c15 => ?_) (fun c15 => ?_)
        · have h := z_ifn c15 h
          refine lv_aload_n G.x G.b dX6_tellWearer_67 rfl (lv_at hl 1 rfl) ?_
          refine z_get (v := .ref (za w 11)) (k := 31) G hH.1 (cC31 hw) vc6 inU6 3 (by decide) u147 rfl dX6_tellWearer_68 ?_
          refine z_get (v := .ref (za w 17)) (k := 11) G hH.1 (cCt hw zT11) vc7 inU7 9 (by decide) u99 rfl dX6_tellWearer_71 ?_
          refine lv_iload_n G.x G.b dX6_tellWearer_74 rfl (lv_at hl 0 rfl) ?_
          refine lv_aload_n G.x G.b dX6_tellWearer_75 rfl (lv_at hl 1 rfl) ?_
          obtain ⟨x16, M17, eM17, h⟩ := z_b2 h
          refine z_aftI (z_runV (k := 31) (As := []) (rest := [.int x1, .ref (za w 17)]) G hH hl.1 (kX6_takeNumber l hw eM17) (cC31 hw) vc6 arX6_takeNumber u659 u661 us10 u9 u662 rfl rfl rfl (Nat.le_of_ble_eq_true rfl) (Nat.le_of_ble_eq_true rfl) rfl (Nat.le_of_ble_eq_true rfl) dX6_tellWearer_76) hH (fun H locs hH => ?_)
          obtain ⟨j18, ej18, h⟩ := z_bind h
          obtain ⟨M19, eM19, h⟩ := z_let h
          refine z_iastN (k := 17) G hH (cCt6 hw zT11) ej18 dX6_tellWearer_79 eM19 (fun H locs hH => ?_)
          refine lv_iconst (v := (1 : Int32)) G.x G.b dX6_tellWearer_80 (by decide) ?_
          exact z_retZ G hr hlk hH h dX6_tellWearer_81
        · have h := z_if c15 h
          refine lv_iconst (v := (0 : Int32)) G.x G.b dX6_tellWearer_65 (by decide) ?_
          exact z_retZ G hr hlk hH h dX6_tellWearer_66
    · have h := z_if c6 h
      refine lv_iconst (v := (0 : Int32)) G.x G.b dX6_tellWearer_29 (by decide) ?_
      exact z_retZ G hr hlk hH h dX6_tellWearer_30
  · have h := z_ifn c3 h
    refine lv_iconst (v := (0 : Int32)) G.x G.b dX6_tellWearer_13 (by decide) ?_
    exact z_retZ G hr hlk hH h dX6_tellWearer_14
def fX6_tellHouse (M0 : zM) : Option (Int32 × zM) :=
  (fX6_advance M0).bind fun M1 =>
  (fX6_isNumber M1 (5 : Int32)).bind fun x2 =>
  if x2 = (0 : Int32) then ((zbl (0 : Int32)).bind (fun v => some (v, M1))) else (zb2 (fX6_takeNumber M1) fun x4 M5 =>
  (fX6_isWord M5 12).bind fun x6 =>
  zj ((fX6_advance M5).bind fun M8 =>
  (fX6_isNumber M8 (50 : Int32)).bind fun x9 =>
  if x9 = (0 : Int32) then ((zbl (0 : Int32)).bind (fun v => some (v, M8))) else (zb2 (fX6_takeNumber M8) fun x11 M12 =>
  if x6 = (0 : Int32) then ((zix x4 6).bind fun j14 =>
  (some (zst M12 19 j14 x11)).bind fun M15 =>
  (zbl (1 : Int32)).bind (fun v => some (v, M15))) else ((zix x4 6).bind fun j16 =>
  (some (zst M12 19 j16 (-x11))).bind fun M17 =>
  (zbl (1 : Int32)).bind (fun v => some (v, M17))))) fun J41_7 =>
  if x6 = (0 : Int32) then ((fX6_isWord M5 13).bind fun x19 =>
  if x19 = (0 : Int32) then ((zbl (0 : Int32)).bind (fun v => some (v, M5))) else (J41_7)) else (J41_7))
abbrev rX6_tellHouse : Room := { frames := 5, cells := 0, slots := 0, locals := 107 }
theorem arX6_tellHouse : zAr yX6_tellHouse RX6 0 := ⟨rfl, by decide, by decide, by decide +kernel⟩
set_option maxHeartbeats 4000000 in
theorem kX6_tellHouse (l : Launch) {w : zWd} (hw : zIsC w) {M0 M' : zM} {r : Int32} (h : fX6_tellHouse M0 = some (r, M')) : Met l yX6_tellHouse (Cond.code yX6_tellHouse cX6_tellHouse 4 (some .boolean) :: zU) rX6_tellHouse (zPre w M0 [.ref (za w 31)]) (zQ w (some (.int r)) M') 0 0 (zA w) := by
  refine z_metN (own := RX6) (lv := [(0, .ref (za w 31))]) hw.1 (by decide) (Nat.le_of_ble_eq_true rfl) rfl rfl ?_
  intro p e s m args below meth c G hr hlk hH ls hl
  unfold fX6_tellHouse at h
  refine lv_aload_n G.x G.b dX6_tellHouse_0 rfl (lv_at hl 0 rfl) ?_
  obtain ⟨M1, eM1, h⟩ := z_bind h
  refine z_aftV (z_runV (k := 31) (As := []) (rest := []) G hH hl.1 (kX6_advance l hw eM1) (cC31 hw) vc6 arX6_advance u556 u558 us5 u9 u559 rfl rfl rfl (Nat.le_of_ble_eq_true rfl) (Nat.le_of_ble_eq_true rfl) rfl (Nat.le_of_ble_eq_true rfl) dX6_tellHouse_1) hH (fun H locs hH => ?_)
  refine lv_aload_n G.x G.b dX6_tellHouse_4 rfl (lv_at hl 0 rfl) ?_
  refine lv_iconst (v := (5 : Int32)) G.x G.b dX6_tellHouse_5 (by decide) ?_
  obtain ⟨x2, ex2, h⟩ := z_bind h
  refine z_rdI (z_runV (k := 31) (As := [.int (5 : Int32)]) (rest := []) G hH hl.1 (kX6_isNumber l hw ex2) (cC31 hw) vc6 arX6_isNumber u655 u657 us9 u9 u658 rfl rfl rfl (Nat.le_of_ble_eq_true rfl) (Nat.le_of_ble_eq_true rfl) rfl (Nat.le_of_ble_eq_true rfl) dX6_tellHouse_6) ?_
  refine lv_if_ne (tgt := 14) G.x G.b dX6_tellHouse_9 (by decide) (fun c3 => ?_) (fun c3 => ?_)
  · have h := z_ifn c3 h
    refine lv_aload_n G.x G.b dX6_tellHouse_14 rfl (lv_at hl 0 rfl) ?_
    obtain ⟨x4, M5, eM5, h⟩ := z_b2 h
    refine z_aftI (z_runV (k := 31) (As := []) (rest := []) G hH hl.1 (kX6_takeNumber l hw eM5) (cC31 hw) vc6 arX6_takeNumber u659 u661 us10 u9 u662 rfl rfl rfl (Nat.le_of_ble_eq_true rfl) (Nat.le_of_ble_eq_true rfl) rfl (Nat.le_of_ble_eq_true rfl) dX6_tellHouse_15) hH (fun H locs hH => ?_)
    refine lv_istore_n (lv' := [(1, .int x4), (0, .ref (za w 31))]) G.x G.b dX6_tellHouse_18 rfl hl (Nat.le_of_ble_eq_true rfl) rfl (fun ls hl => ?_)
    refine lv_aload_n G.x G.b dX6_tellHouse_19 rfl (lv_at hl 1 rfl) ?_
    refine va_ldcS (q := za w (100 + 12)) G.x G.b G.o ((cE hw G.e).2.1 12 (by decide)) dX6_tellHouse_20 ?_
    obtain ⟨x6, ex6, h⟩ := z_bind h
    refine z_rdI (z_runV (k := 31) (As := [.ref (za w (100 + 12))]) (rest := []) G hH hl.1 (kX6_isWord l hw (by decide) ex6) (cC31 hw) vc6 arX6_isWord u597 u599 us7 u9 u600 rfl rfl rfl (Nat.le_of_ble_eq_true rfl) (Nat.le_of_ble_eq_true rfl) rfl (Nat.le_of_ble_eq_true rfl) dX6_tellHouse_22) ?_
    refine lv_istore_n (lv' := [(2, .int x6), (1, .int x4), (0, .ref (za w 31))]) G.x G.b dX6_tellHouse_25 rfl hl (Nat.le_of_ble_eq_true rfl) rfl (fun ls hl => ?_)
    refine lv_iload_n G.x G.b dX6_tellHouse_26 rfl (lv_at hl 0 rfl) ?_
    obtain ⟨J41_7, hJ41_7, h⟩ := z_j h
    have kJ41_7 : ∀ (ls : Array Slot), J41_7 = some (r, M') → lv_has ls 4 [(0, .ref (za w 31)), (1, .int x4), (2, .int x6)] → zGo p l e rX6_tellHouse s m args below meth c (zQ w (some (.int r)) M') (zA w) H locs (F0 m 41 ls []) := by
      intro ls h hl
      rw [hJ41_7] at h
      refine lv_aload_n G.x G.b dX6_tellHouse_41 rfl (lv_at hl 0 rfl) ?_
      obtain ⟨M8, eM8, h⟩ := z_bind h
      refine z_aftV (z_runV (k := 31) (As := []) (rest := []) G hH hl.1 (kX6_advance l hw eM8) (cC31 hw) vc6 arX6_advance u556 u558 us5 u9 u559 rfl rfl rfl (Nat.le_of_ble_eq_true rfl) (Nat.le_of_ble_eq_true rfl) rfl (Nat.le_of_ble_eq_true rfl) dX6_tellHouse_42) hH (fun H locs hH => ?_)
      refine lv_aload_n G.x G.b dX6_tellHouse_45 rfl (lv_at hl 0 rfl) ?_
      refine lv_bipush (v := (50 : Int32)) G.x G.b dX6_tellHouse_46 (by decide) ?_
      obtain ⟨x9, ex9, h⟩ := z_bind h
      refine z_rdI (z_runV (k := 31) (As := [.int (50 : Int32)]) (rest := []) G hH hl.1 (kX6_isNumber l hw ex9) (cC31 hw) vc6 arX6_isNumber u655 u657 us9 u9 u658 rfl rfl rfl (Nat.le_of_ble_eq_true rfl) (Nat.le_of_ble_eq_true rfl) rfl (Nat.le_of_ble_eq_true rfl) dX6_tellHouse_48) ?_
      refine lv_if_ne (tgt := 56) G.x G.b dX6_tellHouse_51 (by decide) (fun c10 => ?_) (fun c10 => ?_)
      · have h := z_ifn c10 h
        refine lv_aload_n G.x G.b dX6_tellHouse_56 rfl (lv_at hl 0 rfl) ?_
        obtain ⟨x11, M12, eM12, h⟩ := z_b2 h
        refine z_aftI (z_runV (k := 31) (As := []) (rest := []) G hH hl.1 (kX6_takeNumber l hw eM12) (cC31 hw) vc6 arX6_takeNumber u659 u661 us10 u9 u662 rfl rfl rfl (Nat.le_of_ble_eq_true rfl) (Nat.le_of_ble_eq_true rfl) rfl (Nat.le_of_ble_eq_true rfl) dX6_tellHouse_57) hH (fun H locs hH => ?_)
        refine lv_istore_n (lv' := [(3, .int x11), (0, .ref (za w 31)), (1, .int x4), (2, .int x6)]) G.x G.b dX6_tellHouse_60 rfl hl (Nat.le_of_ble_eq_true rfl) rfl (fun ls hl => ?_)
        refine lv_aload_n G.x G.b dX6_tellHouse_61 rfl (lv_at hl 1 rfl) ?_
        refine z_get (v := .ref (za w 11)) (k := 31) G hH.1 (cC31 hw) vc6 inU6 3 (by decide) u147 rfl dX6_tellHouse_62 ?_
        refine z_get (v := .ref (za w 19)) (k := 11) G hH.1 (cCt hw zT11) vc7 inU7 11 (by decide) u106 rfl dX6_tellHouse_65 ?_
        refine lv_iload_n G.x G.b dX6_tellHouse_68 rfl (lv_at hl 2 rfl) ?_
        refine lv_iload_n G.x G.b dX6_tellHouse_69 rfl (lv_at hl 3 rfl) ?_
        refine lv_if_eq (tgt := 78) G.x G.b dX6_tellHouse_70 (by decide) (fun c13 => ?_) (fun c13 => ?_)
        · have h := z_if c13 h
          refine lv_iload_n G.x G.b dX6_tellHouse_78 rfl (lv_at hl 0 rfl) ?_
          obtain ⟨j14, ej14, h⟩ := z_bind h
          obtain ⟨M15, eM15, h⟩ := z_let h
          refine z_iastN (k := 19) G hH (cCt8 hw zT11) ej14 dX6_tellHouse_79 eM15 (fun H locs hH => ?_)
          refine lv_iconst (v := (1 : Int32)) G.x G.b dX6_tellHouse_80 (by decide) ?_
          exact z_retZ G hr hlk hH h dX6_tellHouse_81
        · have h := z_ifn c13 h
          refine lv_iload_n G.x G.b dX6_tellHouse_73 rfl (lv_at hl 0 rfl) ?_
          refine lv_ineg G.x G.b dX6_tellHouse_74 ?_
          refine lv_goto (tgt := 79) G.x G.b dX6_tellHouse_75 (by decide) ?_
          obtain ⟨j16, ej16, h⟩ := z_bind h
          obtain ⟨M17, eM17, h⟩ := z_let h
          refine z_iastN (k := 19) G hH (cCt8 hw zT11) ej16 dX6_tellHouse_79 eM17 (fun H locs hH => ?_)
          refine lv_iconst (v := (1 : Int32)) G.x G.b dX6_tellHouse_80 (by decide) ?_
          exact z_retZ G hr hlk hH h dX6_tellHouse_81
      · have h := z_if c10 h
        refine lv_iconst (v := (0 : Int32)) G.x G.b dX6_tellHouse_54 (by decide) ?_
        exact z_retZ G hr hlk hH h dX6_tellHouse_55
    refine lv_if_ne (tgt := 41) G.x G.b dX6_tellHouse_27 (by decide) (fun c18 => ?_) (fun c18 => ?_)
    · have h := z_ifn c18 h
      exact kJ41_7 ls h (lv_sub hl [2, 1, 0] rfl)
    · have h := z_if c18 h
      refine lv_aload_n G.x G.b dX6_tellHouse_30 rfl (lv_at hl 2 rfl) ?_
      refine va_ldcS (q := za w (100 + 13)) G.x G.b G.o ((cE hw G.e).2.1 13 (by decide)) dX6_tellHouse_31 ?_
      obtain ⟨x19, ex19, h⟩ := z_bind h
      refine z_rdI (z_runV (k := 31) (As := [.ref (za w (100 + 13))]) (rest := []) G hH hl.1 (kX6_isWord l hw (by decide) ex19) (cC31 hw) vc6 arX6_isWord u597 u599 us7 u9 u600 rfl rfl rfl (Nat.le_of_ble_eq_true rfl) (Nat.le_of_ble_eq_true rfl) rfl (Nat.le_of_ble_eq_true rfl) dX6_tellHouse_33) ?_
      refine lv_if_ne (tgt := 41) G.x G.b dX6_tellHouse_36 (by decide) (fun c20 => ?_) (fun c20 => ?_)
      · have h := z_ifn c20 h
        exact kJ41_7 ls h (lv_sub hl [2, 1, 0] rfl)
      · have h := z_if c20 h
        refine lv_iconst (v := (0 : Int32)) G.x G.b dX6_tellHouse_39 (by decide) ?_
        exact z_retZ G hr hlk hH h dX6_tellHouse_40
  · have h := z_if c3 h
    refine lv_iconst (v := (0 : Int32)) G.x G.b dX6_tellHouse_12 (by decide) ?_
    exact z_retZ G hr hlk hH h dX6_tellHouse_13
def fX6_tellHire (M0 : zM) : Option (Int32 × zM) :=
  (fX6_advance M0).bind fun M1 =>
  (fX6_isNumber M1 ((M1.1 11 3) - (1 : Int32))).bind fun x2 =>
  if x2 = (0 : Int32) then ((zbl (0 : Int32)).bind (fun v => some (v, M1))) else ((zix (M1.1 31 7) 6).bind fun j4 =>
  if (M1.1 18 j4) = (-1 : Int32) then (zb2 (fX6_takeNumber M1) fun x6 M7 =>
  (fX6_isNumber M7 ((M7.1 11 2) - (1 : Int32))).bind fun x8 =>
  if x8 = (0 : Int32) then ((zbl (0 : Int32)).bind (fun v => some (v, M7))) else ((zix (M7.1 31 7) 8).bind fun j10 =>
  if (M7.1 15 j10) = (-1 : Int32) then (zb2 (fX6_takeNumber M7) fun x12 M13 =>
  (fX7_putOn M13 11 x6 x12).bind fun M14 =>
  (zbl (1 : Int32)).bind (fun v => some (v, M14))) else ((zbl (0 : Int32)).bind (fun v => some (v, M7))))) else ((zbl (0 : Int32)).bind (fun v => some (v, M1))))
abbrev rX6_tellHire : Room := { frames := 3, cells := 0, slots := 0, locals := 65 }
theorem arX6_tellHire : zAr yX6_tellHire RX6 0 := ⟨rfl, by decide, by decide, by decide +kernel⟩
set_option maxHeartbeats 4000000 in
theorem kX6_tellHire (l : Launch) {w : zWd} (hw : zIsC w) {M0 M' : zM} {r : Int32} (h : fX6_tellHire M0 = some (r, M')) : Met l yX6_tellHire (Cond.code yX6_tellHire cX6_tellHire 2 (some .boolean) :: zU) rX6_tellHire (zPre w M0 [.ref (za w 31)]) (zQ w (some (.int r)) M') 0 0 (zA w) := by
  refine z_metN (own := RX6) (lv := [(0, .ref (za w 31))]) hw.1 (by decide) (Nat.le_of_ble_eq_true rfl) rfl rfl ?_
  intro p e s m args below meth c G hr hlk hH ls hl
  unfold fX6_tellHire at h
  refine lv_aload_n G.x G.b dX6_tellHire_0 rfl (lv_at hl 0 rfl) ?_
  obtain ⟨M1, eM1, h⟩ := z_bind h
  refine z_aftV (z_runV (k := 31) (As := []) (rest := []) G hH hl.1 (kX6_advance l hw eM1) (cC31 hw) vc6 arX6_advance u556 u558 us5 u9 u559 rfl rfl rfl (Nat.le_of_ble_eq_true rfl) (Nat.le_of_ble_eq_true rfl) rfl (Nat.le_of_ble_eq_true rfl) dX6_tellHire_1) hH (fun H locs hH => ?_)
  refine lv_aload_n G.x G.b dX6_tellHire_4 rfl (lv_at hl 0 rfl) ?_
  refine lv_aload_n G.x G.b dX6_tellHire_5 rfl (lv_at hl 0 rfl) ?_
  refine z_get (v := .ref (za w 11)) (k := 31) G hH.1 (cC31 hw) vc6 inU6 3 (by decide) u147 rfl dX6_tellHire_6 ?_
  refine z_get (v := .int (M1.1 11 3)) (k := 11) G hH.1 (cCt hw zT11) vc7 inU7 3 (by decide) u82 rfl dX6_tellHire_9 ?_
  refine lv_iconst (v := (1 : Int32)) G.x G.b dX6_tellHire_12 (by decide) ?_
  refine lv_isub G.x G.b dX6_tellHire_13 ?_
  obtain ⟨x2, ex2, h⟩ := z_bind h
  refine z_rdI (z_runV (k := 31) (As := [.int ((M1.1 11 3) - (1 : Int32))]) (rest := []) G hH hl.1 (kX6_isNumber l hw ex2) (cC31 hw) vc6 arX6_isNumber u655 u657 us9 u9 u658 rfl rfl rfl (Nat.le_of_ble_eq_true rfl) (Nat.le_of_ble_eq_true rfl) rfl (Nat.le_of_ble_eq_true rfl) dX6_tellHire_14) ?_
  refine lv_if_eq (tgt := 36) G.x G.b dX6_tellHire_17 (by decide) (fun c3 => ?_) (fun c3 => ?_)
  · have h := z_if c3 h
    refine lv_iconst (v := (0 : Int32)) G.x G.b dX6_tellHire_36 (by decide) ?_
    exact z_retZ G hr hlk hH h dX6_tellHire_37
  · have h := z_ifn c3 h
    refine lv_aload_n G.x G.b dX6_tellHire_20 rfl (lv_at hl 0 rfl) ?_
    refine z_get (v := .ref (za w 11)) (k := 31) G hH.1 (cC31 hw) vc6 inU6 3 (by decide) u147 rfl dX6_tellHire_21 ?_
    refine z_get (v := .ref (za w 18)) (k := 11) G hH.1 (cCt hw zT11) vc7 inU7 10 (by decide) u102 rfl dX6_tellHire_24 ?_
    refine lv_aload_n G.x G.b dX6_tellHire_27 rfl (lv_at hl 0 rfl) ?_
    refine z_get (v := .int (M1.1 31 7)) (k := 31) G hH.1 (cC31 hw) vc6 inU6 7 (by decide) u151 rfl dX6_tellHire_28 ?_
    obtain ⟨j4, ej4, h⟩ := z_bind h
    refine z_iald (k := 18) G hH.1 (cCt7 hw zT11) ej4 dX6_tellHire_31 ?_
    refine lv_iconst (v := (-1 : Int32)) G.x G.b dX6_tellHire_32 (by decide) ?_
    refine lv_icmp_eq (tgt := 38) G.x G.b dX6_tellHire_33 (by decide) (fun c5 => ?_) (fun c5 => ?_)
    · have h := z_if c5 h
      refine lv_aload_n G.x G.b dX6_tellHire_38 rfl (lv_at hl 0 rfl) ?_
      obtain ⟨x6, M7, eM7, h⟩ := z_b2 h
      refine z_aftI (z_runV (k := 31) (As := []) (rest := []) G hH hl.1 (kX6_takeNumber l hw eM7) (cC31 hw) vc6 arX6_takeNumber u659 u661 us10 u9 u662 rfl rfl rfl (Nat.le_of_ble_eq_true rfl) (Nat.le_of_ble_eq_true rfl) rfl (Nat.le_of_ble_eq_true rfl) dX6_tellHire_39) hH (fun H locs hH => ?_)
      refine lv_istore_n (lv' := [(1, .int x6), (0, .ref (za w 31))]) G.x G.b dX6_tellHire_42 rfl hl (Nat.le_of_ble_eq_true rfl) rfl (fun ls hl => ?_)
      refine lv_aload_n G.x G.b dX6_tellHire_43 rfl (lv_at hl 1 rfl) ?_
      refine lv_aload_n G.x G.b dX6_tellHire_44 rfl (lv_at hl 1 rfl) ?_
      refine z_get (v := .ref (za w 11)) (k := 31) G hH.1 (cC31 hw) vc6 inU6 3 (by decide) u147 rfl dX6_tellHire_45 ?_
      refine z_get (v := .int (M7.1 11 2)) (k := 11) G hH.1 (cCt hw zT11) vc7 inU7 2 (by decide) u79 rfl dX6_tellHire_48 ?_
      refine lv_iconst (v := (1 : Int32)) G.x G.b dX6_tellHire_51 (by decide) ?_
      refine lv_isub G.x G.b dX6_tellHire_52 ?_
      obtain ⟨x8, ex8, h⟩ := z_bind h
      refine z_rdI (z_runV (k := 31) (As := [.int ((M7.1 11 2) - (1 : Int32))]) (rest := []) G hH hl.1 (kX6_isNumber l hw ex8) (cC31 hw) vc6 arX6_isNumber u655 u657 us9 u9 u658 rfl rfl rfl (Nat.le_of_ble_eq_true rfl) (Nat.le_of_ble_eq_true rfl) rfl (Nat.le_of_ble_eq_true rfl) dX6_tellHire_53) ?_
      refine lv_if_eq (tgt := 75) G.x G.b dX6_tellHire_56 (by decide) (fun c9 => ?_) (fun c9 => ?_)
      · have h := z_if c9 h
        refine lv_iconst (v := (0 : Int32)) G.x G.b dX6_tellHire_75 (by decide) ?_
        exact z_retZ G hr hlk hH h dX6_tellHire_76
      · have h := z_ifn c9 h
        refine lv_aload_n G.x G.b dX6_tellHire_59 rfl (lv_at hl 1 rfl) ?_
        refine z_get (v := .ref (za w 11)) (k := 31) G hH.1 (cC31 hw) vc6 inU6 3 (by decide) u147 rfl dX6_tellHire_60 ?_
        refine z_get (v := .ref (za w 15)) (k := 11) G hH.1 (cCt hw zT11) vc7 inU7 7 (by decide) u94 rfl dX6_tellHire_63 ?_
        refine lv_aload_n G.x G.b dX6_tellHire_66 rfl (lv_at hl 1 rfl) ?_
        refine z_get (v := .int (M7.1 31 7)) (k := 31) G hH.1 (cC31 hw) vc6 inU6 7 (by decide) u151 rfl dX6_tellHire_67 ?_
        obtain ⟨j10, ej10, h⟩ := z_bind h
        refine z_iald (k := 15) G hH.1 (cCt4 hw zT11) ej10 dX6_tellHire_70 ?_
        refine lv_iconst (v := (-1 : Int32)) G.x G.b dX6_tellHire_71 (by decide) ?_
        refine lv_icmp_eq (tgt := 77) G.x G.b dX6_tellHire_72 (by decide) (fun c11 => ?_) (fun c11 => ?_)
        · have h := z_if c11 h
          refine lv_aload_n G.x G.b dX6_tellHire_77 rfl (lv_at hl 1 rfl) ?_
          refine z_get (v := .ref (za w 11)) (k := 31) G hH.1 (cC31 hw) vc6 inU6 3 (by decide) u147 rfl dX6_tellHire_78 ?_
          refine lv_iload_n G.x G.b dX6_tellHire_81 rfl (lv_at hl 0 rfl) ?_
          refine lv_aload_n G.x G.b dX6_tellHire_82 rfl (lv_at hl 1 rfl) ?_
          obtain ⟨x12, M13, eM13, h⟩ := z_b2 h
          refine z_aftI (z_runV (k := 31) (As := []) (rest := [.int x6, .ref (za w 11)]) G hH hl.1 (kX6_takeNumber l hw eM13) (cC31 hw) vc6 arX6_takeNumber u659 u661 us10 u9 u662 rfl rfl rfl (Nat.le_of_ble_eq_true rfl) (Nat.le_of_ble_eq_true rfl) rfl (Nat.le_of_ble_eq_true rfl) dX6_tellHire_83) hH (fun H locs hH => ?_)
          obtain ⟨M14, eM14, h⟩ := z_bind h
          refine z_aftV (z_runV (k := 11) (As := [.int x6, .int x12]) (rest := []) G hH hl.1 (kX7_putOn l hw zT11 eM14) (cCt hw zT11) vc7 arX7_putOn u683 u438 u439 u8 u440 rfl rfl rfl (Nat.le_of_ble_eq_true rfl) (Nat.le_of_ble_eq_true rfl) rfl (Nat.le_of_ble_eq_true rfl) dX6_tellHire_86) hH (fun H locs hH => ?_)
          refine lv_iconst (v := (1 : Int32)) G.x G.b dX6_tellHire_89 (by decide) ?_
          exact z_retZ G hr hlk hH h dX6_tellHire_90
        · have h := z_ifn c11 h
          refine lv_iconst (v := (0 : Int32)) G.x G.b dX6_tellHire_75 (by decide) ?_
          exact z_retZ G hr hlk hH h dX6_tellHire_76
    · have h := z_ifn c5 h
      refine lv_iconst (v := (0 : Int32)) G.x G.b dX6_tellHire_36 (by decide) ?_
      exact z_retZ G hr hlk hH h dX6_tellHire_37
def bX6_tellItem_2 (M0 : zM) (E36_1 : Option (Int32 × zM)) (rc16 : Int32 → Option (Int32 × zM)) (x15 : Int32) : Option (Int32 × zM) :=
  if (6 : Int32) ≤ x15 then (E36_1) else ((zix x15 6).bind fun j18 =>
  (fX6_isWord M0 j18).bind fun x19 =>
  if x19 = (0 : Int32) then ((some (x15 + (1 : Int32))).bind fun x21 =>
  rc16 x21) else (zb2 (fX6_tellBeard M0 x15) fun x22 M23 =>
  (zbl x22).bind (fun v => some (v, M23))))
def lX6_tellItem_2 (M0 : zM) (E36_1 : Option (Int32 × zM)) : Nat → Int32 → Option (Int32 × zM) := zL1 (bX6_tellItem_2 M0 E36_1)
def fX6_tellItem (M0 : zM) : Option (Int32 × zM) :=
  zj ((fX6_isWord M0 6).bind fun x2 =>
  if x2 = (0 : Int32) then ((fX6_isWord M0 7).bind fun x4 =>
  if x4 = (0 : Int32) then ((fX6_isWord M0 8).bind fun x6 =>
  if x6 = (0 : Int32) then ((zbl (0 : Int32)).bind (fun v => some (v, M0))) else (zb2 (fX6_tellHire M0) fun x8 M9 =>
  if x8 = (0 : Int32) then ((zbl (0 : Int32)).bind (fun v => some (v, M9))) else ((zbl (1 : Int32)).bind (fun v => some (v, M9))))) else (zb2 (fX6_tellHouse M0) fun x11 M12 =>
  (zbl x11).bind (fun v => some (v, M12)))) else (zb2 (fX6_tellWearer M0) fun x13 M14 =>
  (zbl x13).bind (fun v => some (v, M14)))) fun E36_1 =>
  lX6_tellItem_2 M0 E36_1 zFuel (0 : Int32)
abbrev rX6_tellItem : Room := { frames := 6, cells := 0, slots := 0, locals := 130 }
theorem arX6_tellItem : zAr yX6_tellItem RX6 0 := ⟨rfl, by decide, by decide, by decide +kernel⟩
set_option maxHeartbeats 4000000 in
theorem kX6_tellItem (l : Launch) {w : zWd} (hw : zIsC w) {M0 M' : zM} {r : Int32} (h : fX6_tellItem M0 = some (r, M')) : Met l yX6_tellItem (Cond.code yX6_tellItem cX6_tellItem 2 (some .boolean) :: zU) rX6_tellItem (zPre w M0 [.ref (za w 31)]) (zQ w (some (.int r)) M') 0 0 (zA w) := by
  refine z_metN (own := RX6) (lv := [(0, .ref (za w 31))]) hw.1 (by decide) (Nat.le_of_ble_eq_true rfl) rfl rfl ?_
  intro p e s m args below meth c G hr hlk hH ls hl
  unfold fX6_tellItem at h
  refine lv_iconst (v := (0 : Int32)) G.x G.b dX6_tellItem_0 (by decide) ?_
  refine lv_istore_n (lv' := [(1, .int (0 : Int32)), (0, .ref (za w 31))]) G.x G.b dX6_tellItem_1 rfl hl (Nat.le_of_ble_eq_true rfl) rfl (fun ls hl => ?_)
  obtain ⟨E36_1, hE36_1, h⟩ := z_j h
  have kE36_1 : ∀ (ls : Array Slot), E36_1 = some (r, M') → lv_has ls 2 [(0, .ref (za w 31))] → zGo p l e rX6_tellItem s m args below meth c (zQ w (some (.int r)) M') (zA w) s.heap [] (F0 m 36 ls []) := by
    intro ls h hl
    rw [hE36_1] at h
    refine lv_aload_n G.x G.b dX6_tellItem_36 rfl (lv_at hl 0 rfl) ?_
    refine va_ldcS (q := za w (100 + 6)) G.x G.b G.o ((cE hw G.e).2.1 6 (by decide)) dX6_tellItem_37 ?_
    obtain ⟨x2, ex2, h⟩ := z_bind h
    refine z_rdI (z_runV (k := 31) (As := [.ref (za w (100 + 6))]) (rest := []) G hH hl.1 (kX6_isWord l hw (by decide) ex2) (cC31 hw) vc6 arX6_isWord u597 u599 us7 u9 u600 rfl rfl rfl (Nat.le_of_ble_eq_true rfl) (Nat.le_of_ble_eq_true rfl) rfl (Nat.le_of_ble_eq_true rfl) dX6_tellItem_39) ?_
    refine lv_if_eq (tgt := 50) G.x G.b dX6_tellItem_42 (by decide) (fun c3 => ?_) (fun c3 => ?_)
    · have h := z_if c3 h
      refine lv_aload_n G.x G.b dX6_tellItem_50 rfl (lv_at hl 0 rfl) ?_
      refine va_ldcS (q := za w (100 + 7)) G.x G.b G.o ((cE hw G.e).2.1 7 (by decide)) dX6_tellItem_51 ?_
      obtain ⟨x4, ex4, h⟩ := z_bind h
      refine z_rdI (z_runV (k := 31) (As := [.ref (za w (100 + 7))]) (rest := []) G hH hl.1 (kX6_isWord l hw (by decide) ex4) (cC31 hw) vc6 arX6_isWord u597 u599 us7 u9 u600 rfl rfl rfl (Nat.le_of_ble_eq_true rfl) (Nat.le_of_ble_eq_true rfl) rfl (Nat.le_of_ble_eq_true rfl) dX6_tellItem_53) ?_
      refine lv_if_eq (tgt := 64) G.x G.b dX6_tellItem_56 (by decide) (fun c5 => ?_) (fun c5 => ?_)
      · have h := z_if c5 h
        refine lv_aload_n G.x G.b dX6_tellItem_64 rfl (lv_at hl 0 rfl) ?_
        refine va_ldcS (q := za w (100 + 8)) G.x G.b G.o ((cE hw G.e).2.1 8 (by decide)) dX6_tellItem_65 ?_
        obtain ⟨x6, ex6, h⟩ := z_bind h
        refine z_rdI (z_runV (k := 31) (As := [.ref (za w (100 + 8))]) (rest := []) G hH hl.1 (kX6_isWord l hw (by decide) ex6) (cC31 hw) vc6 arX6_isWord u597 u599 us7 u9 u600 rfl rfl rfl (Nat.le_of_ble_eq_true rfl) (Nat.le_of_ble_eq_true rfl) rfl (Nat.le_of_ble_eq_true rfl) dX6_tellItem_67) ?_
        refine lv_if_eq (tgt := 84) G.x G.b dX6_tellItem_70 (by decide) (fun c7 => ?_) (fun c7 => ?_)
        · have h := z_if c7 h
          refine lv_iconst (v := (0 : Int32)) G.x G.b dX6_tellItem_84 (by decide) ?_
          exact z_retZ G hr hlk hH h dX6_tellItem_85
        · have h := z_ifn c7 h
          refine lv_aload_n G.x G.b dX6_tellItem_73 rfl (lv_at hl 0 rfl) ?_
          obtain ⟨x8, M9, eM9, h⟩ := z_b2 h
          refine z_aftI (z_runV (k := 31) (As := []) (rest := []) G hH hl.1 (kX6_tellHire l hw eM9) (cC31 hw) vc6 arX6_tellHire u679 u681 us13 u9 u682 rfl rfl rfl (Nat.le_of_ble_eq_true rfl) (Nat.le_of_ble_eq_true rfl) rfl (Nat.le_of_ble_eq_true rfl) dX6_tellItem_74) hH (fun H locs hH => ?_)
          refine lv_if_eq (tgt := 84) G.x G.b dX6_tellItem_77 (by decide) (fun c10 => ?_) (fun c10 => ?_)
          · have h := z_if c10 h
            refine lv_iconst (v := (0 : Int32)) G.x G.b dX6_tellItem_84 (by decide) ?_
            exact z_retZ G hr hlk hH h dX6_tellItem_85
          · have h := z_ifn c10 h
            refine lv_iconst (v := (1 : Int32)) G.x G.b dX6_tellItem_80 (by decide) ?_
            refine lv_goto (tgt := 85) G.x G.b dX6_tellItem_81 (by decide) ?_
            exact z_retZ G hr hlk hH h dX6_tellItem_85
      · have h := z_ifn c5 h
        refine lv_aload_n G.x G.b dX6_tellItem_59 rfl (lv_at hl 0 rfl) ?_
        obtain ⟨x11, M12, eM12, h⟩ := z_b2 h
        refine z_aftI (z_runV (k := 31) (As := []) (rest := []) G hH hl.1 (kX6_tellHouse l hw eM12) (cC31 hw) vc6 arX6_tellHouse u672 u674 us12 u9 u675 rfl rfl rfl (Nat.le_of_ble_eq_true rfl) (Nat.le_of_ble_eq_true rfl) rfl (Nat.le_of_ble_eq_true rfl) dX6_tellItem_60) hH (fun H locs hH => ?_)
        exact z_retZ G hr hlk hH h dX6_tellItem_63
    · have h := z_ifn c3 h
      refine lv_aload_n G.x G.b dX6_tellItem_45 rfl (lv_at hl 0 rfl) ?_
      obtain ⟨x13, M14, eM14, h⟩ := z_b2 h
      refine z_aftI (z_runV (k := 31) (As := []) (rest := []) G hH hl.1 (kX6_tellWearer l hw eM14) (cC31 hw) vc6 arX6_tellWearer u665 u667 us11 u9 u668 rfl rfl rfl (Nat.le_of_ble_eq_true rfl) (Nat.le_of_ble_eq_true rfl) rfl (Nat.le_of_ble_eq_true rfl) dX6_tellItem_46) hH (fun H locs hH => ?_)
      exact z_retZ G hr hlk hH h dX6_tellItem_49
  have n16 : ∀ (n : Nat) (x15 : Int32) (ls : Array Slot), zL1 (bX6_tellItem_2 M0 E36_1) n x15 = some (r, M') → lv_has ls 2 [(0, .ref (za w 31)), (1, .int x15)] → zGo p l e rX6_tellItem s m args below meth c (zQ w (some (.int r)) M') (zA w) s.heap [] (F0 m 2 ls []) := by
    intro n
    induction n with
    | zero => intro x15 ls h; exact (zL1_0 h).elim
    | succ n ih16 =>
      intro x15 ls h hl
      obtain ⟨rc16, hrc16, h⟩ := zL1_s h
      rw [← hrc16] at ih16
      unfold bX6_tellItem_2 at h
      refine lv_iload_n G.x G.b dX6_tellItem_2 rfl (lv_at hl 1 rfl) ?_
      refine lv_bipush (v := (6 : Int32)) G.x G.b dX6_tellItem_3 (by decide) ?_
      refine lv_icmp_ge (tgt := 36) G.x G.b dX6_tellItem_5 (by decide) (fun c17 => ?_) (fun c17 => ?_)
      · have h := z_if c17 h
        exact kE36_1 ls h (lv_sub hl [0] rfl)
      · have h := z_ifn c17 h
        refine lv_aload_n G.x G.b dX6_tellItem_8 rfl (lv_at hl 0 rfl) ?_
        refine lv_aload_n G.x G.b dX6_tellItem_9 rfl (lv_at hl 0 rfl) ?_
        refine z_get (v := .ref (za w 35)) (k := 31) G hH.1 (cC31 hw) vc6 inU6 0 (by decide) u143 rfl dX6_tellItem_10 ?_
        refine lv_iload_n G.x G.b dX6_tellItem_13 rfl (lv_at hl 1 rfl) ?_
        obtain ⟨j18, ej18, h⟩ := z_bind h
        refine z_aald (k := 35) G hH.1 (cC35 hw) ej18 dX6_tellItem_14 ?_
        refine z_rdA (q_title (rest := [.ref (za w 31)]) G hH hl.1 hw (zix_lt ej18) u571 (Nat.le_of_ble_eq_true rfl) (Nat.le_of_ble_eq_true rfl) (Nat.le_of_ble_eq_true rfl) dX6_tellItem_15) ?_
        obtain ⟨x19, ex19, h⟩ := z_bind h
        refine z_rdI (z_runV (k := 31) (As := [.ref (za w (100 + j18))]) (rest := []) G hH hl.1 (kX6_isWord l hw (Nat.lt_of_lt_of_le (zix_lt ej18) (by decide)) ex19) (cC31 hw) vc6 arX6_isWord u597 u599 us7 u9 u600 rfl rfl rfl (Nat.le_of_ble_eq_true rfl) (Nat.le_of_ble_eq_true rfl) rfl (Nat.le_of_ble_eq_true rfl) dX6_tellItem_18) ?_
        refine lv_if_eq (tgt := 30) G.x G.b dX6_tellItem_21 (by decide) (fun c20 => ?_) (fun c20 => ?_)
        · have h := z_if c20 h
          obtain ⟨x21, ex21, h⟩ := z_let h
          refine lv_iinc (v := x21) (lv' := [(1, .int x21), (0, .ref (za w 31))]) G.x G.b dX6_tellItem_30 hl (k := 1) rfl (by rw [ex21]; rfl) (Nat.le_of_ble_eq_true rfl) rfl (fun ls hl => ?_)
          refine lv_goto (tgt := 2) G.x G.b dX6_tellItem_33 (by decide) ?_
          exact ih16 x21 ls h (lv_sub hl [1, 0] rfl)
        · have h := z_ifn c20 h
          refine lv_aload_n G.x G.b dX6_tellItem_24 rfl (lv_at hl 0 rfl) ?_
          refine lv_iload_n G.x G.b dX6_tellItem_25 rfl (lv_at hl 1 rfl) ?_
          obtain ⟨x22, M23, eM23, h⟩ := z_b2 h
          refine z_aftI (z_runV (k := 31) (As := [.int x15]) (rest := []) G hH hl.1 (kX6_tellBeard l hw eM23) (cC31 hw) vc6 arX6_tellBeard u649 u651 us8 u9 u652 rfl rfl rfl (Nat.le_of_ble_eq_true rfl) (Nat.le_of_ble_eq_true rfl) rfl (Nat.le_of_ble_eq_true rfl) dX6_tellItem_26) hH (fun H locs hH => ?_)
          exact z_retZ G hr hlk hH h dX6_tellItem_29
  exact n16 zFuel (0 : Int32) ls h (lv_sub hl [1, 0] rfl)
def bX6_tellAll_11 (E57_4 : zM → Option (Int32 × zM)) (rc7 : zM → Int32 → Option (Int32 × zM)) (M5 : zM) (x6 : Int32) : Option (Int32 × zM) :=
  if (120 : Int32) < x6 then (E57_4 M5) else (zb2 (fX6_tellItem M5) fun x9 M10 =>
  if x9 = (0 : Int32) then (E57_4 M10) else (if (M10.1 31 4) = (0 : Int32) then (some (x6, M10)) else (if (M10.1 31 4) = (3 : Int32) then ((fX6_advance M10).bind fun M14 =>
  (some (x6 + (1 : Int32))).bind fun x15 =>
  rc7 M14 x15) else (E57_4 M10))))
def lX6_tellAll_11 (E57_4 : zM → Option (Int32 × zM)) : Nat → zM → Int32 → Option (Int32 × zM) := zL2 (bX6_tellAll_11 E57_4)
def fX6_tellAll (M0 : zM) : Option (Int32 × zM) :=
  (some (zst M0 31 6 (0 : Int32))).bind fun M1 =>
  (fX6_advance M1).bind fun M2 =>
  zj (fun (M3 : zM) =>
  some (((-1 : Int32) - (M3.1 31 5)), M3)) fun E57_4 =>
  lX6_tellAll_11 E57_4 zFuel M2 (1 : Int32)
abbrev rX6_tellAll : Room := { frames := 7, cells := 0, slots := 0, locals := 151 }
theorem arX6_tellAll : zAr yX6_tellAll RX6 0 := ⟨rfl, by decide, by decide, by decide +kernel⟩
set_option maxHeartbeats 4000000 in
theorem kX6_tellAll (l : Launch) {w : zWd} (hw : zIsC w) {M0 M' : zM} {r : Int32} (h : fX6_tellAll M0 = some (r, M')) : Met l yX6_tellAll (Cond.code yX6_tellAll cX6_tellAll 2 (some .int) :: zU) rX6_tellAll (zPre w M0 [.ref (za w 31)]) (zQ w (some (.int r)) M') 0 0 (zA w) := by
  refine z_metN (own := RX6) (lv := [(0, .ref (za w 31))]) hw.1 (by decide) (Nat.le_of_ble_eq_true rfl) rfl rfl ?_
  intro p e s m args below meth c G hr hlk hH ls hl
  unfold fX6_tellAll at h
  refine lv_aload_n G.x G.b dX6_tellAll_0 rfl (lv_at hl 0 rfl) ?_
  refine lv_iconst (v := (0 : Int32)) G.x G.b dX6_tellAll_1 (by decide) ?_
  obtain ⟨M1, eM1, h⟩ := z_let h
  refine z_putN (k := 31) G hH (cC31 hw) vc6 inU6 tyX6 tyX6_ok nmX6 6 (by decide) u150 rfl (ty := .int) rfl rfl rfl cP6_6 (Nat.le_of_ble_eq_true rfl) dX6_tellAll_2 eM1 (fun H locs hH => ?_)
  refine lv_aload_n G.x G.b dX6_tellAll_5 rfl (lv_at hl 0 rfl) ?_
  obtain ⟨M2, eM2, h⟩ := z_bind h
  refine z_aftV (z_runV (k := 31) (As := []) (rest := []) G hH hl.1 (kX6_advance l hw eM2) (cC31 hw) vc6 arX6_advance u556 u558 us5 u9 u559 rfl rfl rfl (Nat.le_of_ble_eq_true rfl) (Nat.le_of_ble_eq_true rfl) rfl (Nat.le_of_ble_eq_true rfl) dX6_tellAll_6) hH (fun H locs hH => ?_)
  refine lv_iconst (v := (1 : Int32)) G.x G.b dX6_tellAll_9 (by decide) ?_
  refine lv_istore_n (lv' := [(1, .int (1 : Int32)), (0, .ref (za w 31))]) G.x G.b dX6_tellAll_10 rfl hl (Nat.le_of_ble_eq_true rfl) rfl (fun ls hl => ?_)
  obtain ⟨E57_4, hE57_4, h⟩ := z_j h
  have kE57_4 : ∀ (M3 : zM) (H : Heap) (locs : List Loc) (ls : Array Slot), E57_4 M3 = some (r, M') → zH w s M3 H locs → lv_has ls 2 [(0, .ref (za w 31))] → zGo p l e rX6_tellAll s m args below meth c (zQ w (some (.int r)) M') (zA w) H locs (F0 m 57 ls []) := by
    intro M3 H locs ls h hH hl
    rw [hE57_4] at h
    refine lv_iconst (v := (-1 : Int32)) G.x G.b dX6_tellAll_57 (by decide) ?_
    refine lv_aload_n G.x G.b dX6_tellAll_58 rfl (lv_at hl 0 rfl) ?_
    refine z_get (v := .int (M3.1 31 5)) (k := 31) G hH.1 (cC31 hw) vc6 inU6 5 (by decide) u149 rfl dX6_tellAll_59 ?_
    refine lv_isub G.x G.b dX6_tellAll_62 ?_
    exact z_retI G hr hlk hH h dX6_tellAll_63
  have n7 : ∀ (n : Nat) (M5 : zM) (x6 : Int32) (H : Heap) (locs : List Loc) (ls : Array Slot), zL2 (bX6_tellAll_11 E57_4) n M5 x6 = some (r, M') → zH w s M5 H locs → lv_has ls 2 [(0, .ref (za w 31)), (1, .int x6)] → zGo p l e rX6_tellAll s m args below meth c (zQ w (some (.int r)) M') (zA w) H locs (F0 m 11 ls []) := by
    intro n
    induction n with
    | zero => intro M5 x6 H locs ls h; exact (zL2_0 h).elim
    | succ n ih7 =>
      intro M5 x6 H locs ls h hH hl
      obtain ⟨rc7, hrc7, h⟩ := zL2_s h
      rw [← hrc7] at ih7
      unfold bX6_tellAll_11 at h
      refine lv_iload_n G.x G.b dX6_tellAll_11 rfl (lv_at hl 1 rfl) ?_
      refine lv_bipush (v := (120 : Int32)) G.x G.b dX6_tellAll_12 (by decide) ?_
      refine lv_icmp_gt (tgt := 57) G.x G.b dX6_tellAll_14 (by decide) (fun c8 => ?_) (fun c8 => ?_)
      · have h := z_if c8 h
        exact kE57_4 M5 H locs ls h hH (lv_sub hl [0] rfl)
      · have h := z_ifn c8 h
        refine lv_aload_n G.x G.b dX6_tellAll_17 rfl (lv_at hl 0 rfl) ?_
        obtain ⟨x9, M10, eM10, h⟩ := z_b2 h
        refine z_aftI (z_runV (k := 31) (As := []) (rest := []) G hH hl.1 (kX6_tellItem l hw eM10) (cC31 hw) vc6 arX6_tellItem u567 u569 us6 u9 u570 rfl rfl rfl (Nat.le_of_ble_eq_true rfl) (Nat.le_of_ble_eq_true rfl) rfl (Nat.le_of_ble_eq_true rfl) dX6_tellAll_18) hH (fun H locs hH => ?_)
        refine lv_if_ne (tgt := 27) G.x G.b dX6_tellAll_21 (by decide) (fun c11 => ?_) (fun c11 => ?_)
        · have h := z_ifn c11 h
          refine lv_aload_n G.x G.b dX6_tellAll_27 rfl (lv_at hl 0 rfl) ?_
          refine z_get (v := .int (M10.1 31 4)) (k := 31) G hH.1 (cC31 hw) vc6 inU6 4 (by decide) u148 rfl dX6_tellAll_28 ?_
          refine lv_if_ne (tgt := 36) G.x G.b dX6_tellAll_31 (by decide) (fun c12 => ?_) (fun c12 => ?_)
          · have h := z_ifn c12 h
            refine lv_aload_n G.x G.b dX6_tellAll_36 rfl (lv_at hl 0 rfl) ?_
            refine z_get (v := .int (M10.1 31 4)) (k := 31) G hH.1 (cC31 hw) vc6 inU6 4 (by decide) u148 rfl dX6_tellAll_37 ?_
            refine lv_iconst (v := (3 : Int32)) G.x G.b dX6_tellAll_40 (by decide) ?_
            refine lv_icmp_eq (tgt := 47) G.x G.b dX6_tellAll_41 (by decide) (fun c13 => ?_) (fun c13 => ?_)
            · have h := z_if c13 h
              refine lv_aload_n G.x G.b dX6_tellAll_47 rfl (lv_at hl 0 rfl) ?_
              obtain ⟨M14, eM14, h⟩ := z_bind h
              refine z_aftV (z_runV (k := 31) (As := []) (rest := []) G hH hl.1 (kX6_advance l hw eM14) (cC31 hw) vc6 arX6_advance u556 u558 us5 u9 u559 rfl rfl rfl (Nat.le_of_ble_eq_true rfl) (Nat.le_of_ble_eq_true rfl) rfl (Nat.le_of_ble_eq_true rfl) dX6_tellAll_48) hH (fun H locs hH => ?_)
              obtain ⟨x15, ex15, h⟩ := z_let h
              refine lv_iinc (v := x15) (lv' := [(1, .int x15), (0, .ref (za w 31))]) G.x G.b dX6_tellAll_51 hl (k := 1) rfl (by rw [ex15]; rfl) (Nat.le_of_ble_eq_true rfl) rfl (fun ls hl => ?_)
              refine lv_goto (tgt := 11) G.x G.b dX6_tellAll_54 (by decide) ?_
              exact ih7 M14 x15 H locs ls h hH (lv_sub hl [1, 0] rfl)
            · have h := z_ifn c13 h
              refine lv_goto (tgt := 57) G.x G.b dX6_tellAll_44 (by decide) ?_
              exact kE57_4 M10 H locs ls h hH (lv_sub hl [0] rfl)
          · have h := z_if c12 h
            refine lv_iload_n G.x G.b dX6_tellAll_34 rfl (lv_at hl 1 rfl) ?_
            exact z_retI G hr hlk hH h dX6_tellAll_35
        · have h := z_if c11 h
          refine lv_goto (tgt := 57) G.x G.b dX6_tellAll_24 (by decide) ?_
          exact kE57_4 M10 H locs ls h hH (lv_sub hl [0] rfl)
  exact n7 zFuel M2 (1 : Int32) H locs ls h hH (lv_sub hl [1, 0] rfl)
