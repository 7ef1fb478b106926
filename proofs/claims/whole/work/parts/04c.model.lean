def bX10_enough_62 (a1 : Int32) (a2 : Int32) (x7 : Int32) (x9 : Int32) (E108_14 : zM → Int32 → Option (Int32 × zM)) (rc23 : zM → Int32 → Int32 → Option (Int32 × zM)) (M20 : zM) (x21 : Int32) (x22 : Int32) : Option (Int32 × zM) :=
  if (2000 : Int32) < x22 then (E108_14 M20 x21) else (if (0 : Int32) ≤ x21 then (E108_14 M20 x21) else ((zix x9 59).bind fun j26 =>
  (some (zst M20 1 j26 x22)).bind fun M27 =>
  zb2 (fX10_wornBehind M27 a1 a2) fun x28 M29 =>
  zj (fun (x30 : Int32) =>
  (some (x22 + (10 : Int32))).bind fun x32 =>
  rc23 M29 x30 x32) fun J100_31 =>
  if x28 = x7 then (J100_31 x22) else (J100_31 (-1 : Int32))))
def lX10_enough_62 (a1 : Int32) (a2 : Int32) (x7 : Int32) (x9 : Int32) (E108_14 : zM → Int32 → Option (Int32 × zM)) : Nat → zM → Int32 → Int32 → Option (Int32 × zM) := zL3 (bX10_enough_62 a1 a2 x7 x9 E108_14)
def fX10_enough (M0 : zM) (a1 : Int32) (a2 : Int32) : Option (Int32 × zM) :=
  (fX10_isWearer M0 a1).bind fun x1 =>
  if x1 = (0 : Int32) then (zb2 (fX10_finds M0 (-1000000001 : Int32)) fun x3 M4 =>
  some (x3, M4)) else ((fX10_isSoon a2).bind fun x5 =>
  if x5 = (0 : Int32) then (zb2 (fX10_finds M0 (-1000000001 : Int32)) fun x36 M37 =>
  some (x36, M37)) else ((fX10_wornBy M0 a1).bind fun x7 =>
  if x7 = (-1 : Int32) then (zb2 (fX10_finds M0 (-1000000005 : Int32)) fun x34 M35 =>
  some (x34, M35)) else ((fX10_wearerSpot a1 (0 : Int32)).bind fun x9 =>
  (zix x9 59).bind fun j10 =>
  (some (M0.1 1 j10)).bind fun x11 =>
  zj (fun (M12 : zM) (x13 : Int32) =>
  (zix x9 59).bind fun j15 =>
  (some (zst M12 1 j15 x11)).bind fun M16 =>
  if (0 : Int32) ≤ x13 then (some (x13, M16)) else (zb2 (fX10_finds M16 (-1000000004 : Int32)) fun x18 M19 =>
  some (x18, M19))) fun E108_14 =>
  lX10_enough_62 a1 a2 x7 x9 E108_14 zFuel M0 (-1 : Int32) (0 : Int32))))
abbrev rX10_enough : Room := { frames := 8, cells := 0, slots := 0, locals := 184 }
theorem arX10_enough : zAr yX10_enough RX10 2 := ⟨rfl, by decide, by decide, by decide +kernel⟩
set_option maxHeartbeats 4000000 in
theorem kX10_enough (l : Launch) {w : zWd} (hw : zIsM w) {M0 M' : zM} {a1 : Int32} {a2 : Int32} {r : Int32} (h : fX10_enough M0 a1 a2 = some (r, M')) : Met l yX10_enough (Cond.code yX10_enough cX10_enough 8 (some .int) :: zU) rX10_enough (zPre w M0 [.ref (za w 0), .int a1, .int a2]) (zQ w (some (.int r)) M') 0 0 (zA w) := by
  refine z_metN (own := RX10) (lv := [(0, .ref (za w 0)), (1, .int a1), (2, .int a2)]) hw.1 (by decide) (Nat.le_of_ble_eq_true rfl) rfl rfl ?_
  intro p e s m args below meth c G hr hlk hH ls hl
  unfold fX10_enough at h
  refine lv_aload_n G.x G.b dX10_enough_0 rfl (lv_at hl 0 rfl) ?_
  refine lv_iload_n G.x G.b dX10_enough_1 rfl (lv_at hl 1 rfl) ?_
  obtain ⟨x1, ex1, h⟩ := z_bind h
  refine z_rdI (z_runV (k := 0) (As := [.int a1]) (rest := []) G hH hl.1 (kX10_isWearer l hw ex1) (mM0 hw) vc10 arX10_isWearer u964 u966 us33 u11 u967 rfl rfl rfl (Nat.le_of_ble_eq_true rfl) (Nat.le_of_ble_eq_true rfl) rfl (Nat.le_of_ble_eq_true rfl) dX10_enough_2) ?_
  refine lv_if_eq (tgt := 15) G.x G.b dX10_enough_5 (by decide) (fun c2 => ?_) (fun c2 => ?_)
  · have h := z_if c2 h
    refine lv_aload_n G.x G.b dX10_enough_15 rfl (lv_at hl 0 rfl) ?_
    refine lv_ldc G.x G.b G.o (G.t u833) dX10_enough_16 ?_
    obtain ⟨x3, M4, eM4, h⟩ := z_b2 h
    refine z_aftI (z_runV (k := 0) (As := [.int (-1000000001 : Int32)]) (rest := []) G hH hl.1 (kX10_finds l hw eM4) (mM0 hw) vc10 arX10_finds u834 u836 us16 u11 u837 rfl rfl rfl (Nat.le_of_ble_eq_true rfl) (Nat.le_of_ble_eq_true rfl) rfl (Nat.le_of_ble_eq_true rfl) dX10_enough_18) hH (fun H locs hH => ?_)
    exact z_retI G hr hlk hH h dX10_enough_21
  · have h := z_ifn c2 h
    refine lv_iload_n G.x G.b dX10_enough_8 rfl (lv_at hl 2 rfl) ?_
    obtain ⟨x5, ex5, h⟩ := z_bind h
    refine z_rdI (z_runS (As := [.int a2]) (rest := []) G hH hl.1 (kX10_isSoon l hw.1 ex5) arX10_isSoon u1060 u1061 u11 u1062 rfl rfl rfl (Nat.le_of_ble_eq_true rfl) (Nat.le_of_ble_eq_true rfl) rfl (Nat.le_of_ble_eq_true rfl) dX10_enough_9) ?_
    refine lv_if_ne (tgt := 22) G.x G.b dX10_enough_12 (by decide) (fun c6 => ?_) (fun c6 => ?_)
    · have h := z_ifn c6 h
      refine lv_aload_n G.x G.b dX10_enough_22 rfl (lv_at hl 0 rfl) ?_
      refine lv_iload_n G.x G.b dX10_enough_23 rfl (lv_at hl 1 rfl) ?_
      obtain ⟨x7, ex7, h⟩ := z_bind h
      refine z_rdI (z_runV (k := 0) (As := [.int a1]) (rest := []) G hH hl.1 (kX10_wornBy l hw ex7) (mM0 hw) vc10 arX10_wornBy u969 u971 us34 u11 u972 rfl rfl rfl (Nat.le_of_ble_eq_true rfl) (Nat.le_of_ble_eq_true rfl) rfl (Nat.le_of_ble_eq_true rfl) dX10_enough_24) ?_
      refine lv_istore_n (lv' := [(3, .int x7), (0, .ref (za w 0)), (1, .int a1), (2, .int a2)]) G.x G.b dX10_enough_27 rfl hl (Nat.le_of_ble_eq_true rfl) rfl (fun ls hl => ?_)
      refine lv_iload_n G.x G.b dX10_enough_28 rfl (lv_at hl 0 rfl) ?_
      refine lv_iconst (v := (-1 : Int32)) G.x G.b dX10_enough_29 (by decide) ?_
      refine lv_icmp_ne (tgt := 40) G.x G.b dX10_enough_30 (by decide) (fun c8 => ?_) (fun c8 => ?_)
      · have h := z_ifn c8 h
        refine lv_iload_n G.x G.b dX10_enough_40 rfl (lv_at hl 2 rfl) ?_
        refine lv_iconst (v := (0 : Int32)) G.x G.b dX10_enough_41 (by decide) ?_
        obtain ⟨x9, ex9, h⟩ := z_bind h
        refine z_rdI (z_runS (As := [.int a1, .int (0 : Int32)]) (rest := []) G hH hl.1 (kX10_wearerSpot l hw.1 ex9) arX10_wearerSpot u867 u868 u11 u869 rfl rfl rfl (Nat.le_of_ble_eq_true rfl) (Nat.le_of_ble_eq_true rfl) rfl (Nat.le_of_ble_eq_true rfl) dX10_enough_42) ?_
        refine lv_istore (lv' := [(4, .int x9), (3, .int x7), (0, .ref (za w 0)), (1, .int a1), (2, .int a2)]) G.x G.b dX10_enough_45 hl (Nat.le_of_ble_eq_true rfl) rfl (fun ls hl => ?_)
        refine lv_aload_n G.x G.b dX10_enough_47 rfl (lv_at hl 2 rfl) ?_
        refine z_get (v := .ref (za w 1)) (k := 0) G hH.1 (mM0 hw) vc10 inU10 0 (by decide) u767 rfl dX10_enough_48 ?_
        refine lv_iload G.x G.b dX10_enough_51 (lv_at hl 0 rfl) ?_
        obtain ⟨j10, ej10, h⟩ := z_bind h
        refine z_iald (k := 1) G hH.1 (mM1 hw) ej10 dX10_enough_53 ?_
        obtain ⟨x11, ex11, h⟩ := z_let h
        refine z_nmI ex11 ?_
        refine lv_istore (lv' := [(5, .int x11), (4, .int x9), (3, .int x7), (0, .ref (za w 0)), (1, .int a1), (2, .int a2)]) G.x G.b dX10_enough_54 hl (Nat.le_of_ble_eq_true rfl) rfl (fun ls hl => ?_)
        refine lv_iconst (v := (-1 : Int32)) G.x G.b dX10_enough_56 (by decide) ?_
        refine lv_istore (lv' := [(6, .int (-1 : Int32)), (5, .int x11), (4, .int x9), (3, .int x7), (0, .ref (za w 0)), (1, .int a1), (2, .int a2)]) G.x G.b dX10_enough_57 hl (Nat.le_of_ble_eq_true rfl) rfl (fun ls hl => ?_)
        refine lv_iconst (v := (0 : Int32)) G.x G.b dX10_enough_59 (by decide) ?_
        refine lv_istore (lv' := [(7, .int (0 : Int32)), (6, .int (-1 : Int32)), (5, .int x11), (4, .int x9), (3, .int x7), (0, .ref (za w 0)), (1, .int a1), (2, .int a2)]) G.x G.b dX10_enough_60 hl (Nat.le_of_ble_eq_true rfl) rfl (fun ls hl => ?_)
        obtain ⟨E108_14, hE108_14, h⟩ := z_j h
        have kE108_14 : ∀ (M12 : zM) (x13 : Int32) (H : Heap) (locs : List Loc) (ls : Array Slot), E108_14 M12 x13 = some (r, M') → zH w s M12 H locs → lv_has ls 8 [(0, .ref (za w 0)), (4, .int x9), (5, .int x11), (6, .int x13)] → zGo p l e rX10_enough s m args below meth c (zQ w (some (.int r)) M') (zA w) H locs (F0 m 108 ls []) := by
          intro M12 x13 H locs ls h hH hl
          rw [hE108_14] at h
          refine lv_aload_n G.x G.b dX10_enough_108 rfl (lv_at hl 0 rfl) ?_
          refine z_get (v := .ref (za w 1)) (k := 0) G hH.1 (mM0 hw) vc10 inU10 0 (by decide) u767 rfl dX10_enough_109 ?_
          refine lv_iload G.x G.b dX10_enough_112 (lv_at hl 1 rfl) ?_
          refine lv_iload G.x G.b dX10_enough_114 (lv_at hl 2 rfl) ?_
          obtain ⟨j15, ej15, h⟩ := z_bind h
          obtain ⟨M16, eM16, h⟩ := z_let h
          refine z_iastN (k := 1) G hH (mM1 hw) ej15 dX10_enough_116 eM16 (fun H locs hH => ?_)
          refine lv_iload G.x G.b dX10_enough_117 (lv_at hl 3 rfl) ?_
          refine lv_if_ge (tgt := 131) G.x G.b dX10_enough_119 (by decide) (fun c17 => ?_) (fun c17 => ?_)
          · have h := z_if c17 h
            refine lv_iload G.x G.b dX10_enough_131 (lv_at hl 3 rfl) ?_
            exact z_retI G hr hlk hH h dX10_enough_133
          · have h := z_ifn c17 h
            refine lv_aload_n G.x G.b dX10_enough_122 rfl (lv_at hl 0 rfl) ?_
            refine lv_ldc G.x G.b G.o (G.t u1051) dX10_enough_123 ?_
            obtain ⟨x18, M19, eM19, h⟩ := z_b2 h
            refine z_aftI (z_runV (k := 0) (As := [.int (-1000000004 : Int32)]) (rest := []) G hH hl.1 (kX10_finds l hw eM19) (mM0 hw) vc10 arX10_finds u834 u836 us16 u11 u837 rfl rfl rfl (Nat.le_of_ble_eq_true rfl) (Nat.le_of_ble_eq_true rfl) rfl (Nat.le_of_ble_eq_true rfl) dX10_enough_125) hH (fun H locs hH => ?_)
            refine lv_goto (tgt := 133) G.x G.b dX10_enough_128 (by decide) ?_
            exact z_retI G hr hlk hH h dX10_enough_133
        have n23 : ∀ (n : Nat) (M20 : zM) (x21 : Int32) (x22 : Int32) (H : Heap) (locs : List Loc) (ls : Array Slot), zL3 (bX10_enough_62 a1 a2 x7 x9 E108_14) n M20 x21 x22 = some (r, M') → zH w s M20 H locs → lv_has ls 8 [(0, .ref (za w 0)), (1, .int a1), (2, .int a2), (3, .int x7), (4, .int x9), (5, .int x11), (6, .int x21), (7, .int x22)] → zGo p l e rX10_enough s m args below meth c (zQ w (some (.int r)) M') (zA w) H locs (F0 m 62 ls []) := by
          intro n
          induction n with
          | zero => intro M20 x21 x22 H locs ls h; exact (zL3_0 h).elim
          | succ n ih23 =>
            intro M20 x21 x22 H locs ls h hH hl
            obtain ⟨rc23, hrc23, h⟩ := zL3_s h
            rw [← hrc23] at ih23
            unfold bX10_enough_62 at h
            refine lv_iload G.x G.b dX10_enough_62 (lv_at hl 7 rfl) ?_
            refine lv_sipush (v := (2000 : Int32)) G.x G.b dX10_enough_64 (by decide) ?_
            refine lv_icmp_gt (tgt := 108) G.x G.b dX10_enough_67 (by decide) (fun c24 => ?_) (fun c24 => ?_)
            · have h := z_if c24 h
              exact kE108_14 M20 x21 H locs ls h hH (lv_sub hl [0, 4, 5, 6] rfl)
            · have h := z_ifn c24 h
              refine lv_iload G.x G.b dX10_enough_70 (lv_at hl 6 rfl) ?_
              refine lv_if_ge (tgt := 108) G.x G.b dX10_enough_72 (by decide) (fun c25 => ?_) (fun c25 => ?_)
              · have h := z_if c25 h
                exact kE108_14 M20 x21 H locs ls h hH (lv_sub hl [0, 4, 5, 6] rfl)
              · have h := z_ifn c25 h
                refine lv_aload_n G.x G.b dX10_enough_75 rfl (lv_at hl 0 rfl) ?_
                refine z_get (v := .ref (za w 1)) (k := 0) G hH.1 (mM0 hw) vc10 inU10 0 (by decide) u767 rfl dX10_enough_76 ?_
                refine lv_iload G.x G.b dX10_enough_79 (lv_at hl 4 rfl) ?_
                refine lv_iload G.x G.b dX10_enough_81 (lv_at hl 7 rfl) ?_
                obtain ⟨j26, ej26, h⟩ := z_bind h
                obtain ⟨M27, eM27, h⟩ := z_let h
                refine z_iastN (k := 1) G hH (mM1 hw) ej26 dX10_enough_83 eM27 (fun H locs hH => ?_)
                refine lv_aload_n G.x G.b dX10_enough_84 rfl (lv_at hl 0 rfl) ?_
                refine lv_iload_n G.x G.b dX10_enough_85 rfl (lv_at hl 1 rfl) ?_
                refine lv_iload_n G.x G.b dX10_enough_86 rfl (lv_at hl 2 rfl) ?_
                obtain ⟨x28, M29, eM29, h⟩ := z_b2 h
                refine z_aftI (z_runV (k := 0) (As := [.int a1, .int a2]) (rest := []) G hH hl.1 (kX10_wornBehind l hw eM29) (mM0 hw) vc10 arX10_wornBehind u1031 u1033 us42 u11 u1034 rfl rfl rfl (Nat.le_of_ble_eq_true rfl) (Nat.le_of_ble_eq_true rfl) rfl (Nat.le_of_ble_eq_true rfl) dX10_enough_87) hH (fun H locs hH => ?_)
                refine lv_iload_n G.x G.b dX10_enough_90 rfl (lv_at hl 3 rfl) ?_
                obtain ⟨J100_31, hJ100_31, h⟩ := z_j h
                have kJ100_31 : ∀ (x30 : Int32) (ls : Array Slot), J100_31 x30 = some (r, M') → lv_has ls 8 [(0, .ref (za w 0)), (1, .int a1), (2, .int a2), (3, .int x7), (4, .int x9), (5, .int x11), (7, .int x22)] → zGo p l e rX10_enough s m args below meth c (zQ w (some (.int r)) M') (zA w) H locs (F0 m 100 ls [.int x30]) := by
                  intro x30 ls h hl
                  rw [hJ100_31] at h
                  refine lv_istore (lv' := [(6, .int x30), (0, .ref (za w 0)), (1, .int a1), (2, .int a2), (3, .int x7), (4, .int x9), (5, .int x11), (7, .int x22)]) G.x G.b dX10_enough_100 hl (Nat.le_of_ble_eq_true rfl) rfl (fun ls hl => ?_)
                  obtain ⟨x32, ex32, h⟩ := z_let h
                  refine lv_iinc (v := x32) (lv' := [(7, .int x32), (6, .int x30), (0, .ref (za w 0)), (1, .int a1), (2, .int a2), (3, .int x7), (4, .int x9), (5, .int x11)]) G.x G.b dX10_enough_102 hl (k := 7) rfl (by rw [ex32]; rfl) (Nat.le_of_ble_eq_true rfl) rfl (fun ls hl => ?_)
                  refine lv_goto (tgt := 62) G.x G.b dX10_enough_105 (by decide) ?_
                  exact ih23 M29 x30 x32 H locs ls h hH (lv_sub hl [2, 3, 4, 5, 6, 7, 1, 0] rfl)
                refine lv_icmp_ne (tgt := 99) G.x G.b dX10_enough_91 (by decide) (fun c33 => ?_) (fun c33 => ?_)
                · have h := z_ifn c33 h
                  refine lv_iconst (v := (-1 : Int32)) G.x G.b dX10_enough_99 (by decide) ?_
                  exact kJ100_31 (-1 : Int32) ls h (lv_sub hl [0, 1, 2, 3, 4, 5, 7] rfl)
                · have h := z_if c33 h
                  refine lv_iload G.x G.b dX10_enough_94 (lv_at hl 7 rfl) ?_
                  refine lv_goto (tgt := 100) G.x G.b dX10_enough_96 (by decide) ?_
                  exact kJ100_31 x22 ls h (lv_sub hl [0, 1, 2, 3, 4, 5, 7] rfl)
        exact n23 zFuel M0 (-1 : Int32) (0 : Int32) s.heap [] ls h hH (lv_sub hl [5, 6, 7, 4, 3, 2, 1, 0] rfl)
      · have h := z_if c8 h
        refine lv_aload_n G.x G.b dX10_enough_33 rfl (lv_at hl 1 rfl) ?_
        refine lv_ldc G.x G.b G.o (G.t u981) dX10_enough_34 ?_
        obtain ⟨x34, M35, eM35, h⟩ := z_b2 h
        refine z_aftI (z_runV (k := 0) (As := [.int (-1000000005 : Int32)]) (rest := []) G hH hl.1 (kX10_finds l hw eM35) (mM0 hw) vc10 arX10_finds u834 u836 us16 u11 u837 rfl rfl rfl (Nat.le_of_ble_eq_true rfl) (Nat.le_of_ble_eq_true rfl) rfl (Nat.le_of_ble_eq_true rfl) dX10_enough_36) hH (fun H locs hH => ?_)
        exact z_retI G hr hlk hH h dX10_enough_39
    · have h := z_if c6 h
      refine lv_aload_n G.x G.b dX10_enough_15 rfl (lv_at hl 0 rfl) ?_
      refine lv_ldc G.x G.b G.o (G.t u833) dX10_enough_16 ?_
      obtain ⟨x36, M37, eM37, h⟩ := z_b2 h
      refine z_aftI (z_runV (k := 0) (As := [.int (-1000000001 : Int32)]) (rest := []) G hH hl.1 (kX10_finds l hw eM37) (mM0 hw) vc10 arX10_finds u834 u836 us16 u11 u837 rfl rfl rfl (Nat.le_of_ble_eq_true rfl) (Nat.le_of_ble_eq_true rfl) rfl (Nat.le_of_ble_eq_true rfl) dX10_enough_18) hH (fun H locs hH => ?_)
      exact z_retI G hr hlk hH h dX10_enough_21
def bX10_please_66 (a1 : Int32) (a3 : Int32) (a4 : Int32) (x15 : Int32) (E119_20 : zM → Int32 → Option (Int32 × zM)) (rc29 : zM → Int32 → Int32 → Option (Int32 × zM)) (M26 : zM) (x27 : Int32) (x28 : Int32) : Option (Int32 × zM) :=
  if (50 : Int32) < x28 then (E119_20 M26 x27) else (if x27 ≤ (50 : Int32) then (E119_20 M26 x27) else ((zix x15 59).bind fun j32 =>
  (some (zst M26 1 j32 x28)).bind fun M33 =>
  (fX10_wearerSpot a1 (0 : Int32)).bind fun x34 =>
  zb2 (fX10_behind M33 x34 a3) fun x35 M36 =>
  zj (fun (x37 : Int32) =>
  (some (x28 + (1 : Int32))).bind fun x39 =>
  rc29 M36 x37 x39) fun J111_38 =>
  if x35 < a4 then (J111_38 x27) else (J111_38 x28)))
def lX10_please_66 (a1 : Int32) (a3 : Int32) (a4 : Int32) (x15 : Int32) (E119_20 : zM → Int32 → Option (Int32 × zM)) : Nat → zM → Int32 → Int32 → Option (Int32 × zM) := zL3 (bX10_please_66 a1 a3 a4 x15 E119_20)
def fX10_please (M0 : zM) (a1 : Int32) (a2 : Int32) (a3 : Int32) (a4 : Int32) : Option (Int32 × zM) :=
  (fX10_isWearer M0 a1).bind fun x1 =>
  if x1 = (0 : Int32) then (zb2 (fX10_finds M0 (-1000000001 : Int32)) fun x3 M4 =>
  some (x3, M4)) else ((fX10_isHouse a2).bind fun x5 =>
  if x5 = (0 : Int32) then (zb2 (fX10_finds M0 (-1000000001 : Int32)) fun x7 M8 =>
  some (x7, M8)) else ((fX10_isSoon a3).bind fun x9 =>
  if x9 = (0 : Int32) then (zb2 (fX10_finds M0 (-1000000001 : Int32)) fun x11 M12 =>
  some (x11, M12)) else ((fX10_in a4.toInt64 (0 : Int64) (9999 : Int64)).bind fun x13 =>
  if x13 = (0 : Int32) then (zb2 (fX10_finds M0 (-1000000001 : Int32)) fun x41 M42 =>
  some (x41, M42)) else ((fX10_houseSpot a2 (1 : Int32)).bind fun x15 =>
  (zix x15 59).bind fun j16 =>
  (some (M0.1 1 j16)).bind fun x17 =>
  zj (fun (M18 : zM) (x19 : Int32) =>
  (zix x15 59).bind fun j21 =>
  (some (zst M18 1 j21 x17)).bind fun M22 =>
  if x19 ≤ (50 : Int32) then (some (x19, M22)) else (zb2 (fX10_finds M22 (-1000000004 : Int32)) fun x24 M25 =>
  some (x24, M25))) fun E119_20 =>
  lX10_please_66 a1 a3 a4 x15 E119_20 zFuel M0 (51 : Int32) (-50 : Int32)))))
abbrev rX10_please : Room := { frames := 8, cells := 0, slots := 0, locals := 184 }
theorem arX10_please : zAr yX10_please RX10 4 := ⟨rfl, by decide, by decide, by decide +kernel⟩
set_option maxHeartbeats 4000000 in
theorem kX10_please (l : Launch) {w : zWd} (hw : zIsM w) {M0 M' : zM} {a1 : Int32} {a2 : Int32} {a3 : Int32} {a4 : Int32} {r : Int32} (h : fX10_please M0 a1 a2 a3 a4 = some (r, M')) : Met l yX10_please (Cond.code yX10_please cX10_please 9 (some .int) :: zU) rX10_please (zPre w M0 [.ref (za w 0), .int a1, .int a2, .int a3, .int a4]) (zQ w (some (.int r)) M') 0 0 (zA w) := by
  refine z_metN (own := RX10) (lv := [(0, .ref (za w 0)), (1, .int a1), (2, .int a2), (3, .int a3), (4, .int a4)]) hw.1 (by decide) (Nat.le_of_ble_eq_true rfl) rfl rfl ?_
  intro p e s m args below meth c G hr hlk hH ls hl
  unfold fX10_please at h
  refine lv_aload_n G.x G.b dX10_please_0 rfl (lv_at hl 0 rfl) ?_
  refine lv_iload_n G.x G.b dX10_please_1 rfl (lv_at hl 1 rfl) ?_
  obtain ⟨x1, ex1, h⟩ := z_bind h
  refine z_rdI (z_runV (k := 0) (As := [.int a1]) (rest := []) G hH hl.1 (kX10_isWearer l hw ex1) (mM0 hw) vc10 arX10_isWearer u964 u966 us33 u11 u967 rfl rfl rfl (Nat.le_of_ble_eq_true rfl) (Nat.le_of_ble_eq_true rfl) rfl (Nat.le_of_ble_eq_true rfl) dX10_please_2) ?_
  refine lv_if_eq (tgt := 35) G.x G.b dX10_please_5 (by decide) (fun c2 => ?_) (fun c2 => ?_)
  · have h := z_if c2 h
    refine lv_aload_n G.x G.b dX10_please_35 rfl (lv_at hl 0 rfl) ?_
    refine lv_ldc G.x G.b G.o (G.t u833) dX10_please_36 ?_
    obtain ⟨x3, M4, eM4, h⟩ := z_b2 h
    refine z_aftI (z_runV (k := 0) (As := [.int (-1000000001 : Int32)]) (rest := []) G hH hl.1 (kX10_finds l hw eM4) (mM0 hw) vc10 arX10_finds u834 u836 us16 u11 u837 rfl rfl rfl (Nat.le_of_ble_eq_true rfl) (Nat.le_of_ble_eq_true rfl) rfl (Nat.le_of_ble_eq_true rfl) dX10_please_38) hH (fun H locs hH => ?_)
    exact z_retI G hr hlk hH h dX10_please_41
  · have h := z_ifn c2 h
    refine lv_iload_n G.x G.b dX10_please_8 rfl (lv_at hl 2 rfl) ?_
    obtain ⟨x5, ex5, h⟩ := z_bind h
    refine z_rdI (z_runS (As := [.int a2]) (rest := []) G hH hl.1 (kX10_isHouse l hw.1 ex5) arX10_isHouse u820 u821 u11 u822 rfl rfl rfl (Nat.le_of_ble_eq_true rfl) (Nat.le_of_ble_eq_true rfl) rfl (Nat.le_of_ble_eq_true rfl) dX10_please_9) ?_
    refine lv_if_eq (tgt := 35) G.x G.b dX10_please_12 (by decide) (fun c6 => ?_) (fun c6 => ?_)
    · have h := z_if c6 h
      refine lv_aload_n G.x G.b dX10_please_35 rfl (lv_at hl 0 rfl) ?_
      refine lv_ldc G.x G.b G.o (G.t u833) dX10_please_36 ?_
      obtain ⟨x7, M8, eM8, h⟩ := z_b2 h
      refine z_aftI (z_runV (k := 0) (As := [.int (-1000000001 : Int32)]) (rest := []) G hH hl.1 (kX10_finds l hw eM8) (mM0 hw) vc10 arX10_finds u834 u836 us16 u11 u837 rfl rfl rfl (Nat.le_of_ble_eq_true rfl) (Nat.le_of_ble_eq_true rfl) rfl (Nat.le_of_ble_eq_true rfl) dX10_please_38) hH (fun H locs hH => ?_)
      exact z_retI G hr hlk hH h dX10_please_41
    · have h := z_ifn c6 h
      refine lv_iload_n G.x G.b dX10_please_15 rfl (lv_at hl 3 rfl) ?_
      obtain ⟨x9, ex9, h⟩ := z_bind h
      refine z_rdI (z_runS (As := [.int a3]) (rest := []) G hH hl.1 (kX10_isSoon l hw.1 ex9) arX10_isSoon u1060 u1061 u11 u1062 rfl rfl rfl (Nat.le_of_ble_eq_true rfl) (Nat.le_of_ble_eq_true rfl) rfl (Nat.le_of_ble_eq_true rfl) dX10_please_16) ?_
      refine lv_if_eq (tgt := 35) G.x G.b dX10_please_19 (by decide) (fun c10 => ?_) (fun c10 => ?_)
      · have h := z_if c10 h
        refine lv_aload_n G.x G.b dX10_please_35 rfl (lv_at hl 0 rfl) ?_
        refine lv_ldc G.x G.b G.o (G.t u833) dX10_please_36 ?_
        obtain ⟨x11, M12, eM12, h⟩ := z_b2 h
        refine z_aftI (z_runV (k := 0) (As := [.int (-1000000001 : Int32)]) (rest := []) G hH hl.1 (kX10_finds l hw eM12) (mM0 hw) vc10 arX10_finds u834 u836 us16 u11 u837 rfl rfl rfl (Nat.le_of_ble_eq_true rfl) (Nat.le_of_ble_eq_true rfl) rfl (Nat.le_of_ble_eq_true rfl) dX10_please_38) hH (fun H locs hH => ?_)
        exact z_retI G hr hlk hH h dX10_please_41
      · have h := z_ifn c10 h
        refine lv_iload G.x G.b dX10_please_22 (lv_at hl 4 rfl) ?_
        refine lv_i2l (v := a4.toInt64) G.x G.b dX10_please_24 rfl ?_
        refine lv_lconst (v := (0 : Int64)) G.x G.b dX10_please_25 (by decide) ?_
        refine lv_ldc2 G.x G.b G.o (G.t u955) dX10_please_26 ?_
        obtain ⟨x13, ex13, h⟩ := z_bind h
        refine z_rdI (z_runS (As := [.long a4.toInt64, .long (0 : Int64), .long (9999 : Int64)]) (rest := []) G hH hl.1 (kX10_in l hw.1 ex13) arX10_in u824 u825 u11 u826 rfl rfl rfl (Nat.le_of_ble_eq_true rfl) (Nat.le_of_ble_eq_true rfl) rfl (Nat.le_of_ble_eq_true rfl) dX10_please_29) ?_
        refine lv_if_ne (tgt := 42) G.x G.b dX10_please_32 (by decide) (fun c14 => ?_) (fun c14 => ?_)
        · have h := z_ifn c14 h
          refine lv_iload_n G.x G.b dX10_please_42 rfl (lv_at hl 2 rfl) ?_
          refine lv_iconst (v := (1 : Int32)) G.x G.b dX10_please_43 (by decide) ?_
          obtain ⟨x15, ex15, h⟩ := z_bind h
          refine z_rdI (z_runS (As := [.int a2, .int (1 : Int32)]) (rest := []) G hH hl.1 (kX10_houseSpot l hw.1 ex15) arX10_houseSpot u764 u765 u11 u766 rfl rfl rfl (Nat.le_of_ble_eq_true rfl) (Nat.le_of_ble_eq_true rfl) rfl (Nat.le_of_ble_eq_true rfl) dX10_please_44) ?_
          refine lv_istore (lv' := [(5, .int x15), (0, .ref (za w 0)), (1, .int a1), (2, .int a2), (3, .int a3), (4, .int a4)]) G.x G.b dX10_please_47 hl (Nat.le_of_ble_eq_true rfl) rfl (fun ls hl => ?_)
          refine lv_aload_n G.x G.b dX10_please_49 rfl (lv_at hl 1 rfl) ?_
          refine z_get (v := .ref (za w 1)) (k := 0) G hH.1 (mM0 hw) vc10 inU10 0 (by decide) u767 rfl dX10_please_50 ?_
          refine lv_iload G.x G.b dX10_please_53 (lv_at hl 0 rfl) ?_
          obtain ⟨j16, ej16, h⟩ := z_bind h
          refine z_iald (k := 1) G hH.1 (mM1 hw) ej16 dX10_please_55 ?_
          obtain ⟨x17, ex17, h⟩ := z_let h
          refine z_nmI ex17 ?_
          refine lv_istore (lv' := [(6, .int x17), (5, .int x15), (0, .ref (za w 0)), (1, .int a1), (2, .int a2), (3, .int a3), (4, .int a4)]) G.x G.b dX10_please_56 hl (Nat.le_of_ble_eq_true rfl) rfl (fun ls hl => ?_)
          refine lv_bipush (v := (51 : Int32)) G.x G.b dX10_please_58 (by decide) ?_
          refine lv_istore (lv' := [(7, .int (51 : Int32)), (6, .int x17), (5, .int x15), (0, .ref (za w 0)), (1, .int a1), (2, .int a2), (3, .int a3), (4, .int a4)]) G.x G.b dX10_please_60 hl (Nat.le_of_ble_eq_true rfl) rfl (fun ls hl => ?_)
          refine lv_bipush (v := (-50 : Int32)) G.x G.b dX10_please_62 (by decide) ?_
          refine lv_istore (lv' := [(8, .int (-50 : Int32)), (7, .int (51 : Int32)), (6, .int x17), (5, .int x15), (0, .ref (za w 0)), (1, .int a1), (2, .int a2), (3, .int a3), (4, .int a4)]) G.x G.b dX10_please_64 hl (Nat.le_of_ble_eq_true rfl) rfl (fun ls hl => ?_)
          obtain ⟨E119_20, hE119_20, h⟩ := z_j h
          have kE119_20 : ∀ (M18 : zM) (x19 : Int32) (H : Heap) (locs : List Loc) (ls : Array Slot), E119_20 M18 x19 = some (r, M') → zH w s M18 H locs → lv_has ls 9 [(0, .ref (za w 0)), (5, .int x15), (6, .int x17), (7, .int x19)] → zGo p l e rX10_please s m args below meth c (zQ w (some (.int r)) M') (zA w) H locs (F0 m 119 ls []) := by
            intro M18 x19 H locs ls h hH hl
            rw [hE119_20] at h
            refine lv_aload_n G.x G.b dX10_please_119 rfl (lv_at hl 0 rfl) ?_
            refine z_get (v := .ref (za w 1)) (k := 0) G hH.1 (mM0 hw) vc10 inU10 0 (by decide) u767 rfl dX10_please_120 ?_
            refine lv_iload G.x G.b dX10_please_123 (lv_at hl 1 rfl) ?_
            refine lv_iload G.x G.b dX10_please_125 (lv_at hl 2 rfl) ?_
            obtain ⟨j21, ej21, h⟩ := z_bind h
            obtain ⟨M22, eM22, h⟩ := z_let h
            refine z_iastN (k := 1) G hH (mM1 hw) ej21 dX10_please_127 eM22 (fun H locs hH => ?_)
            refine lv_iload G.x G.b dX10_please_128 (lv_at hl 3 rfl) ?_
            refine lv_bipush (v := (50 : Int32)) G.x G.b dX10_please_130 (by decide) ?_
            refine lv_icmp_le (tgt := 144) G.x G.b dX10_please_132 (by decide) (fun c23 => ?_) (fun c23 => ?_)
            · have h := z_if c23 h
              refine lv_iload G.x G.b dX10_please_144 (lv_at hl 3 rfl) ?_
              exact z_retI G hr hlk hH h dX10_please_146
            · have h := z_ifn c23 h
              refine lv_aload_n G.x G.b dX10_please_135 rfl (lv_at hl 0 rfl) ?_
              refine lv_ldc G.x G.b G.o (G.t u1051) dX10_please_136 ?_
              obtain ⟨x24, M25, eM25, h⟩ := z_b2 h
              refine z_aftI (z_runV (k := 0) (As := [.int (-1000000004 : Int32)]) (rest := []) G hH hl.1 (kX10_finds l hw eM25) (mM0 hw) vc10 arX10_finds u834 u836 us16 u11 u837 rfl rfl rfl (Nat.le_of_ble_eq_true rfl) (Nat.le_of_ble_eq_true rfl) rfl (Nat.le_of_ble_eq_true rfl) dX10_please_138) hH (fun H locs hH => ?_)
              refine lv_goto (tgt := 146) G.x G.b dX10_please_141 (by decide) ?_
              exact z_retI G hr hlk hH h dX10_please_146
          have n29 : ∀ (n : Nat) (M26 : zM) (x27 : Int32) (x28 : Int32) (H : Heap) (locs : List Loc) (ls : Array Slot), zL3 (bX10_please_66 a1 a3 a4 x15 E119_20) n M26 x27 x28 = some (r, M') → zH w s M26 H locs → lv_has ls 9 [(0, .ref (za w 0)), (1, .int a1), (3, .int a3), (4, .int a4), (5, .int x15), (6, .int x17), (7, .int x27), (8, .int x28)] → zGo p l e rX10_please s m args below meth c (zQ w (some (.int r)) M') (zA w) H locs (F0 m 66 ls []) := by
            intro n
            induction n with
            | zero => intro M26 x27 x28 H locs ls h; exact (zL3_0 h).elim
            | succ n ih29 =>
              intro M26 x27 x28 H locs ls h hH hl
              obtain ⟨rc29, hrc29, h⟩ := zL3_s h
              rw [← hrc29] at ih29
              unfold bX10_please_66 at h
              refine lv_iload G.x G.b dX10_please_66 (lv_at hl 7 rfl) ?_
              refine lv_bipush (v := (50 : Int32)) G.x G.b dX10_please_68 (by decide) ?_
              refine lv_icmp_gt (tgt := 119) G.x G.b dX10_please_70 (by decide) (fun c30 => ?_) (fun c30 => ?_)
              · have h := z_if c30 h
                exact kE119_20 M26 x27 H locs ls h hH (lv_sub hl [0, 4, 5, 6] rfl)
              · have h := z_ifn c30 h
                refine lv_iload G.x G.b dX10_please_73 (lv_at hl 6 rfl) ?_
                refine lv_bipush (v := (50 : Int32)) G.x G.b dX10_please_75 (by decide) ?_
                refine lv_icmp_le (tgt := 119) G.x G.b dX10_please_77 (by decide) (fun c31 => ?_) (fun c31 => ?_)
                · have h := z_if c31 h
                  exact kE119_20 M26 x27 H locs ls h hH (lv_sub hl [0, 4, 5, 6] rfl)
                · have h := z_ifn c31 h
                  refine lv_aload_n G.x G.b dX10_please_80 rfl (lv_at hl 0 rfl) ?_
                  refine z_get (v := .ref (za w 1)) (k := 0) G hH.1 (mM0 hw) vc10 inU10 0 (by decide) u767 rfl dX10_please_81 ?_
                  refine lv_iload G.x G.b dX10_please_84 (lv_at hl 4 rfl) ?_
                  refine lv_iload G.x G.b dX10_please_86 (lv_at hl 7 rfl) ?_
                  obtain ⟨j32, ej32, h⟩ := z_bind h
                  obtain ⟨M33, eM33, h⟩ := z_let h
                  refine z_iastN (k := 1) G hH (mM1 hw) ej32 dX10_please_88 eM33 (fun H locs hH => ?_)
                  refine lv_aload_n G.x G.b dX10_please_89 rfl (lv_at hl 0 rfl) ?_
                  refine lv_iload_n G.x G.b dX10_please_90 rfl (lv_at hl 1 rfl) ?_
                  refine lv_iconst (v := (0 : Int32)) G.x G.b dX10_please_91 (by decide) ?_
                  obtain ⟨x34, ex34, h⟩ := z_bind h
                  refine z_rdI (z_runS (As := [.int a1, .int (0 : Int32)]) (rest := [.ref (za w 0)]) G hH hl.1 (kX10_wearerSpot l hw.1 ex34) arX10_wearerSpot u867 u868 u11 u869 rfl rfl rfl (Nat.le_of_ble_eq_true rfl) (Nat.le_of_ble_eq_true rfl) rfl (Nat.le_of_ble_eq_true rfl) dX10_please_92) ?_
                  refine lv_iload_n G.x G.b dX10_please_95 rfl (lv_at hl 2 rfl) ?_
                  obtain ⟨x35, M36, eM36, h⟩ := z_b2 h
                  refine z_aftI (z_runV (k := 0) (As := [.int x34, .int a3]) (rest := []) G hH hl.1 (kX10_behind l hw eM36) (mM0 hw) vc10 arX10_behind u1019 u1021 us39 u11 u1022 rfl rfl rfl (Nat.le_of_ble_eq_true rfl) (Nat.le_of_ble_eq_true rfl) rfl (Nat.le_of_ble_eq_true rfl) dX10_please_96) hH (fun H locs hH => ?_)
                  refine lv_iload G.x G.b dX10_please_99 (lv_at hl 3 rfl) ?_
                  obtain ⟨J111_38, hJ111_38, h⟩ := z_j h
                  have kJ111_38 : ∀ (x37 : Int32) (ls : Array Slot), J111_38 x37 = some (r, M') → lv_has ls 9 [(0, .ref (za w 0)), (1, .int a1), (3, .int a3), (4, .int a4), (5, .int x15), (6, .int x17), (8, .int x28)] → zGo p l e rX10_please s m args below meth c (zQ w (some (.int r)) M') (zA w) H locs (F0 m 111 ls [.int x37]) := by
                    intro x37 ls h hl
                    rw [hJ111_38] at h
                    refine lv_istore (lv' := [(7, .int x37), (0, .ref (za w 0)), (1, .int a1), (3, .int a3), (4, .int a4), (5, .int x15), (6, .int x17), (8, .int x28)]) G.x G.b dX10_please_111 hl (Nat.le_of_ble_eq_true rfl) rfl (fun ls hl => ?_)
                    obtain ⟨x39, ex39, h⟩ := z_let h
                    refine lv_iinc (v := x39) (lv' := [(8, .int x39), (7, .int x37), (0, .ref (za w 0)), (1, .int a1), (3, .int a3), (4, .int a4), (5, .int x15), (6, .int x17)]) G.x G.b dX10_please_113 hl (k := 7) rfl (by rw [ex39]; rfl) (Nat.le_of_ble_eq_true rfl) rfl (fun ls hl => ?_)
                    refine lv_goto (tgt := 66) G.x G.b dX10_please_116 (by decide) ?_
                    exact ih29 M36 x37 x39 H locs ls h hH (lv_sub hl [2, 3, 4, 5, 6, 7, 1, 0] rfl)
                  refine lv_icmp_lt (tgt := 109) G.x G.b dX10_please_101 (by decide) (fun c40 => ?_) (fun c40 => ?_)
                  · have h := z_if c40 h
                    refine lv_iload G.x G.b dX10_please_109 (lv_at hl 6 rfl) ?_
                    exact kJ111_38 x27 ls h (lv_sub hl [0, 1, 2, 3, 4, 5, 7] rfl)
                  · have h := z_ifn c40 h
                    refine lv_iload G.x G.b dX10_please_104 (lv_at hl 7 rfl) ?_
                    refine lv_goto (tgt := 111) G.x G.b dX10_please_106 (by decide) ?_
                    exact kJ111_38 x28 ls h (lv_sub hl [0, 1, 2, 3, 4, 5, 7] rfl)
          exact n29 zFuel M0 (51 : Int32) (-50 : Int32) s.heap [] ls h hH (lv_sub hl [4, 5, 7, 8, 3, 2, 1, 0] rfl)
        · have h := z_if c14 h
          refine lv_aload_n G.x G.b dX10_please_35 rfl (lv_at hl 0 rfl) ?_
          refine lv_ldc G.x G.b G.o (G.t u833) dX10_please_36 ?_
          obtain ⟨x41, M42, eM42, h⟩ := z_b2 h
          refine z_aftI (z_runV (k := 0) (As := [.int (-1000000001 : Int32)]) (rest := []) G hH hl.1 (kX10_finds l hw eM42) (mM0 hw) vc10 arX10_finds u834 u836 us16 u11 u837 rfl rfl rfl (Nat.le_of_ble_eq_true rfl) (Nat.le_of_ble_eq_true rfl) rfl (Nat.le_of_ble_eq_true rfl) dX10_please_38) hH (fun H locs hH => ?_)
          exact z_retI G hr hlk hH h dX10_please_41
def bX10_richest_43 (M5 : zM) (E80_7 : Int32 → Option (Int32 × zM)) (rc12 : Int32 → Int32 → Option (Int32 × zM)) (x10 : Int32) (x11 : Int32) : Option (Int32 × zM) :=
  if (M5.1 1 1) ≤ x11 then (E80_7 x10) else ((fX10_its M5 x11 (2 : Int32)).bind fun x14 =>
  (fX10_its M5 x10 (2 : Int32)).bind fun x15 =>
  zj (fun (x16 : Int32) =>
  (some (x11 + (1 : Int32))).bind fun x18 =>
  rc12 x16 x18) fun J73_17 =>
  if x14 ≤ x15 then (J73_17 x10) else (J73_17 x11))
def lX10_richest_43 (M5 : zM) (E80_7 : Int32 → Option (Int32 × zM)) : Nat → Int32 → Int32 → Option (Int32 × zM) := zL2 (bX10_richest_43 M5 E80_7)
def fX10_richest (M0 : zM) (a1 : Int32) : Option (Int32 × zM) :=
  (fX10_isAhead a1).bind fun x1 =>
  if x1 = (0 : Int32) then (zb2 (fX10_finds M0 (-1000000001 : Int32)) fun x22 M23 =>
  some (x22, M23)) else (if (M0.1 1 1) = (0 : Int32) then (zb2 (fX10_finds M0 (-1000000004 : Int32)) fun x20 M21 =>
  some (x20, M21)) else ((fX10_laysAside M0).bind fun M4 =>
  (fX10_nightsGo M4 a1).bind fun M5 =>
  zj (fun (x6 : Int32) =>
  zb2 (fX10_takesBack M5 x6) fun x8 M9 =>
  some (x8, M9)) fun E80_7 =>
  lX10_richest_43 M5 E80_7 zFuel (0 : Int32) (1 : Int32)))
abbrev rX10_richest : Room := { frames := 7, cells := 0, slots := 0, locals := 162 }
theorem arX10_richest : zAr yX10_richest RX10 1 := ⟨rfl, by decide, by decide, by decide +kernel⟩
set_option maxHeartbeats 4000000 in
theorem kX10_richest (l : Launch) {w : zWd} (hw : zIsM w) {M0 M' : zM} {a1 : Int32} {r : Int32} (h : fX10_richest M0 a1 = some (r, M')) : Met l yX10_richest (Cond.code yX10_richest cX10_richest 4 (some .int) :: zU) rX10_richest (zPre w M0 [.ref (za w 0), .int a1]) (zQ w (some (.int r)) M') 0 0 (zA w) := by
  refine z_metN (own := RX10) (lv := [(0, .ref (za w 0)), (1, .int a1)]) hw.1 (by decide) (Nat.le_of_ble_eq_true rfl) rfl rfl ?_
  intro p e s m args below meth c G hr hlk hH ls hl
  unfold fX10_richest at h
  refine lv_iload_n G.x G.b dX10_richest_0 rfl (lv_at hl 1 rfl) ?_
  obtain ⟨x1, ex1, h⟩ := z_bind h
  refine z_rdI (z_runS (As := [.int a1]) (rest := []) G hH hl.1 (kX10_isAhead l hw.1 ex1) arX10_isAhead u1015 u1016 u11 u1017 rfl rfl rfl (Nat.le_of_ble_eq_true rfl) (Nat.le_of_ble_eq_true rfl) rfl (Nat.le_of_ble_eq_true rfl) dX10_richest_1) ?_
  refine lv_if_ne (tgt := 14) G.x G.b dX10_richest_4 (by decide) (fun c2 => ?_) (fun c2 => ?_)
  · have h := z_ifn c2 h
    refine lv_aload_n G.x G.b dX10_richest_14 rfl (lv_at hl 0 rfl) ?_
    refine z_get (v := .ref (za w 1)) (k := 0) G hH.1 (mM0 hw) vc10 inU10 0 (by decide) u767 rfl dX10_richest_15 ?_
    refine lv_iconst (v := (1 : Int32)) G.x G.b dX10_richest_18 (by decide) ?_
    refine z_iald (k := 1) G hH.1 (mM1 hw) (by decide : zix (1 : Int32) 59 = some 1) dX10_richest_19 ?_
    refine lv_if_ne (tgt := 30) G.x G.b dX10_richest_20 (by decide) (fun c3 => ?_) (fun c3 => ?_)
    · have h := z_ifn c3 h
      refine lv_aload_n G.x G.b dX10_richest_30 rfl (lv_at hl 0 rfl) ?_
      obtain ⟨M4, eM4, h⟩ := z_bind h
      refine z_aftV (z_runV (k := 0) (As := []) (rest := []) G hH hl.1 (kX10_laysAside l hw eM4) (mM0 hw) vc10 arX10_laysAside u1023 u1025 us40 u11 u1026 rfl rfl rfl (Nat.le_of_ble_eq_true rfl) (Nat.le_of_ble_eq_true rfl) rfl (Nat.le_of_ble_eq_true rfl) dX10_richest_31) hH (fun H locs hH => ?_)
      refine lv_aload_n G.x G.b dX10_richest_34 rfl (lv_at hl 0 rfl) ?_
      refine lv_iload_n G.x G.b dX10_richest_35 rfl (lv_at hl 1 rfl) ?_
      obtain ⟨M5, eM5, h⟩ := z_bind h
      refine z_aftV (z_runV (k := 0) (As := [.int a1]) (rest := []) G hH hl.1 (kX10_nightsGo l hw eM5) (mM0 hw) vc10 arX10_nightsGo u992 u994 us35 u11 u995 rfl rfl rfl (Nat.le_of_ble_eq_true rfl) (Nat.le_of_ble_eq_true rfl) rfl (Nat.le_of_ble_eq_true rfl) dX10_richest_36) hH (fun H locs hH => ?_)
      refine lv_iconst (v := (0 : Int32)) G.x G.b dX10_richest_39 (by decide) ?_
      refine lv_istore_n (lv' := [(2, .int (0 : Int32)), (0, .ref (za w 0)), (1, .int a1)]) G.x G.b dX10_richest_40 rfl hl (Nat.le_of_ble_eq_true rfl) rfl (fun ls hl => ?_)
      refine lv_iconst (v := (1 : Int32)) G.x G.b dX10_richest_41 (by decide) ?_
      refine lv_istore_n (lv' := [(3, .int (1 : Int32)), (2, .int (0 : Int32)), (0, .ref (za w 0)), (1, .int a1)]) G.x G.b dX10_richest_42 rfl hl (Nat.le_of_ble_eq_true rfl) rfl (fun ls hl => ?_)
      obtain ⟨E80_7, hE80_7, h⟩ := z_j h
      have kE80_7 : ∀ (x6 : Int32) (ls : Array Slot), E80_7 x6 = some (r, M') → lv_has ls 4 [(0, .ref (za w 0)), (2, .int x6)] → zGo p l e rX10_richest s m args below meth c (zQ w (some (.int r)) M') (zA w) H locs (F0 m 80 ls []) := by
        intro x6 ls h hl
        rw [hE80_7] at h
        refine lv_aload_n G.x G.b dX10_richest_80 rfl (lv_at hl 0 rfl) ?_
        refine lv_iload_n G.x G.b dX10_richest_81 rfl (lv_at hl 1 rfl) ?_
        obtain ⟨x8, M9, eM9, h⟩ := z_b2 h
        refine z_aftI (z_runV (k := 0) (As := [.int x6]) (rest := []) G hH hl.1 (kX10_takesBack l hw eM9) (mM0 hw) vc10 arX10_takesBack u1027 u1029 us41 u11 u1030 rfl rfl rfl (Nat.le_of_ble_eq_true rfl) (Nat.le_of_ble_eq_true rfl) rfl (Nat.le_of_ble_eq_true rfl) dX10_richest_82) hH (fun H locs hH => ?_)
        exact z_retI G hr hlk hH h dX10_richest_85
      have n12 : ∀ (n : Nat) (x10 : Int32) (x11 : Int32) (ls : Array Slot), zL2 (bX10_richest_43 M5 E80_7) n x10 x11 = some (r, M') → lv_has ls 4 [(0, .ref (za w 0)), (2, .int x10), (3, .int x11)] → zGo p l e rX10_richest s m args below meth c (zQ w (some (.int r)) M') (zA w) H locs (F0 m 43 ls []) := by
        intro n
        induction n with
        | zero => intro x10 x11 ls h; exact (zL2_0 h).elim
        | succ n ih12 =>
          intro x10 x11 ls h hl
          obtain ⟨rc12, hrc12, h⟩ := zL2_s h
          rw [← hrc12] at ih12
          unfold bX10_richest_43 at h
          refine lv_iload_n G.x G.b dX10_richest_43 rfl (lv_at hl 2 rfl) ?_
          refine lv_aload_n G.x G.b dX10_richest_44 rfl (lv_at hl 0 rfl) ?_
          refine z_get (v := .ref (za w 1)) (k := 0) G hH.1 (mM0 hw) vc10 inU10 0 (by decide) u767 rfl dX10_richest_45 ?_
          refine lv_iconst (v := (1 : Int32)) G.x G.b dX10_richest_48 (by decide) ?_
          refine z_iald (k := 1) G hH.1 (mM1 hw) (by decide : zix (1 : Int32) 59 = some 1) dX10_richest_49 ?_
          refine lv_icmp_ge (tgt := 80) G.x G.b dX10_richest_50 (by decide) (fun c13 => ?_) (fun c13 => ?_)
          · have h := z_if c13 h
            exact kE80_7 x10 ls h (lv_sub hl [0, 1] rfl)
          · have h := z_ifn c13 h
            refine lv_aload_n G.x G.b dX10_richest_53 rfl (lv_at hl 0 rfl) ?_
            refine lv_iload_n G.x G.b dX10_richest_54 rfl (lv_at hl 2 rfl) ?_
            refine lv_iconst (v := (2 : Int32)) G.x G.b dX10_richest_55 (by decide) ?_
            obtain ⟨x14, ex14, h⟩ := z_bind h
            refine z_rdI (z_runV (k := 0) (As := [.int x11, .int (2 : Int32)]) (rest := []) G hH hl.1 (kX10_its l hw ex14) (mM0 hw) vc10 arX10_its u882 u884 us24 u11 u885 rfl rfl rfl (Nat.le_of_ble_eq_true rfl) (Nat.le_of_ble_eq_true rfl) rfl (Nat.le_of_ble_eq_true rfl) dX10_richest_56) ?_
            refine lv_aload_n G.x G.b dX10_richest_59 rfl (lv_at hl 0 rfl) ?_
            refine lv_iload_n G.x G.b dX10_richest_60 rfl (lv_at hl 1 rfl) ?_
            refine lv_iconst (v := (2 : Int32)) G.x G.b dX10_richest_61 (by decide) ?_
            obtain ⟨x15, ex15, h⟩ := z_bind h
            refine z_rdI (z_runV (k := 0) (As := [.int x10, .int (2 : Int32)]) (rest := [.int x14]) G hH hl.1 (kX10_its l hw ex15) (mM0 hw) vc10 arX10_its u882 u884 us24 u11 u885 rfl rfl rfl (Nat.le_of_ble_eq_true rfl) (Nat.le_of_ble_eq_true rfl) rfl (Nat.le_of_ble_eq_true rfl) dX10_richest_62) ?_
            obtain ⟨J73_17, hJ73_17, h⟩ := z_j h
            have kJ73_17 : ∀ (x16 : Int32) (ls : Array Slot), J73_17 x16 = some (r, M') → lv_has ls 4 [(0, .ref (za w 0)), (3, .int x11)] → zGo p l e rX10_richest s m args below meth c (zQ w (some (.int r)) M') (zA w) H locs (F0 m 73 ls [.int x16]) := by
              intro x16 ls h hl
              rw [hJ73_17] at h
              refine lv_istore_n (lv' := [(2, .int x16), (0, .ref (za w 0)), (3, .int x11)]) G.x G.b dX10_richest_73 rfl hl (Nat.le_of_ble_eq_true rfl) rfl (fun ls hl => ?_)
              obtain ⟨x18, ex18, h⟩ := z_let h
              refine lv_iinc (v := x18) (lv' := [(3, .int x18), (2, .int x16), (0, .ref (za w 0))]) G.x G.b dX10_richest_74 hl (k := 2) rfl (by rw [ex18]; rfl) (Nat.le_of_ble_eq_true rfl) rfl (fun ls hl => ?_)
              refine lv_goto (tgt := 43) G.x G.b dX10_richest_77 (by decide) ?_
              exact ih12 x16 x18 ls h (lv_sub hl [2, 1, 0] rfl)
            refine lv_icmp_le (tgt := 72) G.x G.b dX10_richest_65 (by decide) (fun c19 => ?_) (fun c19 => ?_)
            · have h := z_if c19 h
              refine lv_iload_n G.x G.b dX10_richest_72 rfl (lv_at hl 1 rfl) ?_
              exact kJ73_17 x10 ls h (lv_sub hl [0, 2] rfl)
            · have h := z_ifn c19 h
              refine lv_iload_n G.x G.b dX10_richest_68 rfl (lv_at hl 2 rfl) ?_
              refine lv_goto (tgt := 73) G.x G.b dX10_richest_69 (by decide) ?_
              exact kJ73_17 x11 ls h (lv_sub hl [0, 2] rfl)
      exact n12 zFuel (0 : Int32) (1 : Int32) ls h (lv_sub hl [2, 1, 0] rfl)
    · have h := z_if c3 h
      refine lv_aload_n G.x G.b dX10_richest_23 rfl (lv_at hl 0 rfl) ?_
      refine lv_ldc G.x G.b G.o (G.t u1051) dX10_richest_24 ?_
      obtain ⟨x20, M21, eM21, h⟩ := z_b2 h
      refine z_aftI (z_runV (k := 0) (As := [.int (-1000000004 : Int32)]) (rest := []) G hH hl.1 (kX10_finds l hw eM21) (mM0 hw) vc10 arX10_finds u834 u836 us16 u11 u837 rfl rfl rfl (Nat.le_of_ble_eq_true rfl) (Nat.le_of_ble_eq_true rfl) rfl (Nat.le_of_ble_eq_true rfl) dX10_richest_26) hH (fun H locs hH => ?_)
      exact z_retI G hr hlk hH h dX10_richest_29
  · have h := z_if c2 h
    refine lv_aload_n G.x G.b dX10_richest_7 rfl (lv_at hl 0 rfl) ?_
    refine lv_ldc G.x G.b G.o (G.t u833) dX10_richest_8 ?_
    obtain ⟨x22, M23, eM23, h⟩ := z_b2 h
    refine z_aftI (z_runV (k := 0) (As := [.int (-1000000001 : Int32)]) (rest := []) G hH hl.1 (kX10_finds l hw eM23) (mM0 hw) vc10 arX10_finds u834 u836 us16 u11 u837 rfl rfl rfl (Nat.le_of_ble_eq_true rfl) (Nat.le_of_ble_eq_true rfl) rfl (Nat.le_of_ble_eq_true rfl) dX10_richest_10) hH (fun H locs hH => ?_)
    exact z_retI G hr hlk hH h dX10_richest_13
def bX10_feed_41 (a1 : Int32) (E80_6 : zM → Option (Int32 × zM)) (rc9 : zM → Int32 → Option (Int32 × zM)) (M7 : zM) (x8 : Int32) : Option (Int32 × zM) :=
  if x8 < (0 : Int32) then (E80_6 M7) else ((zix (M7.1 0 7) 120).bind fun j11 =>
  (some (zst M7 6 j11 ((a1 >>> (((8 : Int32) * x8) &&& 31)) &&& (255 : Int32)))).bind fun M12 =>
  (some (zst M12 0 7 ((M12.1 0 7) + (1 : Int32)))).bind fun M13 =>
  (some (x8 + (-1 : Int32))).bind fun x14 =>
  rc9 M13 x14)
def lX10_feed_41 (a1 : Int32) (E80_6 : zM → Option (Int32 × zM)) : Nat → zM → Int32 → Option (Int32 × zM) := zL2 (bX10_feed_41 a1 E80_6)
def fX10_feed (M0 : zM) (a1 : Int32) (a2 : Int32) : Option (Int32 × zM) :=
  (fX10_in a2.toInt64 (1 : Int64) (4 : Int64)).bind fun x1 =>
  if x1 = (0 : Int32) then (zb2 (fX10_finds M0 (-1000000001 : Int32)) fun x17 M18 =>
  some (x17, M18)) else (if ((M0.1 0 7) + a2) ≤ (120 : Int32) then ((some (a2 - (1 : Int32))).bind fun x4 =>
  zj (fun (M5 : zM) =>
  some ((M5.1 0 7), M5)) fun E80_6 =>
  lX10_feed_41 a1 E80_6 zFuel M0 x4) else (zb2 (fX10_finds M0 (-1000000002 : Int32)) fun x15 M16 =>
  some (x15, M16)))
abbrev rX10_feed : Room := { frames := 1, cells := 0, slots := 0, locals := 25 }
theorem arX10_feed : zAr yX10_feed RX10 2 := ⟨rfl, by decide, by decide, by decide +kernel⟩
set_option maxHeartbeats 4000000 in
theorem kX10_feed (l : Launch) {w : zWd} (hw : zIsM w) {M0 M' : zM} {a1 : Int32} {a2 : Int32} {r : Int32} (h : fX10_feed M0 a1 a2 = some (r, M')) : Met l yX10_feed (Cond.code yX10_feed cX10_feed 4 (some .int) :: zU) rX10_feed (zPre w M0 [.ref (za w 0), .int a1, .int a2]) (zQ w (some (.int r)) M') 0 0 (zA w) := by
  refine z_metN (own := RX10) (lv := [(0, .ref (za w 0)), (1, .int a1), (2, .int a2)]) hw.1 (by decide) (Nat.le_of_ble_eq_true rfl) rfl rfl ?_
  intro p e s m args below meth c G hr hlk hH ls hl
  unfold fX10_feed at h
  refine lv_iload_n G.x G.b dX10_feed_0 rfl (lv_at hl 2 rfl) ?_
  refine lv_i2l (v := a2.toInt64) G.x G.b dX10_feed_1 rfl ?_
  refine lv_lconst (v := (1 : Int64)) G.x G.b dX10_feed_2 (by decide) ?_
  refine lv_ldc2 G.x G.b G.o (G.t u1096) dX10_feed_3 ?_
  obtain ⟨x1, ex1, h⟩ := z_bind h
  refine z_rdI (z_runS (As := [.long a2.toInt64, .long (1 : Int64), .long (4 : Int64)]) (rest := []) G hH hl.1 (kX10_in l hw.1 ex1) arX10_in u824 u825 u11 u826 rfl rfl rfl (Nat.le_of_ble_eq_true rfl) (Nat.le_of_ble_eq_true rfl) rfl (Nat.le_of_ble_eq_true rfl) dX10_feed_6) ?_
  refine lv_if_ne (tgt := 19) G.x G.b dX10_feed_9 (by decide) (fun c2 => ?_) (fun c2 => ?_)
  · have h := z_ifn c2 h
    refine lv_aload_n G.x G.b dX10_feed_19 rfl (lv_at hl 0 rfl) ?_
    refine z_get (v := .int (M0.1 0 7)) (k := 0) G hH.1 (mM0 hw) vc10 inU10 7 (by decide) u774 rfl dX10_feed_20 ?_
    refine lv_iload_n G.x G.b dX10_feed_23 rfl (lv_at hl 2 rfl) ?_
    refine lv_iadd G.x G.b dX10_feed_24 ?_
    refine lv_bipush (v := (120 : Int32)) G.x G.b dX10_feed_25 (by decide) ?_
    refine lv_icmp_le (tgt := 37) G.x G.b dX10_feed_27 (by decide) (fun c3 => ?_) (fun c3 => ?_)
    · have h := z_if c3 h
      refine lv_iload_n G.x G.b dX10_feed_37 rfl (lv_at hl 2 rfl) ?_
      refine lv_iconst (v := (1 : Int32)) G.x G.b dX10_feed_38 (by decide) ?_
      refine lv_isub G.x G.b dX10_feed_39 ?_
      obtain ⟨x4, ex4, h⟩ := z_let h
      refine z_nmI ex4 ?_
      refine lv_istore_n (lv' := [(3, .int x4), (0, .ref (za w 0)), (1, .int a1), (2, .int a2)]) G.x G.b dX10_feed_40 rfl hl (Nat.le_of_ble_eq_true rfl) rfl (fun ls hl => ?_)
      obtain ⟨E80_6, hE80_6, h⟩ := z_j h
      have kE80_6 : ∀ (M5 : zM) (H : Heap) (locs : List Loc) (ls : Array Slot), E80_6 M5 = some (r, M') → zH w s M5 H locs → lv_has ls 4 [(0, .ref (za w 0))] → zGo p l e rX10_feed s m args below meth c (zQ w (some (.int r)) M') (zA w) H locs (F0 m 80 ls []) := by
        intro M5 H locs ls h hH hl
        rw [hE80_6] at h
        refine lv_aload_n G.x G.b dX10_feed_80 rfl (lv_at hl 0 rfl) ?_
        refine z_get (v := .int (M5.1 0 7)) (k := 0) G hH.1 (mM0 hw) vc10 inU10 7 (by decide) u774 rfl dX10_feed_81 ?_
        exact z_retI G hr hlk hH h dX10_feed_84
      have n9 : ∀ (n : Nat) (M7 : zM) (x8 : Int32) (H : Heap) (locs : List Loc) (ls : Array Slot), zL2 (bX10_feed_41 a1 E80_6) n M7 x8 = some (r, M') → zH w s M7 H locs → lv_has ls 4 [(0, .ref (za w 0)), (1, .int a1), (3, .int x8)] → zGo p l e rX10_feed s m args below meth c (zQ w (some (.int r)) M') (zA w) H locs (F0 m 41 ls []) := by
        intro n
        induction n with
        | zero => intro M7 x8 H locs ls h; exact (zL2_0 h).elim
        | succ n ih9 =>
          intro M7 x8 H locs ls h hH hl
          obtain ⟨rc9, hrc9, h⟩ := zL2_s h
          rw [← hrc9] at ih9
          unfold bX10_feed_41 at h
          refine lv_iload_n G.x G.b dX10_feed_41 rfl (lv_at hl 2 rfl) ?_
          refine lv_if_lt (tgt := 80) G.x G.b dX10_feed_42 (by decide) (fun c10 => ?_) (fun c10 => ?_)
          · have h := z_if c10 h
            exact kE80_6 M7 H locs ls h hH (lv_sub hl [0] rfl)
          · have h := z_ifn c10 h
            refine lv_aload_n G.x G.b dX10_feed_45 rfl (lv_at hl 0 rfl) ?_
            refine z_get (v := .ref (za w 6)) (k := 0) G hH.1 (mM0 hw) vc10 inU10 6 (by decide) u773 rfl dX10_feed_46 ?_
            refine lv_aload_n G.x G.b dX10_feed_49 rfl (lv_at hl 0 rfl) ?_
            refine z_get (v := .int (M7.1 0 7)) (k := 0) G hH.1 (mM0 hw) vc10 inU10 7 (by decide) u774 rfl dX10_feed_50 ?_
            refine lv_iload_n G.x G.b dX10_feed_53 rfl (lv_at hl 1 rfl) ?_
            refine lv_bipush (v := (8 : Int32)) G.x G.b dX10_feed_54 (by decide) ?_
            refine lv_iload_n G.x G.b dX10_feed_56 rfl (lv_at hl 2 rfl) ?_
            refine lv_imul G.x G.b dX10_feed_57 ?_
            refine lv_ishr G.x G.b dX10_feed_58 ?_
            refine lv_sipush (v := (255 : Int32)) G.x G.b dX10_feed_59 (by decide) ?_
            refine lv_iand G.x G.b dX10_feed_62 ?_
            obtain ⟨j11, ej11, h⟩ := z_bind h
            obtain ⟨M12, eM12, h⟩ := z_let h
            refine z_iastN (k := 6) G hH (mM6 hw) ej11 dX10_feed_63 eM12 (fun H locs hH => ?_)
            refine lv_aload_n G.x G.b dX10_feed_64 rfl (lv_at hl 0 rfl) ?_
            refine lv_dup G.x G.b dX10_feed_65 rfl ?_
            refine z_get (v := .int (M12.1 0 7)) (k := 0) G hH.1 (mM0 hw) vc10 inU10 7 (by decide) u774 rfl dX10_feed_66 ?_
            refine lv_iconst (v := (1 : Int32)) G.x G.b dX10_feed_69 (by decide) ?_
            refine lv_iadd G.x G.b dX10_feed_70 ?_
            obtain ⟨M13, eM13, h⟩ := z_let h
            refine z_putN (k := 0) G hH (mM0 hw) vc10 inU10 tyX10 tyX10_ok nmX10 7 (by decide) u774 rfl (ty := .int) rfl rfl rfl mP10_7 (Nat.le_of_ble_eq_true rfl) dX10_feed_71 eM13 (fun H locs hH => ?_)
            obtain ⟨x14, ex14, h⟩ := z_let h
            refine lv_iinc (v := x14) (lv' := [(3, .int x14), (0, .ref (za w 0)), (1, .int a1)]) G.x G.b dX10_feed_74 hl (k := 2) rfl (by rw [ex14]; rfl) (Nat.le_of_ble_eq_true rfl) rfl (fun ls hl => ?_)
            refine lv_goto (tgt := 41) G.x G.b dX10_feed_77 (by decide) ?_
            exact ih9 M13 x14 H locs ls h hH (lv_sub hl [1, 2, 0] rfl)
      exact n9 zFuel M0 x4 s.heap [] ls h hH (lv_sub hl [1, 2, 0] rfl)
    · have h := z_ifn c3 h
      refine lv_aload_n G.x G.b dX10_feed_30 rfl (lv_at hl 0 rfl) ?_
      refine lv_ldc G.x G.b G.o (G.t u904) dX10_feed_31 ?_
      obtain ⟨x15, M16, eM16, h⟩ := z_b2 h
      refine z_aftI (z_runV (k := 0) (As := [.int (-1000000002 : Int32)]) (rest := []) G hH hl.1 (kX10_finds l hw eM16) (mM0 hw) vc10 arX10_finds u834 u836 us16 u11 u837 rfl rfl rfl (Nat.le_of_ble_eq_true rfl) (Nat.le_of_ble_eq_true rfl) rfl (Nat.le_of_ble_eq_true rfl) dX10_feed_33) hH (fun H locs hH => ?_)
      exact z_retI G hr hlk hH h dX10_feed_36
  · have h := z_if c2 h
    refine lv_aload_n G.x G.b dX10_feed_12 rfl (lv_at hl 0 rfl) ?_
    refine lv_ldc G.x G.b G.o (G.t u833) dX10_feed_13 ?_
    obtain ⟨x17, M18, eM18, h⟩ := z_b2 h
    refine z_aftI (z_runV (k := 0) (As := [.int (-1000000001 : Int32)]) (rest := []) G hH hl.1 (kX10_finds l hw eM18) (mM0 hw) vc10 arX10_finds u834 u836 us16 u11 u837 rfl rfl rfl (Nat.le_of_ble_eq_true rfl) (Nat.le_of_ble_eq_true rfl) rfl (Nat.le_of_ble_eq_true rfl) dX10_feed_15) hH (fun H locs hH => ?_)
    exact z_retI G hr hlk hH h dX10_feed_18
def fX10_wipe (M0 : zM) : Option (Int32 × zM) :=
  (some (M0.1 0 7)).bind fun x1 =>
  (some (zst M0 0 7 (0 : Int32))).bind fun M2 =>
  some (x1, M2)
abbrev rX10_wipe : Room := { frames := 0, cells := 0, slots := 0, locals := 0 }
theorem arX10_wipe : zAr yX10_wipe RX10 0 := ⟨rfl, by decide, by decide, by decide +kernel⟩
set_option maxHeartbeats 4000000 in
theorem kX10_wipe (l : Launch) {w : zWd} (hw : zIsM w) {M0 M' : zM} {r : Int32} (h : fX10_wipe M0 = some (r, M')) : Met l yX10_wipe (Cond.code yX10_wipe cX10_wipe 2 (some .int) :: zU) rX10_wipe (zPre w M0 [.ref (za w 0)]) (zQ w (some (.int r)) M') 0 0 (zA w) := by
  refine z_metN (own := RX10) (lv := [(0, .ref (za w 0))]) hw.1 (by decide) (Nat.le_of_ble_eq_true rfl) rfl rfl ?_
  intro p e s m args below meth c G hr hlk hH ls hl
  unfold fX10_wipe at h
  refine lv_aload_n G.x G.b dX10_wipe_0 rfl (lv_at hl 0 rfl) ?_
  refine z_get (v := .int (M0.1 0 7)) (k := 0) G hH.1 (mM0 hw) vc10 inU10 7 (by decide) u774 rfl dX10_wipe_1 ?_
  obtain ⟨x1, ex1, h⟩ := z_let h
  refine z_nmI ex1 ?_
  refine lv_istore_n (lv' := [(1, .int x1), (0, .ref (za w 0))]) G.x G.b dX10_wipe_4 rfl hl (Nat.le_of_ble_eq_true rfl) rfl (fun ls hl => ?_)
  refine lv_aload_n G.x G.b dX10_wipe_5 rfl (lv_at hl 1 rfl) ?_
  refine lv_iconst (v := (0 : Int32)) G.x G.b dX10_wipe_6 (by decide) ?_
  obtain ⟨M2, eM2, h⟩ := z_let h
  refine z_putN (k := 0) G hH (mM0 hw) vc10 inU10 tyX10 tyX10_ok nmX10 7 (by decide) u774 rfl (ty := .int) rfl rfl rfl mP10_7 (Nat.le_of_ble_eq_true rfl) dX10_wipe_7 eM2 (fun H locs hH => ?_)
  refine lv_iload_n G.x G.b dX10_wipe_10 rfl (lv_at hl 0 rfl) ?_
  exact z_retI G hr hlk hH h dX10_wipe_11
def fX10_byteAt (M0 : zM) (a1 : Int32) : Option Int32 :=
  if (M0.1 0 7) ≤ a1 then (some (-1 : Int32)) else ((zix a1 120).bind fun j2 =>
  some (M0.1 6 j2))
abbrev rX10_byteAt : Room := { frames := 0, cells := 0, slots := 0, locals := 0 }
theorem arX10_byteAt : zAr yX10_byteAt RX10 1 := ⟨rfl, by decide, by decide, by decide +kernel⟩
set_option maxHeartbeats 4000000 in
theorem kX10_byteAt (l : Launch) {w : zWd} (hw : zIsM w) {M0 : zM} {a1 : Int32} {r : Int32} (h : fX10_byteAt M0 a1 = some r) : Met l yX10_byteAt (Cond.code yX10_byteAt cX10_byteAt 2 (some .int) :: zU) rX10_byteAt (zPre w M0 [.ref (za w 0), .int a1]) (zR (some (.int r))) 0 0 zNo := by
  refine z_metN (own := RX10) (lv := [(0, .ref (za w 0)), (1, .int a1)]) hw.1 (by decide) (Nat.le_of_ble_eq_true rfl) rfl rfl ?_
  intro p e s m args below meth c G hr hlk hH ls hl
  unfold fX10_byteAt at h
  refine lv_iload_n G.x G.b dX10_byteAt_0 rfl (lv_at hl 1 rfl) ?_
  refine lv_aload_n G.x G.b dX10_byteAt_1 rfl (lv_at hl 0 rfl) ?_
  refine z_get (v := .int (M0.1 0 7)) (k := 0) G hH.1 (mM0 hw) vc10 inU10 7 (by decide) u774 rfl dX10_byteAt_2 ?_
  refine lv_icmp_ge (tgt := 17) G.x G.b dX10_byteAt_5 (by decide) (fun c1 => ?_) (fun c1 => ?_)
  · have h := z_if c1 h
    refine lv_iconst (v := (-1 : Int32)) G.x G.b dX10_byteAt_17 (by decide) ?_
    exact z_rtI G hr hlk h dX10_byteAt_18
  · have h := z_ifn c1 h
    refine lv_aload_n G.x G.b dX10_byteAt_8 rfl (lv_at hl 0 rfl) ?_
    refine z_get (v := .ref (za w 6)) (k := 0) G hH.1 (mM0 hw) vc10 inU10 6 (by decide) u773 rfl dX10_byteAt_9 ?_
    refine lv_iload_n G.x G.b dX10_byteAt_12 rfl (lv_at hl 1 rfl) ?_
    obtain ⟨j2, ej2, h⟩ := z_bind h
    refine z_iald (k := 6) G hH.1 (mM6 hw) ej2 dX10_byteAt_13 ?_
    refine lv_goto (tgt := 18) G.x G.b dX10_byteAt_14 (by decide) ?_
    exact z_rtI G hr hlk h dX10_byteAt_18
def fX10_isLetter (a1 : Int32) : Option Int32 :=
  (fX10_in a1.toInt64 (97 : Int64) (122 : Int64)).bind fun x1 =>
  zbl x1
abbrev rX10_isLetter : Room := { frames := 1, cells := 0, slots := 0, locals := 25 }
theorem arX10_isLetter : zAr yX10_isLetter RX10 1 := ⟨rfl, by decide, by decide, by decide +kernel⟩
set_option maxHeartbeats 4000000 in
theorem kX10_isLetter (l : Launch) {w : zWd} (ho : zOk w) {M0 : zM} {a1 : Int32} {r : Int32} (h : fX10_isLetter a1 = some r) : Met l yX10_isLetter (Cond.code yX10_isLetter cX10_isLetter 1 (some .boolean) :: zU) rX10_isLetter (zPre w M0 [.int a1]) (zR (some (.int r))) 0 0 zNo := by
  refine z_metN (own := RX10) (lv := [(0, .int a1)]) ho (by decide) (Nat.le_of_ble_eq_true rfl) rfl rfl ?_
  intro p e s m args below meth c G hr hlk hH ls hl
  unfold fX10_isLetter at h
  refine lv_iload_n G.x G.b dX10_isLetter_0 rfl (lv_at hl 0 rfl) ?_
  refine lv_i2l (v := a1.toInt64) G.x G.b dX10_isLetter_1 rfl ?_
  refine lv_ldc2 G.x G.b G.o (G.t u1120) dX10_isLetter_2 ?_
  refine lv_ldc2 G.x G.b G.o (G.t u1121) dX10_isLetter_5 ?_
  obtain ⟨x1, ex1, h⟩ := z_bind h
  refine z_rdI (z_runS (As := [.long a1.toInt64, .long (97 : Int64), .long (122 : Int64)]) (rest := []) G hH hl.1 (kX10_in l ho ex1) arX10_in u824 u825 u11 u826 rfl rfl rfl (Nat.le_of_ble_eq_true rfl) (Nat.le_of_ble_eq_true rfl) rfl (Nat.le_of_ble_eq_true rfl) dX10_isLetter_8) ?_
  exact z_rtZ G hr hlk h dX10_isLetter_11
def fX10_isDigit (a1 : Int32) : Option Int32 :=
  (fX10_in a1.toInt64 (48 : Int64) (57 : Int64)).bind fun x1 =>
  zbl x1
abbrev rX10_isDigit : Room := { frames := 1, cells := 0, slots := 0, locals := 25 }
theorem arX10_isDigit : zAr yX10_isDigit RX10 1 := ⟨rfl, by decide, by decide, by decide +kernel⟩
set_option maxHeartbeats 4000000 in
theorem kX10_isDigit (l : Launch) {w : zWd} (ho : zOk w) {M0 : zM} {a1 : Int32} {r : Int32} (h : fX10_isDigit a1 = some r) : Met l yX10_isDigit (Cond.code yX10_isDigit cX10_isDigit 1 (some .boolean) :: zU) rX10_isDigit (zPre w M0 [.int a1]) (zR (some (.int r))) 0 0 zNo := by
  refine z_metN (own := RX10) (lv := [(0, .int a1)]) ho (by decide) (Nat.le_of_ble_eq_true rfl) rfl rfl ?_
  intro p e s m args below meth c G hr hlk hH ls hl
  unfold fX10_isDigit at h
  refine lv_iload_n G.x G.b dX10_isDigit_0 rfl (lv_at hl 0 rfl) ?_
  refine lv_i2l (v := a1.toInt64) G.x G.b dX10_isDigit_1 rfl ?_
  refine lv_ldc2 G.x G.b G.o (G.t u1125) dX10_isDigit_2 ?_
  refine lv_ldc2 G.x G.b G.o (G.t u1126) dX10_isDigit_5 ?_
  obtain ⟨x1, ex1, h⟩ := z_bind h
  refine z_rdI (z_runS (As := [.long a1.toInt64, .long (48 : Int64), .long (57 : Int64)]) (rest := []) G hH hl.1 (kX10_in l ho ex1) arX10_in u824 u825 u11 u826 rfl rfl rfl (Nat.le_of_ble_eq_true rfl) (Nat.le_of_ble_eq_true rfl) rfl (Nat.le_of_ble_eq_true rfl) dX10_isDigit_8) ?_
  exact z_rtZ G hr hlk h dX10_isDigit_11
def bX10_token_86 (x5 : Int32) (x7 : Int32) (E135_12 : zM → Option zM) (rc14 : zM → Option zM) (M13 : zM) : Option zM :=
  zj ((some (zst M13 0 9 ((M13.1 0 9) + (1 : Int32)))).bind fun M16 =>
  rc14 M16) fun J122_15 =>
  zj (if x7 = (0 : Int32) then (E135_12 M13) else ((fX10_byteAt M13 (M13.1 0 9)).bind fun x19 =>
  (fX10_isDigit x19).bind fun x20 =>
  if x20 = (0 : Int32) then (E135_12 M13) else (J122_15))) fun J104_17 =>
  if x5 = (0 : Int32) then (J104_17) else ((fX10_byteAt M13 (M13.1 0 9)).bind fun x23 =>
  (fX10_isLetter x23).bind fun x24 =>
  if x24 = (0 : Int32) then (J104_17) else (J122_15))
def lX10_token_86 (x5 : Int32) (x7 : Int32) (E135_12 : zM → Option zM) : Nat → zM → Option zM := zL1 (bX10_token_86 x5 x7 E135_12)
def bX10_token_8 (E34_3 : zM → Option zM) (rc28 : zM → Option zM) (M27 : zM) : Option zM :=
  (fX10_byteAt M27 (M27.1 0 8)).bind fun x29 =>
  if x29 = (32 : Int32) then ((some (zst M27 0 8 ((M27.1 0 8) + (1 : Int32)))).bind fun M31 =>
  rc28 M31) else (E34_3 M27)
def lX10_token_8 (E34_3 : zM → Option zM) : Nat → zM → Option zM := zL1 (bX10_token_8 E34_3)
def fX10_token (M0 : zM) : Option zM :=
  (some (zst M0 0 8 (M0.1 0 9))).bind fun M1 =>
  zj (fun (M2 : zM) =>
  (fX10_byteAt M2 (M2.1 0 8)).bind fun x4 =>
  (fX10_isLetter x4).bind fun x5 =>
  (fX10_byteAt M2 (M2.1 0 8)).bind fun x6 =>
  (fX10_isDigit x6).bind fun x7 =>
  zj (fun (x8 : Int32) =>
  (some (zst M2 0 9 x8)).bind fun M10 =>
  zj (fun (M11 : zM) =>
  some M11) fun E135_12 =>
  lX10_token_86 x5 x7 E135_12 zFuel M10) fun J83_9 =>
  if (M2.1 0 7) ≤ (M2.1 0 8) then (J83_9 (M2.1 0 8)) else (J83_9 ((M2.1 0 8) + (1 : Int32)))) fun E34_3 =>
  lX10_token_8 E34_3 zFuel M1
abbrev rX10_token : Room := { frames := 2, cells := 0, slots := 0, locals := 45 }
theorem arX10_token : zAr yX10_token RX10 0 := ⟨rfl, by decide, by decide, by decide +kernel⟩
set_option maxHeartbeats 4000000 in
theorem kX10_token (l : Launch) {w : zWd} (hw : zIsM w) {M0 M' : zM} (h : fX10_token M0 = some M') : Met l yX10_token (Cond.code yX10_token cX10_token 3 (none) :: zU) rX10_token (zPre w M0 [.ref (za w 0)]) (zQ w (none) M') 0 0 (zA w) := by
  refine z_metN (own := RX10) (lv := [(0, .ref (za w 0))]) hw.1 (by decide) (Nat.le_of_ble_eq_true rfl) rfl rfl ?_
  intro p e s m args below meth c G hr hlk hH ls hl
  unfold fX10_token at h
  refine lv_aload_n G.x G.b dX10_token_0 rfl (lv_at hl 0 rfl) ?_
  refine lv_aload_n G.x G.b dX10_token_1 rfl (lv_at hl 0 rfl) ?_
  refine z_get (v := .int (M0.1 0 9)) (k := 0) G hH.1 (mM0 hw) vc10 inU10 9 (by decide) u776 rfl dX10_token_2 ?_
  obtain ⟨M1, eM1, h⟩ := z_let h
  refine z_putN (k := 0) G hH (mM0 hw) vc10 inU10 tyX10 tyX10_ok nmX10 8 (by decide) u775 rfl (ty := .int) rfl rfl rfl mP10_8 (Nat.le_of_ble_eq_true rfl) dX10_token_5 eM1 (fun H locs hH => ?_)
  obtain ⟨E34_3, hE34_3, h⟩ := z_j h
  have kE34_3 : ∀ (M2 : zM) (H : Heap) (locs : List Loc) (ls : Array Slot), E34_3 M2 = some M' → zH w s M2 H locs → lv_has ls 3 [(0, .ref (za w 0))] → zGo p l e rX10_token s m args below meth c (zQ w (none) M') (zA w) H locs (F0 m 34 ls []) := by
    intro M2 H locs ls h hH hl
    rw [hE34_3] at h
    refine lv_aload_n G.x G.b dX10_token_34 rfl (lv_at hl 0 rfl) ?_
    refine lv_aload_n G.x G.b dX10_token_35 rfl (lv_at hl 0 rfl) ?_
    refine z_get (v := .int (M2.1 0 8)) (k := 0) G hH.1 (mM0 hw) vc10 inU10 8 (by decide) u775 rfl dX10_token_36 ?_
    obtain ⟨x4, ex4, h⟩ := z_bind h
    refine z_rdI (z_runV (k := 0) (As := [.int (M2.1 0 8)]) (rest := []) G hH hl.1 (kX10_byteAt l hw ex4) (mM0 hw) vc10 arX10_byteAt u1113 u1115 us48 u11 u1116 rfl rfl rfl (Nat.le_of_ble_eq_true rfl) (Nat.le_of_ble_eq_true rfl) rfl (Nat.le_of_ble_eq_true rfl) dX10_token_39) ?_
    obtain ⟨x5, ex5, h⟩ := z_bind h
    refine z_rdI (z_runS (As := [.int x4]) (rest := []) G hH hl.1 (kX10_isLetter l hw.1 ex5) arX10_isLetter u1117 u1118 u11 u1119 rfl rfl rfl (Nat.le_of_ble_eq_true rfl) (Nat.le_of_ble_eq_true rfl) rfl (Nat.le_of_ble_eq_true rfl) dX10_token_42) ?_
    refine lv_istore_n (lv' := [(1, .int x5), (0, .ref (za w 0))]) G.x G.b dX10_token_45 rfl hl (Nat.le_of_ble_eq_true rfl) rfl (fun ls hl => ?_)
    refine lv_aload_n G.x G.b dX10_token_46 rfl (lv_at hl 1 rfl) ?_
    refine lv_aload_n G.x G.b dX10_token_47 rfl (lv_at hl 1 rfl) ?_
    refine z_get (v := .int (M2.1 0 8)) (k := 0) G hH.1 (mM0 hw) vc10 inU10 8 (by decide) u775 rfl dX10_token_48 ?_
    obtain ⟨x6, ex6, h⟩ := z_bind h
    refine z_rdI (z_runV (k := 0) (As := [.int (M2.1 0 8)]) (rest := []) G hH hl.1 (kX10_byteAt l hw ex6) (mM0 hw) vc10 arX10_byteAt u1113 u1115 us48 u11 u1116 rfl rfl rfl (Nat.le_of_ble_eq_true rfl) (Nat.le_of_ble_eq_true rfl) rfl (Nat.le_of_ble_eq_true rfl) dX10_token_51) ?_
    obtain ⟨x7, ex7, h⟩ := z_bind h
    refine z_rdI (z_runS (As := [.int x6]) (rest := []) G hH hl.1 (kX10_isDigit l hw.1 ex7) arX10_isDigit u1122 u1123 u11 u1124 rfl rfl rfl (Nat.le_of_ble_eq_true rfl) (Nat.le_of_ble_eq_true rfl) rfl (Nat.le_of_ble_eq_true rfl) dX10_token_54) ?_
    refine lv_istore_n (lv' := [(2, .int x7), (1, .int x5), (0, .ref (za w 0))]) G.x G.b dX10_token_57 rfl hl (Nat.le_of_ble_eq_true rfl) rfl (fun ls hl => ?_)
    refine lv_aload_n G.x G.b dX10_token_58 rfl (lv_at hl 2 rfl) ?_
    refine lv_aload_n G.x G.b dX10_token_59 rfl (lv_at hl 2 rfl) ?_
    refine z_get (v := .int (M2.1 0 8)) (k := 0) G hH.1 (mM0 hw) vc10 inU10 8 (by decide) u775 rfl dX10_token_60 ?_
    refine lv_aload_n G.x G.b dX10_token_63 rfl (lv_at hl 2 rfl) ?_
    refine z_get (v := .int (M2.1 0 7)) (k := 0) G hH.1 (mM0 hw) vc10 inU10 7 (by decide) u774 rfl dX10_token_64 ?_
    obtain ⟨J83_9, hJ83_9, h⟩ := z_j h
    have kJ83_9 : ∀ (x8 : Int32) (ls : Array Slot), J83_9 x8 = some M' → lv_has ls 3 [(0, .ref (za w 0)), (1, .int x5), (2, .int x7)] → zGo p l e rX10_token s m args below meth c (zQ w (none) M') (zA w) H locs (F0 m 83 ls [.int x8, .ref (za w 0)]) := by
      intro x8 ls h hl
      rw [hJ83_9] at h
      obtain ⟨M10, eM10, h⟩ := z_let h
      refine z_putN (k := 0) G hH (mM0 hw) vc10 inU10 tyX10 tyX10_ok nmX10 9 (by decide) u776 rfl (ty := .int) rfl rfl rfl mP10_9 (Nat.le_of_ble_eq_true rfl) dX10_token_83 eM10 (fun H locs hH => ?_)
      obtain ⟨E135_12, hE135_12, h⟩ := z_j h
      have kE135_12 : ∀ (M11 : zM) (H : Heap) (locs : List Loc) (ls : Array Slot), E135_12 M11 = some M' → zH w s M11 H locs → lv_has ls 3 [] → zGo p l e rX10_token s m args below meth c (zQ w (none) M') (zA w) H locs (F0 m 135 ls []) := by
        intro M11 H locs ls h hH hl
        rw [hE135_12] at h
        exact z_retV G hr hlk hH h dX10_token_135
      have n14 : ∀ (n : Nat) (M13 : zM) (H : Heap) (locs : List Loc) (ls : Array Slot), zL1 (bX10_token_86 x5 x7 E135_12) n M13 = some M' → zH w s M13 H locs → lv_has ls 3 [(0, .ref (za w 0)), (1, .int x5), (2, .int x7)] → zGo p l e rX10_token s m args below meth c (zQ w (none) M') (zA w) H locs (F0 m 86 ls []) := by
        intro n
        induction n with
        | zero => intro M13 H locs ls h; exact (zL1_0 h).elim
        | succ n ih14 =>
          intro M13 H locs ls h hH hl
          obtain ⟨rc14, hrc14, h⟩ := zL1_s h
          rw [← hrc14] at ih14
          unfold bX10_token_86 at h
          refine lv_iload_n G.x G.b dX10_token_86 rfl (lv_at hl 1 rfl) ?_
          obtain ⟨J122_15, hJ122_15, h⟩ := z_j h
          have kJ122_15 : ∀ (ls : Array Slot), J122_15 = some M' → lv_has ls 3 [(0, .ref (za w 0)), (1, .int x5), (2, .int x7)] → zGo p l e rX10_token s m args below meth c (zQ w (none) M') (zA w) H locs (F0 m 122 ls []) := by
            intro ls h hl
            rw [hJ122_15] at h
            refine lv_aload_n G.x G.b dX10_token_122 rfl (lv_at hl 0 rfl) ?_
            refine lv_dup G.x G.b dX10_token_123 rfl ?_
            refine z_get (v := .int (M13.1 0 9)) (k := 0) G hH.1 (mM0 hw) vc10 inU10 9 (by decide) u776 rfl dX10_token_124 ?_
            refine lv_iconst (v := (1 : Int32)) G.x G.b dX10_token_127 (by decide) ?_
            refine lv_iadd G.x G.b dX10_token_128 ?_
            obtain ⟨M16, eM16, h⟩ := z_let h
            refine z_putN (k := 0) G hH (mM0 hw) vc10 inU10 tyX10 tyX10_ok nmX10 9 (by decide) u776 rfl (ty := .int) rfl rfl rfl mP10_9 (Nat.le_of_ble_eq_true rfl) dX10_token_129 eM16 (fun H locs hH => ?_)
            refine lv_goto (tgt := 86) G.x G.b dX10_token_132 (by decide) ?_
            exact ih14 M16 H locs ls h hH (lv_sub hl [0, 1, 2] rfl)
          obtain ⟨J104_17, hJ104_17, h⟩ := z_j h
          have kJ104_17 : ∀ (ls : Array Slot), J104_17 = some M' → lv_has ls 3 [(0, .ref (za w 0)), (1, .int x5), (2, .int x7)] → zGo p l e rX10_token s m args below meth c (zQ w (none) M') (zA w) H locs (F0 m 104 ls []) := by
            intro ls h hl
            rw [hJ104_17] at h
            refine lv_iload_n G.x G.b dX10_token_104 rfl (lv_at hl 2 rfl) ?_
            refine lv_if_eq (tgt := 135) G.x G.b dX10_token_105 (by decide) (fun c18 => ?_) (fun c18 => ?_)
            · have h := z_if c18 h
              exact kE135_12 M13 H locs ls h hH (lv_sub hl [] rfl)
            · have h := z_ifn c18 h
              refine lv_aload_n G.x G.b dX10_token_108 rfl (lv_at hl 0 rfl) ?_
              refine lv_aload_n G.x G.b dX10_token_109 rfl (lv_at hl 0 rfl) ?_
              refine z_get (v := .int (M13.1 0 9)) (k := 0) G hH.1 (mM0 hw) vc10 inU10 9 (by decide) u776 rfl dX10_token_110 ?_
              obtain ⟨x19, ex19, h⟩ := z_bind h
              refine z_rdI (z_runV (k := 0) (As := [.int (M13.1 0 9)]) (rest := []) G hH hl.1 (kX10_byteAt l hw ex19) (mM0 hw) vc10 arX10_byteAt u1113 u1115 us48 u11 u1116 rfl rfl rfl (Nat.le_of_ble_eq_true rfl) (Nat.le_of_ble_eq_true rfl) rfl (Nat.le_of_ble_eq_true rfl) dX10_token_113) ?_
              obtain ⟨x20, ex20, h⟩ := z_bind h
              refine z_rdI (z_runS (As := [.int x19]) (rest := []) G hH hl.1 (kX10_isDigit l hw.1 ex20) arX10_isDigit u1122 u1123 u11 u1124 rfl rfl rfl (Nat.le_of_ble_eq_true rfl) (Nat.le_of_ble_eq_true rfl) rfl (Nat.le_of_ble_eq_true rfl) dX10_token_116) ?_
              refine lv_if_eq (tgt := 135) G.x G.b dX10_token_119 (by decide) (fun c21 => ?_) (fun c21 => ?_)
              · have h := z_if c21 h
                exact kE135_12 M13 H locs ls h hH (lv_sub hl [] rfl)
              · have h := z_ifn c21 h
                exact kJ122_15 ls h (lv_sub hl [0, 1, 2] rfl)
          refine lv_if_eq (tgt := 104) G.x G.b dX10_token_87 (by decide) (fun c22 => ?_) (fun c22 => ?_)
          · have h := z_if c22 h
            exact kJ104_17 ls h (lv_sub hl [0, 1, 2] rfl)
          · have h := z_ifn c22 h
            refine lv_aload_n G.x G.b dX10_token_90 rfl (lv_at hl 0 rfl) ?_
            refine lv_aload_n G.x G.b dX10_token_91 rfl (lv_at hl 0 rfl) ?_
            refine z_get (v := .int (M13.1 0 9)) (k := 0) G hH.1 (mM0 hw) vc10 inU10 9 (by decide) u776 rfl dX10_token_92 ?_
            obtain ⟨x23, ex23, h⟩ := z_bind h
            refine z_rdI (z_runV (k := 0) (As := [.int (M13.1 0 9)]) (rest := []) G hH hl.1 (kX10_byteAt l hw ex23) (mM0 hw) vc10 arX10_byteAt u1113 u1115 us48 u11 u1116 rfl rfl rfl (Nat.le_of_ble_eq_true rfl) (Nat.le_of_ble_eq_true rfl) rfl (Nat.le_of_ble_eq_true rfl) dX10_token_95) ?_
            obtain ⟨x24, ex24, h⟩ := z_bind h
            refine z_rdI (z_runS (As := [.int x23]) (rest := []) G hH hl.1 (kX10_isLetter l hw.1 ex24) arX10_isLetter u1117 u1118 u11 u1119 rfl rfl rfl (Nat.le_of_ble_eq_true rfl) (Nat.le_of_ble_eq_true rfl) rfl (Nat.le_of_ble_eq_true rfl) dX10_token_98) ?_
            refine lv_if_ne (tgt := 122) G.x G.b dX10_token_101 (by decide) (fun c25 => ?_) (fun c25 => ?_)
            · have h := z_ifn c25 h
              exact kJ122_15 ls h (lv_sub hl [0, 1, 2] rfl)
            · have h := z_if c25 h
              exact kJ104_17 ls h (lv_sub hl [0, 1, 2] rfl)
      exact n14 zFuel M10 H locs ls h hH (lv_sub hl [0, 1, 2] rfl)
    refine lv_icmp_ge (tgt := 79) G.x G.b dX10_token_67 (by decide) (fun c26 => ?_) (fun c26 => ?_)
    · have h := z_if c26 h
      refine lv_aload_n G.x G.b dX10_token_79 rfl (lv_at hl 2 rfl) ?_
      refine z_get (v := .int (M2.1 0 8)) (k := 0) G hH.1 (mM0 hw) vc10 inU10 8 (by decide) u775 rfl dX10_token_80 ?_
      exact kJ83_9 (M2.1 0 8) ls h (lv_sub hl [2, 1, 0] rfl)
    · have h := z_ifn c26 h
      refine lv_aload_n G.x G.b dX10_token_70 rfl (lv_at hl 2 rfl) ?_
      refine z_get (v := .int (M2.1 0 8)) (k := 0) G hH.1 (mM0 hw) vc10 inU10 8 (by decide) u775 rfl dX10_token_71 ?_
      refine lv_iconst (v := (1 : Int32)) G.x G.b dX10_token_74 (by decide) ?_
      refine lv_iadd G.x G.b dX10_token_75 ?_
      refine lv_goto (tgt := 83) G.x G.b dX10_token_76 (by decide) ?_
      exact kJ83_9 ((M2.1 0 8) + (1 : Int32)) ls h (lv_sub hl [2, 1, 0] rfl)
  have n28 : ∀ (n : Nat) (M27 : zM) (H : Heap) (locs : List Loc) (ls : Array Slot), zL1 (bX10_token_8 E34_3) n M27 = some M' → zH w s M27 H locs → lv_has ls 3 [(0, .ref (za w 0))] → zGo p l e rX10_token s m args below meth c (zQ w (none) M') (zA w) H locs (F0 m 8 ls []) := by
    intro n
    induction n with
    | zero => intro M27 H locs ls h; exact (zL1_0 h).elim
    | succ n ih28 =>
      intro M27 H locs ls h hH hl
      obtain ⟨rc28, hrc28, h⟩ := zL1_s h
      rw [← hrc28] at ih28
      unfold bX10_token_8 at h
      refine lv_aload_n G.x G.b dX10_token_8 rfl (lv_at hl 0 rfl) ?_
      refine lv_aload_n G.x G.b dX10_token_9 rfl (lv_at hl 0 rfl) ?_
      refine z_get (v := .int (M27.1 0 8)) (k := 0) G hH.1 (mM0 hw) vc10 inU10 8 (by decide) u775 rfl dX10_token_10 ?_
      obtain ⟨x29, ex29, h⟩ := z_bind h
      refine z_rdI (z_runV (k := 0) (As := [.int (M27.1 0 8)]) (rest := []) G hH hl.1 (kX10_byteAt l hw ex29) (mM0 hw) vc10 arX10_byteAt u1113 u1115 us48 u11 u1116 rfl rfl rfl (Nat.le_of_ble_eq_true rfl) (Nat.le_of_ble_eq_true rfl) rfl (Nat.le_of_ble_eq_true rfl) dX10_token_13) ?_
      refine lv_bipush (v := (32 : Int32)) G.x G.b dX10_token_16 (by decide) ?_
      refine lv_icmp_ne (tgt := 34) G.x G.b dX10_token_18 (by decide) (fun c30 => ?_) (fun c30 => ?_)
      · have h := z_ifn c30 h
        exact kE34_3 M27 H locs ls h hH (lv_sub hl [0] rfl)
      · have h := z_if c30 h
        refine lv_aload_n G.x G.b dX10_token_21 rfl (lv_at hl 0 rfl) ?_
        refine lv_dup G.x G.b dX10_token_22 rfl ?_
        refine z_get (v := .int (M27.1 0 8)) (k := 0) G hH.1 (mM0 hw) vc10 inU10 8 (by decide) u775 rfl dX10_token_23 ?_
        refine lv_iconst (v := (1 : Int32)) G.x G.b dX10_token_26 (by decide) ?_
        refine lv_iadd G.x G.b dX10_token_27 ?_
        obtain ⟨M31, eM31, h⟩ := z_let h
        refine z_putN (k := 0) G hH (mM0 hw) vc10 inU10 tyX10 tyX10_ok nmX10 8 (by decide) u775 rfl (ty := .int) rfl rfl rfl mP10_8 (Nat.le_of_ble_eq_true rfl) dX10_token_28 eM31 (fun H locs hH => ?_)
        refine lv_goto (tgt := 8) G.x G.b dX10_token_31 (by decide) ?_
        exact ih28 M31 H locs ls h hH (lv_sub hl [0] rfl)
  exact n28 zFuel M1 H locs ls h hH (lv_sub hl [0] rfl)
def fX10_must (M0 : zM) (a1 : Int32) : Option zM :=
  zj (fun (x1 : Int32) =>
  (zbl x1).bind fun x3 =>
  (some (zst M0 0 11 x3)).bind fun M4 =>
  if (M4.1 0 11) = (0 : Int32) then ((fX10_token M4).bind fun M6 =>
  some M6) else (some M4)) fun J17_2 =>
  zj (J17_2 (1 : Int32)) fun J12_7 =>
  if (M0.1 0 11) = (0 : Int32) then (if a1 = (0 : Int32) then (J12_7) else (J17_2 (0 : Int32))) else (J12_7)
abbrev rX10_must : Room := { frames := 3, cells := 0, slots := 0, locals := 67 }
theorem arX10_must : zAr yX10_must RX10 1 := ⟨rfl, by decide, by decide, by decide +kernel⟩
set_option maxHeartbeats 4000000 in
theorem kX10_must (l : Launch) {w : zWd} (hw : zIsM w) {M0 M' : zM} {a1 : Int32} (h : fX10_must M0 a1 = some M') : Met l yX10_must (Cond.code yX10_must cX10_must 2 (none) :: zU) rX10_must (zPre w M0 [.ref (za w 0), .int a1]) (zQ w (none) M') 0 0 (zA w) := by
  refine z_metN (own := RX10) (lv := [(0, .ref (za w 0)), (1, .int a1)]) hw.1 (by decide) (Nat.le_of_ble_eq_true rfl) rfl rfl ?_
  intro p e s m args below meth c G hr hlk hH ls hl
  unfold fX10_must at h
  refine lv_aload_n G.x G.b dX10_must_0 rfl (lv_at hl 0 rfl) ?_
  refine lv_aload_n G.x G.b dX10_must_1 rfl (lv_at hl 0 rfl) ?_
  refine z_get (v := .int (M0.1 0 11)) (k := 0) G hH.1 (mM0 hw) vc10 inU10 11 (by decide) u778 rfl dX10_must_2 ?_
  obtain ⟨J17_2, hJ17_2, h⟩ := z_j h
  have kJ17_2 : ∀ (x1 : Int32) (ls : Array Slot), J17_2 x1 = some M' → lv_has ls 2 [(0, .ref (za w 0))] → zGo p l e rX10_must s m args below meth c (zQ w (none) M') (zA w) s.heap [] (F0 m 17 ls [.int x1, .ref (za w 0)]) := by
    intro x1 ls h hl
    rw [hJ17_2] at h
    obtain ⟨x3, ex3, h⟩ := z_bind h
    obtain ⟨gx3, ex3⟩ := zbl_some ex3
    refine z_nmI ex3.symm ?_
    rw [ex3] at gx3
    obtain ⟨M4, eM4, h⟩ := z_let h
    refine z_putN (k := 0) G hH (mM0 hw) vc10 inU10 tyX10 tyX10_ok nmX10 11 (by decide) u778 rfl (ty := .boolean) rfl (zbl_nar gx3) (zbl_fit gx3) mP10_11 (Nat.le_of_ble_eq_true rfl) dX10_must_17 eM4 (fun H locs hH => ?_)
    refine lv_aload_n G.x G.b dX10_must_20 rfl (lv_at hl 0 rfl) ?_
    refine z_get (v := .int (M4.1 0 11)) (k := 0) G hH.1 (mM0 hw) vc10 inU10 11 (by decide) u778 rfl dX10_must_21 ?_
    refine lv_if_ne (tgt := 31) G.x G.b dX10_must_24 (by decide) (fun c5 => ?_) (fun c5 => ?_)
    · have h := z_ifn c5 h
      exact z_retV G hr hlk hH h dX10_must_31
    · have h := z_if c5 h
      refine lv_aload_n G.x G.b dX10_must_27 rfl (lv_at hl 0 rfl) ?_
      obtain ⟨M6, eM6, h⟩ := z_bind h
      refine z_aftV (z_runV (k := 0) (As := []) (rest := []) G hH hl.1 (kX10_token l hw eM6) (mM0 hw) vc10 arX10_token u1109 u1111 us47 u11 u1112 rfl rfl rfl (Nat.le_of_ble_eq_true rfl) (Nat.le_of_ble_eq_true rfl) rfl (Nat.le_of_ble_eq_true rfl) dX10_must_28) hH (fun H locs hH => ?_)
      exact z_retV G hr hlk hH h dX10_must_31
  obtain ⟨J12_7, hJ12_7, h⟩ := z_j h
  have kJ12_7 : ∀ (ls : Array Slot), J12_7 = some M' → lv_has ls 2 [(0, .ref (za w 0))] → zGo p l e rX10_must s m args below meth c (zQ w (none) M') (zA w) s.heap [] (F0 m 12 ls [.ref (za w 0)]) := by
    intro ls h hl
    rw [hJ12_7] at h
    refine lv_iconst (v := (1 : Int32)) G.x G.b dX10_must_12 (by decide) ?_
    refine lv_goto (tgt := 17) G.x G.b dX10_must_13 (by decide) ?_
    exact kJ17_2 (1 : Int32) ls h (lv_sub hl [0] rfl)
  refine lv_if_ne (tgt := 12) G.x G.b dX10_must_5 (by decide) (fun c8 => ?_) (fun c8 => ?_)
  · have h := z_ifn c8 h
    exact kJ12_7 ls h (lv_sub hl [0] rfl)
  · have h := z_if c8 h
    refine lv_iload_n G.x G.b dX10_must_8 rfl (lv_at hl 1 rfl) ?_
    refine lv_if_ne (tgt := 16) G.x G.b dX10_must_9 (by decide) (fun c9 => ?_) (fun c9 => ?_)
    · have h := z_ifn c9 h
      refine lv_iconst (v := (0 : Int32)) G.x G.b dX10_must_16 (by decide) ?_
      exact kJ17_2 (0 : Int32) ls h (lv_sub hl [0] rfl)
    · have h := z_if c9 h
      exact kJ12_7 ls h (lv_sub hl [0] rfl)
def bX10_word_7 (M0 : zM) (E50_3 : Int64 → Option Int64) (rc10 : Int64 → Int32 → Option Int64) (y8 : Int64) (x9 : Int32) : Option Int64 :=
  if (M0.1 0 9) ≤ x9 then (E50_3 y8) else (zj (fun (y12 : Int64) =>
  (some (x9 + (1 : Int32))).bind fun x14 =>
  rc10 y12 x14) fun J43_13 =>
  if (lg_cmp y8 (36028797018963967 : Int64)) ≤ (0 : Int32) then ((zix x9 120).bind fun j16 =>
  J43_13 (((32 : Int64) * y8) + ((M0.1 6 j16) - (96 : Int32)).toInt64)) else (J43_13 y8))
def lX10_word_7 (M0 : zM) (E50_3 : Int64 → Option Int64) : Nat → Int64 → Int32 → Option Int64 := zL2 (bX10_word_7 M0 E50_3)
def fX10_word (M0 : zM) : Option Int64 :=
  (some (M0.1 0 8)).bind fun x1 =>
  zj (fun (y2 : Int64) =>
  if (M0.1 0 11) = (0 : Int32) then ((fX10_byteAt M0 (M0.1 0 8)).bind fun x5 =>
  (fX10_isLetter x5).bind fun x6 =>
  if x6 = (0 : Int32) then (some (0 : Int64)) else (some y2)) else (some (0 : Int64))) fun E50_3 =>
  lX10_word_7 M0 E50_3 zFuel (0 : Int64) x1
abbrev rX10_word : Room := { frames := 2, cells := 0, slots := 0, locals := 45 }
theorem arX10_word : zAr yX10_word RX10 0 := ⟨rfl, by decide, by decide, by decide +kernel⟩
set_option maxHeartbeats 4000000 in
theorem kX10_word (l : Launch) {w : zWd} (hw : zIsM w) {M0 : zM} {r : Int64} (h : fX10_word M0 = some r) : Met l yX10_word (Cond.code yX10_word cX10_word 4 (some .long) :: zU) rX10_word (zPre w M0 [.ref (za w 0)]) (zR (some (.long r))) 0 0 zNo := by
  refine z_metN (own := RX10) (lv := [(0, .ref (za w 0))]) hw.1 (by decide) (Nat.le_of_ble_eq_true rfl) rfl rfl ?_
  intro p e s m args below meth c G hr hlk hH ls hl
  unfold fX10_word at h
  refine lv_lconst (v := (0 : Int64)) G.x G.b dX10_word_0 (by decide) ?_
  refine lv_lstore_n (lv' := [(1, .long (0 : Int64)), (0, .ref (za w 0))]) G.x G.b dX10_word_1 rfl hl (Nat.le_of_ble_eq_true rfl) rfl (fun ls hl => ?_)
  refine lv_aload_n G.x G.b dX10_word_2 rfl (lv_at hl 1 rfl) ?_
  refine z_get (v := .int (M0.1 0 8)) (k := 0) G hH.1 (mM0 hw) vc10 inU10 8 (by decide) u775 rfl dX10_word_3 ?_
  obtain ⟨x1, ex1, h⟩ := z_let h
  refine z_nmI ex1 ?_
  refine lv_istore_n (lv' := [(3, .int x1), (1, .long (0 : Int64)), (0, .ref (za w 0))]) G.x G.b dX10_word_6 rfl hl (Nat.le_of_ble_eq_true rfl) rfl (fun ls hl => ?_)
  obtain ⟨E50_3, hE50_3, h⟩ := z_j h
  have kE50_3 : ∀ (y2 : Int64) (ls : Array Slot), E50_3 y2 = some r → lv_has ls 4 [(0, .ref (za w 0)), (1, .long y2)] → zGo p l e rX10_word s m args below meth c (zR (some (.long r))) zNo s.heap [] (F0 m 50 ls []) := by
    intro y2 ls h hl
    rw [hE50_3] at h
    refine lv_aload_n G.x G.b dX10_word_50 rfl (lv_at hl 0 rfl) ?_
    refine z_get (v := .int (M0.1 0 11)) (k := 0) G hH.1 (mM0 hw) vc10 inU10 11 (by decide) u778 rfl dX10_word_51 ?_
    refine lv_if_ne (tgt := 71) G.x G.b dX10_word_54 (by decide) (fun c4 => ?_) (fun c4 => ?_)
    · have h := z_ifn c4 h
      refine lv_lconst (v := (0 : Int64)) G.x G.b dX10_word_71 (by decide) ?_
      refine lv_goto (tgt := 76) G.x G.b dX10_word_72 (by decide) ?_
      exact z_rtL G hr hlk h dX10_word_76
    · have h := z_if c4 h
      refine lv_aload_n G.x G.b dX10_word_57 rfl (lv_at hl 0 rfl) ?_
      refine lv_aload_n G.x G.b dX10_word_58 rfl (lv_at hl 0 rfl) ?_
      refine z_get (v := .int (M0.1 0 8)) (k := 0) G hH.1 (mM0 hw) vc10 inU10 8 (by decide) u775 rfl dX10_word_59 ?_
      obtain ⟨x5, ex5, h⟩ := z_bind h
      refine z_rdI (z_runV (k := 0) (As := [.int (M0.1 0 8)]) (rest := []) G hH hl.1 (kX10_byteAt l hw ex5) (mM0 hw) vc10 arX10_byteAt u1113 u1115 us48 u11 u1116 rfl rfl rfl (Nat.le_of_ble_eq_true rfl) (Nat.le_of_ble_eq_true rfl) rfl (Nat.le_of_ble_eq_true rfl) dX10_word_62) ?_
      obtain ⟨x6, ex6, h⟩ := z_bind h
      refine z_rdI (z_runS (As := [.int x5]) (rest := []) G hH hl.1 (kX10_isLetter l hw.1 ex6) arX10_isLetter u1117 u1118 u11 u1119 rfl rfl rfl (Nat.le_of_ble_eq_true rfl) (Nat.le_of_ble_eq_true rfl) rfl (Nat.le_of_ble_eq_true rfl) dX10_word_65) ?_
      refine lv_if_ne (tgt := 75) G.x G.b dX10_word_68 (by decide) (fun c7 => ?_) (fun c7 => ?_)
      · have h := z_ifn c7 h
        refine lv_lload_n G.x G.b dX10_word_75 rfl (lv_at hl 1 rfl) ?_
        exact z_rtL G hr hlk h dX10_word_76
      · have h := z_if c7 h
        refine lv_lconst (v := (0 : Int64)) G.x G.b dX10_word_71 (by decide) ?_
        refine lv_goto (tgt := 76) G.x G.b dX10_word_72 (by decide) ?_
        exact z_rtL G hr hlk h dX10_word_76
  have n10 : ∀ (n : Nat) (y8 : Int64) (x9 : Int32) (ls : Array Slot), zL2 (bX10_word_7 M0 E50_3) n y8 x9 = some r → lv_has ls 4 [(0, .ref (za w 0)), (1, .long y8), (3, .int x9)] → zGo p l e rX10_word s m args below meth c (zR (some (.long r))) zNo s.heap [] (F0 m 7 ls []) := by
    intro n
    induction n with
    | zero => intro y8 x9 ls h; exact (zL2_0 h).elim
    | succ n ih10 =>
      intro y8 x9 ls h hl
      obtain ⟨rc10, hrc10, h⟩ := zL2_s h
      rw [← hrc10] at ih10
      unfold bX10_word_7 at h
      refine lv_iload_n G.x G.b dX10_word_7 rfl (lv_at hl 2 rfl) ?_
      refine lv_aload_n G.x G.b dX10_word_8 rfl (lv_at hl 0 rfl) ?_
      refine z_get (v := .int (M0.1 0 9)) (k := 0) G hH.1 (mM0 hw) vc10 inU10 9 (by decide) u776 rfl dX10_word_9 ?_
      refine lv_icmp_ge (tgt := 50) G.x G.b dX10_word_12 (by decide) (fun c11 => ?_) (fun c11 => ?_)
      · have h := z_if c11 h
        exact kE50_3 y8 ls h (lv_sub hl [0, 1] rfl)
      · have h := z_ifn c11 h
        refine lv_lload_n G.x G.b dX10_word_15 rfl (lv_at hl 1 rfl) ?_
        refine lv_ldc2 G.x G.b G.o (G.t u1139) dX10_word_16 ?_
        refine W.lcmp G.x G.b dX10_word_19 ?_
        obtain ⟨J43_13, hJ43_13, h⟩ := z_j h
        have kJ43_13 : ∀ (y12 : Int64) (ls : Array Slot), J43_13 y12 = some r → lv_has ls 4 [(0, .ref (za w 0)), (3, .int x9)] → zGo p l e rX10_word s m args below meth c (zR (some (.long r))) zNo s.heap [] (F0 m 43 ls [.long y12]) := by
          intro y12 ls h hl
          rw [hJ43_13] at h
          refine lv_lstore_n (lv' := [(1, .long y12), (0, .ref (za w 0)), (3, .int x9)]) G.x G.b dX10_word_43 rfl hl (Nat.le_of_ble_eq_true rfl) rfl (fun ls hl => ?_)
          obtain ⟨x14, ex14, h⟩ := z_let h
          refine lv_iinc (v := x14) (lv' := [(3, .int x14), (1, .long y12), (0, .ref (za w 0))]) G.x G.b dX10_word_44 hl (k := 2) rfl (by rw [ex14]; rfl) (Nat.le_of_ble_eq_true rfl) rfl (fun ls hl => ?_)
          refine lv_goto (tgt := 7) G.x G.b dX10_word_47 (by decide) ?_
          exact ih10 y12 x14 ls h (lv_sub hl [2, 1, 0] rfl)
        refine lv_if_le (tgt := 27) G.x G.b dX10_word_20 (by decide) (fun c15 => ?_) (fun c15 => ?_)
        · have h := z_if c15 h
          refine lv_ldc2 G.x G.b G.o (G.t u1140) dX10_word_27 ?_
          refine lv_lload_n G.x G.b dX10_word_30 rfl (lv_at hl 1 rfl) ?_
          refine lv_lmul G.x G.b dX10_word_31 ?_
          refine lv_aload_n G.x G.b dX10_word_32 rfl (lv_at hl 0 rfl) ?_
          refine z_get (v := .ref (za w 6)) (k := 0) G hH.1 (mM0 hw) vc10 inU10 6 (by decide) u773 rfl dX10_word_33 ?_
          refine lv_iload_n G.x G.b dX10_word_36 rfl (lv_at hl 2 rfl) ?_
          obtain ⟨j16, ej16, h⟩ := z_bind h
          refine z_iald (k := 6) G hH.1 (mM6 hw) ej16 dX10_word_37 ?_
          refine lv_bipush (v := (96 : Int32)) G.x G.b dX10_word_38 (by decide) ?_
          refine lv_isub G.x G.b dX10_word_40 ?_
          refine lv_i2l (v := ((M0.1 6 j16) - (96 : Int32)).toInt64) G.x G.b dX10_word_41 rfl ?_
          refine lv_ladd G.x G.b dX10_word_42 ?_
          exact kJ43_13 (((32 : Int64) * y8) + ((M0.1 6 j16) - (96 : Int32)).toInt64) ls h (lv_sub hl [0, 2] rfl)
        · have h := z_ifn c15 h
          refine lv_lload_n G.x G.b dX10_word_23 rfl (lv_at hl 1 rfl) ?_
          refine lv_goto (tgt := 43) G.x G.b dX10_word_24 (by decide) ?_
          exact kJ43_13 y8 ls h (lv_sub hl [0, 2] rfl)
  exact n10 zFuel (0 : Int64) x1 ls h (lv_sub hl [2, 1, 0] rfl)
def bX10_number_29 (M0 : zM) (x3 : Int32) (E79_6 : Int32 → Option zM) (rc16 : Int32 → Int32 → Option zM) (x14 : Int32) (x15 : Int32) : Option zM :=
  if (M0.1 0 9) ≤ x15 then (E79_6 x14) else (if x3 = (0 : Int32) then (E79_6 x14) else (zj (fun (x19 : Int32) =>
  (some (x15 + (1 : Int32))).bind fun x21 =>
  rc16 x19 x21) fun J71_20 =>
  if x14 ≤ (9999 : Int32) then ((zix x15 120).bind fun j23 =>
  J71_20 ((((10 : Int32) * x14) + (M0.1 6 j23)) - (48 : Int32))) else (J71_20 x14)))
def lX10_number_29 (M0 : zM) (x3 : Int32) (E79_6 : Int32 → Option zM) : Nat → Int32 → Int32 → Option zM := zL2 (bX10_number_29 M0 x3 E79_6)
def fX10_number (M0 : zM) (a1 : Int32) (a2 : Int32) : Option zM :=
  if (M0.1 0 11) = (0 : Int32) then ((fX10_byteAt M0 (M0.1 0 8)).bind fun x2 =>
  (fX10_isDigit x2).bind fun x3 =>
  (some (M0.1 0 8)).bind fun x4 =>
  zj (fun (x5 : Int32) =>
  (some (zst M0 0 10 x5)).bind fun M7 =>
  if x3 = (0 : Int32) then ((fX10_must M7 (0 : Int32)).bind fun M9 =>
  some M9) else ((fX10_in x5.toInt64 a1.toInt64 a2.toInt64).bind fun x10 =>
  if x10 = (0 : Int32) then ((fX10_must M7 (0 : Int32)).bind fun M12 =>
  some M12) else ((fX10_must M7 (1 : Int32)).bind fun M13 =>
  some M13))) fun E79_6 =>
  lX10_number_29 M0 x3 E79_6 zFuel (0 : Int32) x4) else (some M0)
abbrev rX10_number : Room := { frames := 4, cells := 0, slots := 0, locals := 88 }
theorem arX10_number : zAr yX10_number RX10 2 := ⟨rfl, by decide, by decide, by decide +kernel⟩
set_option maxHeartbeats 4000000 in
theorem kX10_number (l : Launch) {w : zWd} (hw : zIsM w) {M0 M' : zM} {a1 : Int32} {a2 : Int32} (h : fX10_number M0 a1 a2 = some M') : Met l yX10_number (Cond.code yX10_number cX10_number 6 (none) :: zU) rX10_number (zPre w M0 [.ref (za w 0), .int a1, .int a2]) (zQ w (none) M') 0 0 (zA w) := by
  refine z_metN (own := RX10) (lv := [(0, .ref (za w 0)), (1, .int a1), (2, .int a2)]) hw.1 (by decide) (Nat.le_of_ble_eq_true rfl) rfl rfl ?_
  intro p e s m args below meth c G hr hlk hH ls hl
  unfold fX10_number at h
  refine lv_aload_n G.x G.b dX10_number_0 rfl (lv_at hl 0 rfl) ?_
  refine z_get (v := .int (M0.1 0 11)) (k := 0) G hH.1 (mM0 hw) vc10 inU10 11 (by decide) u778 rfl dX10_number_1 ?_
  refine lv_if_eq (tgt := 8) G.x G.b dX10_number_4 (by decide) (fun c1 => ?_) (fun c1 => ?_)
  · have h := z_if c1 h
    refine lv_aload_n G.x G.b dX10_number_8 rfl (lv_at hl 0 rfl) ?_
    refine lv_aload_n G.x G.b dX10_number_9 rfl (lv_at hl 0 rfl) ?_
    refine z_get (v := .int (M0.1 0 8)) (k := 0) G hH.1 (mM0 hw) vc10 inU10 8 (by decide) u775 rfl dX10_number_10 ?_
    obtain ⟨x2, ex2, h⟩ := z_bind h
    refine z_rdI (z_runV (k := 0) (As := [.int (M0.1 0 8)]) (rest := []) G hH hl.1 (kX10_byteAt l hw ex2) (mM0 hw) vc10 arX10_byteAt u1113 u1115 us48 u11 u1116 rfl rfl rfl (Nat.le_of_ble_eq_true rfl) (Nat.le_of_ble_eq_true rfl) rfl (Nat.le_of_ble_eq_true rfl) dX10_number_13) ?_
    obtain ⟨x3, ex3, h⟩ := z_bind h
    refine z_rdI (z_runS (As := [.int x2]) (rest := []) G hH hl.1 (kX10_isDigit l hw.1 ex3) arX10_isDigit u1122 u1123 u11 u1124 rfl rfl rfl (Nat.le_of_ble_eq_true rfl) (Nat.le_of_ble_eq_true rfl) rfl (Nat.le_of_ble_eq_true rfl) dX10_number_16) ?_
    refine lv_istore_n (lv' := [(3, .int x3), (0, .ref (za w 0)), (1, .int a1), (2, .int a2)]) G.x G.b dX10_number_19 rfl hl (Nat.le_of_ble_eq_true rfl) rfl (fun ls hl => ?_)
    refine lv_iconst (v := (0 : Int32)) G.x G.b dX10_number_20 (by decide) ?_
    refine lv_istore (lv' := [(4, .int (0 : Int32)), (3, .int x3), (0, .ref (za w 0)), (1, .int a1), (2, .int a2)]) G.x G.b dX10_number_21 hl (Nat.le_of_ble_eq_true rfl) rfl (fun ls hl => ?_)
    refine lv_aload_n G.x G.b dX10_number_23 rfl (lv_at hl 2 rfl) ?_
    refine z_get (v := .int (M0.1 0 8)) (k := 0) G hH.1 (mM0 hw) vc10 inU10 8 (by decide) u775 rfl dX10_number_24 ?_
    obtain ⟨x4, ex4, h⟩ := z_let h
    refine z_nmI ex4 ?_
    refine lv_istore (lv' := [(5, .int x4), (4, .int (0 : Int32)), (3, .int x3), (0, .ref (za w 0)), (1, .int a1), (2, .int a2)]) G.x G.b dX10_number_27 hl (Nat.le_of_ble_eq_true rfl) rfl (fun ls hl => ?_)
    obtain ⟨E79_6, hE79_6, h⟩ := z_j h
    have kE79_6 : ∀ (x5 : Int32) (ls : Array Slot), E79_6 x5 = some M' → lv_has ls 6 [(0, .ref (za w 0)), (1, .int a1), (2, .int a2), (3, .int x3), (4, .int x5)] → zGo p l e rX10_number s m args below meth c (zQ w (none) M') (zA w) s.heap [] (F0 m 79 ls []) := by
      intro x5 ls h hl
      rw [hE79_6] at h
      refine lv_aload_n G.x G.b dX10_number_79 rfl (lv_at hl 0 rfl) ?_
      refine lv_iload G.x G.b dX10_number_80 (lv_at hl 4 rfl) ?_
      obtain ⟨M7, eM7, h⟩ := z_let h
      refine z_putN (k := 0) G hH (mM0 hw) vc10 inU10 tyX10 tyX10_ok nmX10 10 (by decide) u777 rfl (ty := .int) rfl rfl rfl mP10_10 (Nat.le_of_ble_eq_true rfl) dX10_number_82 eM7 (fun H locs hH => ?_)
      refine lv_aload_n G.x G.b dX10_number_85 rfl (lv_at hl 0 rfl) ?_
      refine lv_iload_n G.x G.b dX10_number_86 rfl (lv_at hl 3 rfl) ?_
      refine lv_if_eq (tgt := 107) G.x G.b dX10_number_87 (by decide) (fun c8 => ?_) (fun c8 => ?_)
      · have h := z_if c8 h
        refine lv_iconst (v := (0 : Int32)) G.x G.b dX10_number_107 (by decide) ?_
        obtain ⟨M9, eM9, h⟩ := z_bind h
        refine z_aftV (z_runV (k := 0) (As := [.int (0 : Int32)]) (rest := []) G hH hl.1 (kX10_must l hw eM9) (mM0 hw) vc10 arX10_must u1151 u1153 us53 u11 u1154 rfl rfl rfl (Nat.le_of_ble_eq_true rfl) (Nat.le_of_ble_eq_true rfl) rfl (Nat.le_of_ble_eq_true rfl) dX10_number_108) hH (fun H locs hH => ?_)
        exact z_retV G hr hlk hH h dX10_number_111
      · have h := z_ifn c8 h
        refine lv_iload G.x G.b dX10_number_90 (lv_at hl 4 rfl) ?_
        refine lv_i2l (v := x5.toInt64) G.x G.b dX10_number_92 rfl ?_
        refine lv_iload_n G.x G.b dX10_number_93 rfl (lv_at hl 1 rfl) ?_
        refine lv_i2l (v := a1.toInt64) G.x G.b dX10_number_94 rfl ?_
        refine lv_iload_n G.x G.b dX10_number_95 rfl (lv_at hl 2 rfl) ?_
        refine lv_i2l (v := a2.toInt64) G.x G.b dX10_number_96 rfl ?_
        obtain ⟨x10, ex10, h⟩ := z_bind h
        refine z_rdI (z_runS (As := [.long x5.toInt64, .long a1.toInt64, .long a2.toInt64]) (rest := [.ref (za w 0)]) G hH hl.1 (kX10_in l hw.1 ex10) arX10_in u824 u825 u11 u826 rfl rfl rfl (Nat.le_of_ble_eq_true rfl) (Nat.le_of_ble_eq_true rfl) rfl (Nat.le_of_ble_eq_true rfl) dX10_number_97) ?_
        refine lv_if_eq (tgt := 107) G.x G.b dX10_number_100 (by decide) (fun c11 => ?_) (fun c11 => ?_)
        · have h := z_if c11 h
          refine lv_iconst (v := (0 : Int32)) G.x G.b dX10_number_107 (by decide) ?_
          obtain ⟨M12, eM12, h⟩ := z_bind h
          refine z_aftV (z_runV (k := 0) (As := [.int (0 : Int32)]) (rest := []) G hH hl.1 (kX10_must l hw eM12) (mM0 hw) vc10 arX10_must u1151 u1153 us53 u11 u1154 rfl rfl rfl (Nat.le_of_ble_eq_true rfl) (Nat.le_of_ble_eq_true rfl) rfl (Nat.le_of_ble_eq_true rfl) dX10_number_108) hH (fun H locs hH => ?_)
          exact z_retV G hr hlk hH h dX10_number_111
        · have h := z_ifn c11 h
          refine lv_iconst (v := (1 : Int32)) G.x G.b dX10_number_103 (by decide) ?_
          refine lv_goto (tgt := 108) G.x G.b dX10_number_104 (by decide) ?_
          obtain ⟨M13, eM13, h⟩ := z_bind h
          refine z_aftV (z_runV (k := 0) (As := [.int (1 : Int32)]) (rest := []) G hH hl.1 (kX10_must l hw eM13) (mM0 hw) vc10 arX10_must u1151 u1153 us53 u11 u1154 rfl rfl rfl (Nat.le_of_ble_eq_true rfl) (Nat.le_of_ble_eq_true rfl) rfl (Nat.le_of_ble_eq_true rfl) dX10_number_108) hH (fun H locs hH => ?_)
          exact z_retV G hr hlk hH h dX10_number_111
    have n16 : ∀ (n : Nat) (x14 : Int32) (x15 : Int32) (ls : Array Slot), zL2 (bX10_number_29 M0 x3 E79_6) n x14 x15 = some M' → lv_has ls 6 [(0, .ref (za w 0)), (1, .int a1), (2, .int a2), (3, .int x3), (4, .int x14), (5, .int x15)] → zGo p l e rX10_number s m args below meth c (zQ w (none) M') (zA w) s.heap [] (F0 m 29 ls []) := by
      intro n
      induction n with
      | zero => intro x14 x15 ls h; exact (zL2_0 h).elim
      | succ n ih16 =>
        intro x14 x15 ls h hl
        obtain ⟨rc16, hrc16, h⟩ := zL2_s h
        rw [← hrc16] at ih16
        unfold bX10_number_29 at h
        refine lv_iload G.x G.b dX10_number_29 (lv_at hl 5 rfl) ?_
        refine lv_aload_n G.x G.b dX10_number_31 rfl (lv_at hl 0 rfl) ?_
        refine z_get (v := .int (M0.1 0 9)) (k := 0) G hH.1 (mM0 hw) vc10 inU10 9 (by decide) u776 rfl dX10_number_32 ?_
        refine lv_icmp_ge (tgt := 79) G.x G.b dX10_number_35 (by decide) (fun c17 => ?_) (fun c17 => ?_)
        · have h := z_if c17 h
          exact kE79_6 x14 ls h (lv_sub hl [0, 1, 2, 3, 4] rfl)
        · have h := z_ifn c17 h
          refine lv_iload_n G.x G.b dX10_number_38 rfl (lv_at hl 3 rfl) ?_
          refine lv_if_eq (tgt := 79) G.x G.b dX10_number_39 (by decide) (fun c18 => ?_) (fun c18 => ?_)
          · have h := z_if c18 h
            exact kE79_6 x14 ls h (lv_sub hl [0, 1, 2, 3, 4] rfl)
          · have h := z_ifn c18 h
            refine lv_iload G.x G.b dX10_number_42 (lv_at hl 4 rfl) ?_
            refine lv_sipush (v := (9999 : Int32)) G.x G.b dX10_number_44 (by decide) ?_
            obtain ⟨J71_20, hJ71_20, h⟩ := z_j h
            have kJ71_20 : ∀ (x19 : Int32) (ls : Array Slot), J71_20 x19 = some M' → lv_has ls 6 [(0, .ref (za w 0)), (1, .int a1), (2, .int a2), (3, .int x3), (5, .int x15)] → zGo p l e rX10_number s m args below meth c (zQ w (none) M') (zA w) s.heap [] (F0 m 71 ls [.int x19]) := by
              intro x19 ls h hl
              rw [hJ71_20] at h
              refine lv_istore (lv' := [(4, .int x19), (0, .ref (za w 0)), (1, .int a1), (2, .int a2), (3, .int x3), (5, .int x15)]) G.x G.b dX10_number_71 hl (Nat.le_of_ble_eq_true rfl) rfl (fun ls hl => ?_)
              obtain ⟨x21, ex21, h⟩ := z_let h
              refine lv_iinc (v := x21) (lv' := [(5, .int x21), (4, .int x19), (0, .ref (za w 0)), (1, .int a1), (2, .int a2), (3, .int x3)]) G.x G.b dX10_number_73 hl (k := 5) rfl (by rw [ex21]; rfl) (Nat.le_of_ble_eq_true rfl) rfl (fun ls hl => ?_)
              refine lv_goto (tgt := 29) G.x G.b dX10_number_76 (by decide) ?_
              exact ih16 x19 x21 ls h (lv_sub hl [2, 3, 4, 5, 1, 0] rfl)
            refine lv_icmp_le (tgt := 55) G.x G.b dX10_number_47 (by decide) (fun c22 => ?_) (fun c22 => ?_)
            · have h := z_if c22 h
              refine lv_bipush (v := (10 : Int32)) G.x G.b dX10_number_55 (by decide) ?_
              refine lv_iload G.x G.b dX10_number_57 (lv_at hl 4 rfl) ?_
              refine lv_imul G.x G.b dX10_number_59 ?_
              refine lv_aload_n G.x G.b dX10_number_60 rfl (lv_at hl 0 rfl) ?_
              refine z_get (v := .ref (za w 6)) (k := 0) G hH.1 (mM0 hw) vc10 inU10 6 (by decide) u773 rfl dX10_number_61 ?_
              refine lv_iload G.x G.b dX10_number_64 (lv_at hl 5 rfl) ?_
              obtain ⟨j23, ej23, h⟩ := z_bind h
              refine z_iald (k := 6) G hH.1 (mM6 hw) ej23 dX10_number_66 ?_
              refine lv_iadd G.x G.b dX10_number_67 ?_
              refine lv_bipush (v := (48 : Int32)) G.x G.b dX10_number_68 (by decide) ?_
              refine lv_isub G.x G.b dX10_number_70 ?_
              exact kJ71_20 ((((10 : Int32) * x14) + (M0.1 6 j23)) - (48 : Int32)) ls h (lv_sub hl [0, 1, 2, 3, 5] rfl)
            · have h := z_ifn c22 h
              refine lv_iload G.x G.b dX10_number_50 (lv_at hl 4 rfl) ?_
              refine lv_goto (tgt := 71) G.x G.b dX10_number_52 (by decide) ?_
              exact kJ71_20 x14 ls h (lv_sub hl [0, 1, 2, 3, 5] rfl)
    exact n16 zFuel (0 : Int32) x4 ls h (lv_sub hl [3, 4, 5, 2, 1, 0] rfl)
  · have h := z_ifn c1 h
    exact z_retV G hr hlk hH h dX10_number_7
def fX10_kindHere (M0 : zM) : Option Int32 :=
  (fX10_word M0).bind fun y1 =>
  if (lg_cmp y1 (2262596 : Int64)) = (0 : Int32) then (some (0 : Int32)) else (if (lg_cmp y1 (244784306 : Int64)) = (0 : Int32) then (some (1 : Int32)) else (if (lg_cmp y1 (24389253 : Int64)) = (0 : Int32) then (some (2 : Int32)) else (if (lg_cmp y1 (14832254356741 : Int64)) = (0 : Int32) then (some (3 : Int32)) else (if (lg_cmp y1 (323739001900 : Int64)) = (0 : Int32) then (some (4 : Int32)) else (if (lg_cmp y1 (17648634087528 : Int64)) = (0 : Int32) then (some (5 : Int32)) else (some (-1 : Int32)))))))
abbrev rX10_kindHere : Room := { frames := 3, cells := 0, slots := 0, locals := 68 }
theorem arX10_kindHere : zAr yX10_kindHere RX10 0 := ⟨rfl, by decide, by decide, by decide +kernel⟩
set_option maxHeartbeats 4000000 in
theorem kX10_kindHere (l : Launch) {w : zWd} (hw : zIsM w) {M0 : zM} {r : Int32} (h : fX10_kindHere M0 = some r) : Met l yX10_kindHere (Cond.code yX10_kindHere cX10_kindHere 3 (some .int) :: zU) rX10_kindHere (zPre w M0 [.ref (za w 0)]) (zR (some (.int r))) 0 0 zNo := by
  refine z_metN (own := RX10) (lv := [(0, .ref (za w 0))]) hw.1 (by decide) (Nat.le_of_ble_eq_true rfl) rfl rfl ?_
  intro p e s m args below meth c G hr hlk hH ls hl
  unfold fX10_kindHere at h
  refine lv_aload_n G.x G.b dX10_kindHere_0 rfl (lv_at hl 0 rfl) ?_
  obtain ⟨y1, ey1, h⟩ := z_bind h
  refine z_rdL (z_runV (k := 0) (As := []) (rest := []) G hH hl.1 (kX10_word l hw ey1) (mM0 hw) vc10 arX10_word u1135 u1137 us51 u11 u1138 rfl rfl rfl (Nat.le_of_ble_eq_true rfl) (Nat.le_of_ble_eq_true rfl) rfl (Nat.le_of_ble_eq_true rfl) dX10_kindHere_1) ?_
  refine lv_lstore_n (lv' := [(1, .long y1), (0, .ref (za w 0))]) G.x G.b dX10_kindHere_4 rfl hl (Nat.le_of_ble_eq_true rfl) rfl (fun ls hl => ?_)
  refine lv_lload_n G.x G.b dX10_kindHere_5 rfl (lv_at hl 0 rfl) ?_
  refine lv_ldc2 G.x G.b G.o (G.t u1141) dX10_kindHere_6 ?_
  refine W.lcmp G.x G.b dX10_kindHere_9 ?_
  refine lv_if_ne (tgt := 17) G.x G.b dX10_kindHere_10 (by decide) (fun c2 => ?_) (fun c2 => ?_)
  · have h := z_ifn c2 h
    refine lv_lload_n G.x G.b dX10_kindHere_17 rfl (lv_at hl 0 rfl) ?_
    refine lv_ldc2 G.x G.b G.o (G.t u1142) dX10_kindHere_18 ?_
    refine W.lcmp G.x G.b dX10_kindHere_21 ?_
    refine lv_if_ne (tgt := 29) G.x G.b dX10_kindHere_22 (by decide) (fun c3 => ?_) (fun c3 => ?_)
    · have h := z_ifn c3 h
      refine lv_lload_n G.x G.b dX10_kindHere_29 rfl (lv_at hl 0 rfl) ?_
      refine lv_ldc2 G.x G.b G.o (G.t u1143) dX10_kindHere_30 ?_
      refine W.lcmp G.x G.b dX10_kindHere_33 ?_
      refine lv_if_ne (tgt := 41) G.x G.b dX10_kindHere_34 (by decide) (fun c4 => ?_) (fun c4 => ?_)
      · have h := z_ifn c4 h
        refine lv_lload_n G.x G.b dX10_kindHere_41 rfl (lv_at hl 0 rfl) ?_
        refine lv_ldc2 G.x G.b G.o (G.t u1144) dX10_kindHere_42 ?_
        refine W.lcmp G.x G.b dX10_kindHere_45 ?_
        refine lv_if_ne (tgt := 53) G.x G.b dX10_kindHere_46 (by decide) (fun c5 => ?_) (fun c5 => ?_)
        · have h := z_ifn c5 h
          refine lv_lload_n G.x G.b dX10_kindHere_53 rfl (lv_at hl 0 rfl) ?_
          refine lv_ldc2 G.x G.b G.o (G.t u1145) dX10_kindHere_54 ?_
          refine W.lcmp G.x G.b dX10_kindHere_57 ?_
          refine lv_if_ne (tgt := 65) G.x G.b dX10_kindHere_58 (by decide) (fun c6 => ?_) (fun c6 => ?_)
          · have h := z_ifn c6 h
            refine lv_lload_n G.x G.b dX10_kindHere_65 rfl (lv_at hl 0 rfl) ?_
            refine lv_ldc2 G.x G.b G.o (G.t u1146) dX10_kindHere_66 ?_
            refine W.lcmp G.x G.b dX10_kindHere_69 ?_
            refine lv_if_ne (tgt := 77) G.x G.b dX10_kindHere_70 (by decide) (fun c7 => ?_) (fun c7 => ?_)
            · have h := z_ifn c7 h
              refine lv_iconst (v := (-1 : Int32)) G.x G.b dX10_kindHere_77 (by decide) ?_
              exact z_rtI G hr hlk h dX10_kindHere_78
            · have h := z_if c7 h
              refine lv_iconst (v := (5 : Int32)) G.x G.b dX10_kindHere_73 (by decide) ?_
              refine lv_goto (tgt := 78) G.x G.b dX10_kindHere_74 (by decide) ?_
              exact z_rtI G hr hlk h dX10_kindHere_78
          · have h := z_if c6 h
            refine lv_iconst (v := (4 : Int32)) G.x G.b dX10_kindHere_61 (by decide) ?_
            refine lv_goto (tgt := 78) G.x G.b dX10_kindHere_62 (by decide) ?_
            exact z_rtI G hr hlk h dX10_kindHere_78
        · have h := z_if c5 h
          refine lv_iconst (v := (3 : Int32)) G.x G.b dX10_kindHere_49 (by decide) ?_
          refine lv_goto (tgt := 78) G.x G.b dX10_kindHere_50 (by decide) ?_
          exact z_rtI G hr hlk h dX10_kindHere_78
      · have h := z_if c4 h
        refine lv_iconst (v := (2 : Int32)) G.x G.b dX10_kindHere_37 (by decide) ?_
        refine lv_goto (tgt := 78) G.x G.b dX10_kindHere_38 (by decide) ?_
        exact z_rtI G hr hlk h dX10_kindHere_78
    · have h := z_if c3 h
      refine lv_iconst (v := (1 : Int32)) G.x G.b dX10_kindHere_25 (by decide) ?_
      refine lv_goto (tgt := 78) G.x G.b dX10_kindHere_26 (by decide) ?_
      exact z_rtI G hr hlk h dX10_kindHere_78
  · have h := z_if c2 h
    refine lv_iconst (v := (0 : Int32)) G.x G.b dX10_kindHere_13 (by decide) ?_
    refine lv_goto (tgt := 78) G.x G.b dX10_kindHere_14 (by decide) ?_
    exact z_rtI G hr hlk h dX10_kindHere_78
def fX10_partItem (M0 : zM) (a1 : Int64) (a2 : Int32) (a3 : Int32) : Option zM :=
  (fX10_word M0).bind fun y1 =>
  if (lg_cmp y1 a1) = (0 : Int32) then ((fX10_must M0 (1 : Int32)).bind fun M3 =>
  (fX10_number M3 (0 : Int32) a3).bind fun M4 =>
  if (M4.1 0 11) = (0 : Int32) then ((zix a2 59).bind fun j6 =>
  (some (zst M4 1 j6 (M4.1 0 10))).bind fun M7 =>
  some M7) else ((zix a2 59).bind fun j8 =>
  (zix a2 59).bind fun j9 =>
  (some (zst M4 1 j9 (M4.1 1 j8))).bind fun M10 =>
  some M10)) else (some M0)
abbrev rX10_partItem : Room := { frames := 5, cells := 0, slots := 0, locals := 113 }
theorem arX10_partItem : zAr yX10_partItem RX10 3 := ⟨rfl, by decide, by decide, by decide +kernel⟩
set_option maxHeartbeats 4000000 in
theorem kX10_partItem (l : Launch) {w : zWd} (hw : zIsM w) {M0 M' : zM} {a1 : Int64} {a2 : Int32} {a3 : Int32} (h : fX10_partItem M0 a1 a2 a3 = some M') : Met l yX10_partItem (Cond.code yX10_partItem cX10_partItem 5 (none) :: zU) rX10_partItem (zPre w M0 [.ref (za w 0), .long a1, .int a2, .int a3]) (zQ w (none) M') 0 0 (zA w) := by
  refine z_metN (own := RX10) (lv := [(0, .ref (za w 0)), (1, .long a1), (3, .int a2), (4, .int a3)]) hw.1 (by decide) (Nat.le_of_ble_eq_true rfl) rfl rfl ?_
  intro p e s m args below meth c G hr hlk hH ls hl
  unfold fX10_partItem at h
  refine lv_aload_n G.x G.b dX10_partItem_0 rfl (lv_at hl 0 rfl) ?_
  obtain ⟨y1, ey1, h⟩ := z_bind h
  refine z_rdL (z_runV (k := 0) (As := []) (rest := []) G hH hl.1 (kX10_word l hw ey1) (mM0 hw) vc10 arX10_word u1135 u1137 us51 u11 u1138 rfl rfl rfl (Nat.le_of_ble_eq_true rfl) (Nat.le_of_ble_eq_true rfl) rfl (Nat.le_of_ble_eq_true rfl) dX10_partItem_1) ?_
  refine lv_lload_n G.x G.b dX10_partItem_4 rfl (lv_at hl 1 rfl) ?_
  refine W.lcmp G.x G.b dX10_partItem_5 ?_
  refine lv_if_ne (tgt := 47) G.x G.b dX10_partItem_6 (by decide) (fun c2 => ?_) (fun c2 => ?_)
  · have h := z_ifn c2 h
    exact z_retV G hr hlk hH h dX10_partItem_47
  · have h := z_if c2 h
    refine lv_aload_n G.x G.b dX10_partItem_9 rfl (lv_at hl 0 rfl) ?_
    refine lv_iconst (v := (1 : Int32)) G.x G.b dX10_partItem_10 (by decide) ?_
    obtain ⟨M3, eM3, h⟩ := z_bind h
    refine z_aftV (z_runV (k := 0) (As := [.int (1 : Int32)]) (rest := []) G hH hl.1 (kX10_must l hw eM3) (mM0 hw) vc10 arX10_must u1151 u1153 us53 u11 u1154 rfl rfl rfl (Nat.le_of_ble_eq_true rfl) (Nat.le_of_ble_eq_true rfl) rfl (Nat.le_of_ble_eq_true rfl) dX10_partItem_11) hH (fun H locs hH => ?_)
    refine lv_aload_n G.x G.b dX10_partItem_14 rfl (lv_at hl 0 rfl) ?_
    refine lv_iconst (v := (0 : Int32)) G.x G.b dX10_partItem_15 (by decide) ?_
    refine lv_iload G.x G.b dX10_partItem_16 (lv_at hl 3 rfl) ?_
    obtain ⟨M4, eM4, h⟩ := z_bind h
    refine z_aftV (z_runV (k := 0) (As := [.int (0 : Int32), .int a3]) (rest := []) G hH hl.1 (kX10_number l hw eM4) (mM0 hw) vc10 arX10_number u1160 u1162 us55 u11 u1163 rfl rfl rfl (Nat.le_of_ble_eq_true rfl) (Nat.le_of_ble_eq_true rfl) rfl (Nat.le_of_ble_eq_true rfl) dX10_partItem_18) hH (fun H locs hH => ?_)
    refine lv_aload_n G.x G.b dX10_partItem_21 rfl (lv_at hl 0 rfl) ?_
    refine z_get (v := .ref (za w 1)) (k := 0) G hH.1 (mM0 hw) vc10 inU10 0 (by decide) u767 rfl dX10_partItem_22 ?_
    refine lv_iload_n G.x G.b dX10_partItem_25 rfl (lv_at hl 2 rfl) ?_
    refine lv_aload_n G.x G.b dX10_partItem_26 rfl (lv_at hl 0 rfl) ?_
    refine z_get (v := .int (M4.1 0 11)) (k := 0) G hH.1 (mM0 hw) vc10 inU10 11 (by decide) u778 rfl dX10_partItem_27 ?_
    refine lv_if_eq (tgt := 42) G.x G.b dX10_partItem_30 (by decide) (fun c5 => ?_) (fun c5 => ?_)
    · have h := z_if c5 h
      refine lv_aload_n G.x G.b dX10_partItem_42 rfl (lv_at hl 0 rfl) ?_
      refine z_get (v := .int (M4.1 0 10)) (k := 0) G hH.1 (mM0 hw) vc10 inU10 10 (by decide) u777 rfl dX10_partItem_43 ?_
      obtain ⟨j6, ej6, h⟩ := z_bind h
      obtain ⟨M7, eM7, h⟩ := z_let h
      refine z_iastN (k := 1) G hH (mM1 hw) ej6 dX10_partItem_46 eM7 (fun H locs hH => ?_)
      exact z_retV G hr hlk hH h dX10_partItem_47
    · have h := z_ifn c5 h
      refine lv_aload_n G.x G.b dX10_partItem_33 rfl (lv_at hl 0 rfl) ?_
      refine z_get (v := .ref (za w 1)) (k := 0) G hH.1 (mM0 hw) vc10 inU10 0 (by decide) u767 rfl dX10_partItem_34 ?_
      refine lv_iload_n G.x G.b dX10_partItem_37 rfl (lv_at hl 2 rfl) ?_
      obtain ⟨j8, ej8, h⟩ := z_bind h
      refine z_iald (k := 1) G hH.1 (mM1 hw) ej8 dX10_partItem_38 ?_
      refine lv_goto (tgt := 46) G.x G.b dX10_partItem_39 (by decide) ?_
      obtain ⟨j9, ej9, h⟩ := z_bind h
      obtain ⟨M10, eM10, h⟩ := z_let h
      refine z_iastN (k := 1) G hH (mM1 hw) ej9 dX10_partItem_46 eM10 (fun H locs hH => ?_)
      exact z_retV G hr hlk hH h dX10_partItem_47
def fX10_beardItem (M0 : zM) (a1 : Int32) : Option zM :=
  zj (fun (x1 : Int32) =>
  (fX10_must M0 x1).bind fun M3 =>
  if (M3.1 0 11) = (0 : Int32) then (zb2 (fX10_addsBeard M3 a1) fun x5 M6 =>
  (fX10_beardSpot x5 (1 : Int32)).bind fun x7 =>
  (fX10_partItem M6 (198053 : Int64) x7 (99 : Int32)).bind fun M8 =>
  (fX10_beardSpot x5 (2 : Int32)).bind fun x9 =>
  (fX10_partItem M8 (8881732 : Int64) x9 (999 : Int32)).bind fun M10 =>
  some M10) else (some M3)) fun J17_2 =>
  if (8 : Int32) ≤ (M0.1 1 1) then (J17_2 (0 : Int32)) else (J17_2 (1 : Int32))
abbrev rX10_beardItem : Room := { frames := 6, cells := 0, slots := 0, locals := 137 }
theorem arX10_beardItem : zAr yX10_beardItem RX10 1 := ⟨rfl, by decide, by decide, by decide +kernel⟩
set_option maxHeartbeats 4000000 in
theorem kX10_beardItem (l : Launch) {w : zWd} (hw : zIsM w) {M0 M' : zM} {a1 : Int32} (h : fX10_beardItem M0 a1 = some M') : Met l yX10_beardItem (Cond.code yX10_beardItem cX10_beardItem 3 (none) :: zU) rX10_beardItem (zPre w M0 [.ref (za w 0), .int a1]) (zQ w (none) M') 0 0 (zA w) := by
  refine z_metN (own := RX10) (lv := [(0, .ref (za w 0)), (1, .int a1)]) hw.1 (by decide) (Nat.le_of_ble_eq_true rfl) rfl rfl ?_
  intro p e s m args below meth c G hr hlk hH ls hl
  unfold fX10_beardItem at h
  refine lv_aload_n G.x G.b dX10_beardItem_0 rfl (lv_at hl 0 rfl) ?_
  refine lv_aload_n G.x G.b dX10_beardItem_1 rfl (lv_at hl 0 rfl) ?_
  refine z_get (v := .ref (za w 1)) (k := 0) G hH.1 (mM0 hw) vc10 inU10 0 (by decide) u767 rfl dX10_beardItem_2 ?_
  refine lv_iconst (v := (1 : Int32)) G.x G.b dX10_beardItem_5 (by decide) ?_
  refine z_iald (k := 1) G hH.1 (mM1 hw) (by decide : zix (1 : Int32) 59 = some 1) dX10_beardItem_6 ?_
  refine lv_bipush (v := (8 : Int32)) G.x G.b dX10_beardItem_7 (by decide) ?_
  obtain ⟨J17_2, hJ17_2, h⟩ := z_j h
  have kJ17_2 : ∀ (x1 : Int32) (ls : Array Slot), J17_2 x1 = some M' → lv_has ls 3 [(0, .ref (za w 0)), (1, .int a1)] → zGo p l e rX10_beardItem s m args below meth c (zQ w (none) M') (zA w) s.heap [] (F0 m 17 ls [.int x1, .ref (za w 0)]) := by
    intro x1 ls h hl
    rw [hJ17_2] at h
    obtain ⟨M3, eM3, h⟩ := z_bind h
    refine z_aftV (z_runV (k := 0) (As := [.int x1]) (rest := []) G hH hl.1 (kX10_must l hw eM3) (mM0 hw) vc10 arX10_must u1151 u1153 us53 u11 u1154 rfl rfl rfl (Nat.le_of_ble_eq_true rfl) (Nat.le_of_ble_eq_true rfl) rfl (Nat.le_of_ble_eq_true rfl) dX10_beardItem_17) hH (fun H locs hH => ?_)
    refine lv_aload_n G.x G.b dX10_beardItem_20 rfl (lv_at hl 0 rfl) ?_
    refine z_get (v := .int (M3.1 0 11)) (k := 0) G hH.1 (mM0 hw) vc10 inU10 11 (by decide) u778 rfl dX10_beardItem_21 ?_
    refine lv_if_eq (tgt := 28) G.x G.b dX10_beardItem_24 (by decide) (fun c4 => ?_) (fun c4 => ?_)
    · have h := z_if c4 h
      refine lv_aload_n G.x G.b dX10_beardItem_28 rfl (lv_at hl 0 rfl) ?_
      refine lv_iload_n G.x G.b dX10_beardItem_29 rfl (lv_at hl 1 rfl) ?_
      obtain ⟨x5, M6, eM6, h⟩ := z_b2 h
      refine z_aftI (z_runV (k := 0) (As := [.int a1]) (rest := []) G hH hl.1 (kX10_addsBeard l hw eM6) (mM0 hw) vc10 arX10_addsBeard u905 u907 us27 u11 u908 rfl rfl rfl (Nat.le_of_ble_eq_true rfl) (Nat.le_of_ble_eq_true rfl) rfl (Nat.le_of_ble_eq_true rfl) dX10_beardItem_30) hH (fun H locs hH => ?_)
      refine lv_istore_n (lv' := [(2, .int x5), (0, .ref (za w 0)), (1, .int a1)]) G.x G.b dX10_beardItem_33 rfl hl (Nat.le_of_ble_eq_true rfl) rfl (fun ls hl => ?_)
      refine lv_aload_n G.x G.b dX10_beardItem_34 rfl (lv_at hl 1 rfl) ?_
      refine lv_ldc2 G.x G.b G.o (G.t u1155) dX10_beardItem_35 ?_
      refine lv_iload_n G.x G.b dX10_beardItem_38 rfl (lv_at hl 0 rfl) ?_
      refine lv_iconst (v := (1 : Int32)) G.x G.b dX10_beardItem_39 (by decide) ?_
      obtain ⟨x7, ex7, h⟩ := z_bind h
      refine z_rdI (z_runS (As := [.int x5, .int (1 : Int32)]) (rest := [.long (198053 : Int64), .ref (za w 0)]) G hH hl.1 (kX10_beardSpot l hw.1 ex7) arX10_beardSpot u886 u887 u11 u888 rfl rfl rfl (Nat.le_of_ble_eq_true rfl) (Nat.le_of_ble_eq_true rfl) rfl (Nat.le_of_ble_eq_true rfl) dX10_beardItem_40) ?_
      refine lv_bipush (v := (99 : Int32)) G.x G.b dX10_beardItem_43 (by decide) ?_
      obtain ⟨M8, eM8, h⟩ := z_bind h
      refine z_aftV (z_runV (k := 0) (As := [.long (198053 : Int64), .int x7, .int (99 : Int32)]) (rest := []) G hH hl.1 (kX10_partItem l hw eM8) (mM0 hw) vc10 arX10_partItem u1156 u1158 us54 u11 u1159 rfl rfl rfl (Nat.le_of_ble_eq_true rfl) (Nat.le_of_ble_eq_true rfl) rfl (Nat.le_of_ble_eq_true rfl) dX10_beardItem_45) hH (fun H locs hH => ?_)
      refine lv_aload_n G.x G.b dX10_beardItem_48 rfl (lv_at hl 1 rfl) ?_
      refine lv_ldc2 G.x G.b G.o (G.t u1164) dX10_beardItem_49 ?_
      refine lv_iload_n G.x G.b dX10_beardItem_52 rfl (lv_at hl 0 rfl) ?_
      refine lv_iconst (v := (2 : Int32)) G.x G.b dX10_beardItem_53 (by decide) ?_
      obtain ⟨x9, ex9, h⟩ := z_bind h
      refine z_rdI (z_runS (As := [.int x5, .int (2 : Int32)]) (rest := [.long (8881732 : Int64), .ref (za w 0)]) G hH hl.1 (kX10_beardSpot l hw.1 ex9) arX10_beardSpot u886 u887 u11 u888 rfl rfl rfl (Nat.le_of_ble_eq_true rfl) (Nat.le_of_ble_eq_true rfl) rfl (Nat.le_of_ble_eq_true rfl) dX10_beardItem_54) ?_
      refine lv_sipush (v := (999 : Int32)) G.x G.b dX10_beardItem_57 (by decide) ?_
      obtain ⟨M10, eM10, h⟩ := z_bind h
      refine z_aftV (z_runV (k := 0) (As := [.long (8881732 : Int64), .int x9, .int (999 : Int32)]) (rest := []) G hH hl.1 (kX10_partItem l hw eM10) (mM0 hw) vc10 arX10_partItem u1156 u1158 us54 u11 u1159 rfl rfl rfl (Nat.le_of_ble_eq_true rfl) (Nat.le_of_ble_eq_true rfl) rfl (Nat.le_of_ble_eq_true rfl) dX10_beardItem_60) hH (fun H locs hH => ?_)
      exact z_retV G hr hlk hH h dX10_beardItem_63
    · have h := z_ifn c4 h
      exact z_retV G hr hlk hH h dX10_beardItem_27
  refine lv_icmp_ge (tgt := 16) G.x G.b dX10_beardItem_9 (by decide) (fun c11 => ?_) (fun c11 => ?_)
  · have h := z_if c11 h
    refine lv_iconst (v := (0 : Int32)) G.x G.b dX10_beardItem_16 (by decide) ?_
    exact kJ17_2 (0 : Int32) ls h (lv_sub hl [0, 1] rfl)
  · have h := z_ifn c11 h
    refine lv_iconst (v := (1 : Int32)) G.x G.b dX10_beardItem_12 (by decide) ?_
    refine lv_goto (tgt := 17) G.x G.b dX10_beardItem_13 (by decide) ?_
    exact kJ17_2 (1 : Int32) ls h (lv_sub hl [0, 1] rfl)
def fX10_wearerItem (M0 : zM) : Option zM :=
  zj (fun (x1 : Int32) =>
  (fX10_must M0 x1).bind fun M3 =>
  (fX10_number M3 (0 : Int32) (9999 : Int32)).bind fun M4 =>
  if (M4.1 0 11) = (0 : Int32) then (zb2 (fX10_addsWearer M4 (M4.1 0 10)) fun x6 M7 =>
  (fX10_wearerSpot x6 (1 : Int32)).bind fun x8 =>
  (fX10_partItem M7 (19387844 : Int64) x8 (5 : Int32)).bind fun M9 =>
  some M9) else (some M4)) fun J17_2 =>
  if (6 : Int32) ≤ (M0.1 1 2) then (J17_2 (0 : Int32)) else (J17_2 (1 : Int32))
abbrev rX10_wearerItem : Room := { frames := 6, cells := 0, slots := 0, locals := 137 }
theorem arX10_wearerItem : zAr yX10_wearerItem RX10 0 := ⟨rfl, by decide, by decide, by decide +kernel⟩
set_option maxHeartbeats 4000000 in
theorem kX10_wearerItem (l : Launch) {w : zWd} (hw : zIsM w) {M0 M' : zM} (h : fX10_wearerItem M0 = some M') : Met l yX10_wearerItem (Cond.code yX10_wearerItem cX10_wearerItem 2 (none) :: zU) rX10_wearerItem (zPre w M0 [.ref (za w 0)]) (zQ w (none) M') 0 0 (zA w) := by
  refine z_metN (own := RX10) (lv := [(0, .ref (za w 0))]) hw.1 (by decide) (Nat.le_of_ble_eq_true rfl) rfl rfl ?_
  intro p e s m args below meth c G hr hlk hH ls hl
  unfold fX10_wearerItem at h
  refine lv_aload_n G.x G.b dX10_wearerItem_0 rfl (lv_at hl 0 rfl) ?_
  refine lv_aload_n G.x G.b dX10_wearerItem_1 rfl (lv_at hl 0 rfl) ?_
  refine z_get (v := .ref (za w 1)) (k := 0) G hH.1 (mM0 hw) vc10 inU10 0 (by decide) u767 rfl dX10_wearerItem_2 ?_
  refine lv_iconst (v := (2 : Int32)) G.x G.b dX10_wearerItem_5 (by decide) ?_
  refine z_iald (k := 1) G hH.1 (mM1 hw) (by decide : zix (2 : Int32) 59 = some 2) dX10_wearerItem_6 ?_
  refine lv_bipush (v := (6 : Int32)) G.x G.b dX10_wearerItem_7 (by decide) ?_
  obtain ⟨J17_2, hJ17_2, h⟩ := z_j h
  have kJ17_2 : ∀ (x1 : Int32) (ls : Array Slot), J17_2 x1 = some M' → lv_has ls 2 [(0, .ref (za w 0))] → zGo p l e rX10_wearerItem s m args below meth c (zQ w (none) M') (zA w) s.heap [] (F0 m 17 ls [.int x1, .ref (za w 0)]) := by
    intro x1 ls h hl
    rw [hJ17_2] at h
    obtain ⟨M3, eM3, h⟩ := z_bind h
    refine z_aftV (z_runV (k := 0) (As := [.int x1]) (rest := []) G hH hl.1 (kX10_must l hw eM3) (mM0 hw) vc10 arX10_must u1151 u1153 us53 u11 u1154 rfl rfl rfl (Nat.le_of_ble_eq_true rfl) (Nat.le_of_ble_eq_true rfl) rfl (Nat.le_of_ble_eq_true rfl) dX10_wearerItem_17) hH (fun H locs hH => ?_)
    refine lv_aload_n G.x G.b dX10_wearerItem_20 rfl (lv_at hl 0 rfl) ?_
    refine lv_iconst (v := (0 : Int32)) G.x G.b dX10_wearerItem_21 (by decide) ?_
    refine lv_sipush (v := (9999 : Int32)) G.x G.b dX10_wearerItem_22 (by decide) ?_
    obtain ⟨M4, eM4, h⟩ := z_bind h
    refine z_aftV (z_runV (k := 0) (As := [.int (0 : Int32), .int (9999 : Int32)]) (rest := []) G hH hl.1 (kX10_number l hw eM4) (mM0 hw) vc10 arX10_number u1160 u1162 us55 u11 u1163 rfl rfl rfl (Nat.le_of_ble_eq_true rfl) (Nat.le_of_ble_eq_true rfl) rfl (Nat.le_of_ble_eq_true rfl) dX10_wearerItem_25) hH (fun H locs hH => ?_)
    refine lv_aload_n G.x G.b dX10_wearerItem_28 rfl (lv_at hl 0 rfl) ?_
    refine z_get (v := .int (M4.1 0 11)) (k := 0) G hH.1 (mM0 hw) vc10 inU10 11 (by decide) u778 rfl dX10_wearerItem_29 ?_
    refine lv_if_eq (tgt := 36) G.x G.b dX10_wearerItem_32 (by decide) (fun c5 => ?_) (fun c5 => ?_)
    · have h := z_if c5 h
      refine lv_aload_n G.x G.b dX10_wearerItem_36 rfl (lv_at hl 0 rfl) ?_
      refine lv_aload_n G.x G.b dX10_wearerItem_37 rfl (lv_at hl 0 rfl) ?_
      refine z_get (v := .int (M4.1 0 10)) (k := 0) G hH.1 (mM0 hw) vc10 inU10 10 (by decide) u777 rfl dX10_wearerItem_38 ?_
      obtain ⟨x6, M7, eM7, h⟩ := z_b2 h
      refine z_aftI (z_runV (k := 0) (As := [.int (M4.1 0 10)]) (rest := []) G hH hl.1 (kX10_addsWearer l hw eM7) (mM0 hw) vc10 arX10_addsWearer u956 u958 us32 u11 u959 rfl rfl rfl (Nat.le_of_ble_eq_true rfl) (Nat.le_of_ble_eq_true rfl) rfl (Nat.le_of_ble_eq_true rfl) dX10_wearerItem_41) hH (fun H locs hH => ?_)
      refine lv_istore_n (lv' := [(1, .int x6), (0, .ref (za w 0))]) G.x G.b dX10_wearerItem_44 rfl hl (Nat.le_of_ble_eq_true rfl) rfl (fun ls hl => ?_)
      refine lv_aload_n G.x G.b dX10_wearerItem_45 rfl (lv_at hl 1 rfl) ?_
      refine lv_ldc2 G.x G.b G.o (G.t u1170) dX10_wearerItem_46 ?_
      refine lv_iload_n G.x G.b dX10_wearerItem_49 rfl (lv_at hl 0 rfl) ?_
      refine lv_iconst (v := (1 : Int32)) G.x G.b dX10_wearerItem_50 (by decide) ?_
      obtain ⟨x8, ex8, h⟩ := z_bind h
      refine z_rdI (z_runS (As := [.int x6, .int (1 : Int32)]) (rest := [.long (19387844 : Int64), .ref (za w 0)]) G hH hl.1 (kX10_wearerSpot l hw.1 ex8) arX10_wearerSpot u867 u868 u11 u869 rfl rfl rfl (Nat.le_of_ble_eq_true rfl) (Nat.le_of_ble_eq_true rfl) rfl (Nat.le_of_ble_eq_true rfl) dX10_wearerItem_51) ?_
      refine lv_iconst (v := (5 : Int32)) G.x G.b dX10_wearerItem_54 (by decide) ?_
      obtain ⟨M9, eM9, h⟩ := z_bind h
      refine z_aftV (z_runV (k := 0) (As := [.long (19387844 : Int64), .int x8, .int (5 : Int32)]) (rest := []) G hH hl.1 (kX10_partItem l hw eM9) (mM0 hw) vc10 arX10_partItem u1156 u1158 us54 u11 u1159 rfl rfl rfl (Nat.le_of_ble_eq_true rfl) (Nat.le_of_ble_eq_true rfl) rfl (Nat.le_of_ble_eq_true rfl) dX10_wearerItem_55) hH (fun H locs hH => ?_)
      exact z_retV G hr hlk hH h dX10_wearerItem_58
    · have h := z_ifn c5 h
      exact z_retV G hr hlk hH h dX10_wearerItem_35
  refine lv_icmp_ge (tgt := 16) G.x G.b dX10_wearerItem_9 (by decide) (fun c10 => ?_) (fun c10 => ?_)
  · have h := z_if c10 h
    refine lv_iconst (v := (0 : Int32)) G.x G.b dX10_wearerItem_16 (by decide) ?_
    exact kJ17_2 (0 : Int32) ls h (lv_sub hl [0] rfl)
  · have h := z_ifn c10 h
    refine lv_iconst (v := (1 : Int32)) G.x G.b dX10_wearerItem_12 (by decide) ?_
    refine lv_goto (tgt := 17) G.x G.b dX10_wearerItem_13 (by decide) ?_
    exact kJ17_2 (1 : Int32) ls h (lv_sub hl [0] rfl)
def fX10_houseItem (M0 : zM) : Option zM :=
  (fX10_must M0 (1 : Int32)).bind fun M1 =>
  (fX10_number M1 (0 : Int32) (5 : Int32)).bind fun M2 =>
  if (M2.1 0 11) = (0 : Int32) then ((some (M2.1 0 10)).bind fun x4 =>
  (fX10_word M2).bind fun y5 =>
  zj (fun (x6 : Int32) =>
  zj (fun (x8 : Int32) =>
  (fX10_must M2 x8).bind fun M10 =>
  (fX10_number M10 (0 : Int32) (50 : Int32)).bind fun M11 =>
  (fX10_houseSpot x4 (1 : Int32)).bind fun x12 =>
  if (M11.1 0 11) = (0 : Int32) then (if x6 = (0 : Int32) then ((zix x12 59).bind fun j15 =>
  (some (zst M11 1 j15 ((0 : Int32) - (M11.1 0 10)))).bind fun M16 =>
  some M16) else ((zix x12 59).bind fun j17 =>
  (some (zst M11 1 j17 (M11.1 0 10))).bind fun M18 =>
  some M18)) else ((fX10_house M11 x4 (1 : Int32)).bind fun x19 =>
  (zix x12 59).bind fun j20 =>
  (some (zst M11 1 j20 x19)).bind fun M21 =>
  some M21)) fun J62_9 =>
  zj (J62_9 (1 : Int32)) fun J57_22 =>
  if x6 = (0 : Int32) then ((fX10_word M2).bind fun y24 =>
  if (lg_cmp y24 (3751539 : Int64)) = (0 : Int32) then (J57_22) else (J62_9 (0 : Int32))) else (J57_22)) fun J40_7 =>
  if (lg_cmp y5 (212420 : Int64)) = (0 : Int32) then (J40_7 (1 : Int32)) else (J40_7 (0 : Int32))) else (some M2)
abbrev rX10_houseItem : Room := { frames := 5, cells := 0, slots := 0, locals := 113 }
theorem arX10_houseItem : zAr yX10_houseItem RX10 0 := ⟨rfl, by decide, by decide, by decide +kernel⟩
set_option maxHeartbeats 4000000 in
theorem kX10_houseItem (l : Launch) {w : zWd} (hw : zIsM w) {M0 M' : zM} (h : fX10_houseItem M0 = some M') : Met l yX10_houseItem (Cond.code yX10_houseItem cX10_houseItem 3 (none) :: zU) rX10_houseItem (zPre w M0 [.ref (za w 0)]) (zQ w (none) M') 0 0 (zA w) := by
  refine z_metN (own := RX10) (lv := [(0, .ref (za w 0))]) hw.1 (by decide) (Nat.le_of_ble_eq_true rfl) rfl rfl ?_
  intro p e s m args below meth c G hr hlk hH ls hl
  unfold fX10_houseItem at h
  refine lv_aload_n G.x G.b dX10_houseItem_0 rfl (lv_at hl 0 rfl) ?_
  refine lv_iconst (v := (1 : Int32)) G.x G.b dX10_houseItem_1 (by decide) ?_
  obtain ⟨M1, eM1, h⟩ := z_bind h
  refine z_aftV (z_runV (k := 0) (As := [.int (1 : Int32)]) (rest := []) G hH hl.1 (kX10_must l hw eM1) (mM0 hw) vc10 arX10_must u1151 u1153 us53 u11 u1154 rfl rfl rfl (Nat.le_of_ble_eq_true rfl) (Nat.le_of_ble_eq_true rfl) rfl (Nat.le_of_ble_eq_true rfl) dX10_houseItem_2) hH (fun H locs hH => ?_)
  refine lv_aload_n G.x G.b dX10_houseItem_5 rfl (lv_at hl 0 rfl) ?_
  refine lv_iconst (v := (0 : Int32)) G.x G.b dX10_houseItem_6 (by decide) ?_
  refine lv_iconst (v := (5 : Int32)) G.x G.b dX10_houseItem_7 (by decide) ?_
  obtain ⟨M2, eM2, h⟩ := z_bind h
  refine z_aftV (z_runV (k := 0) (As := [.int (0 : Int32), .int (5 : Int32)]) (rest := []) G hH hl.1 (kX10_number l hw eM2) (mM0 hw) vc10 arX10_number u1160 u1162 us55 u11 u1163 rfl rfl rfl (Nat.le_of_ble_eq_true rfl) (Nat.le_of_ble_eq_true rfl) rfl (Nat.le_of_ble_eq_true rfl) dX10_houseItem_8) hH (fun H locs hH => ?_)
  refine lv_aload_n G.x G.b dX10_houseItem_11 rfl (lv_at hl 0 rfl) ?_
  refine z_get (v := .int (M2.1 0 11)) (k := 0) G hH.1 (mM0 hw) vc10 inU10 11 (by decide) u778 rfl dX10_houseItem_12 ?_
  refine lv_if_eq (tgt := 19) G.x G.b dX10_houseItem_15 (by decide) (fun c3 => ?_) (fun c3 => ?_)
  · have h := z_if c3 h
    refine lv_aload_n G.x G.b dX10_houseItem_19 rfl (lv_at hl 0 rfl) ?_
    refine z_get (v := .int (M2.1 0 10)) (k := 0) G hH.1 (mM0 hw) vc10 inU10 10 (by decide) u777 rfl dX10_houseItem_20 ?_
    obtain ⟨x4, ex4, h⟩ := z_let h
    refine z_nmI ex4 ?_
    refine lv_istore_n (lv' := [(1, .int x4), (0, .ref (za w 0))]) G.x G.b dX10_houseItem_23 rfl hl (Nat.le_of_ble_eq_true rfl) rfl (fun ls hl => ?_)
    refine lv_aload_n G.x G.b dX10_houseItem_24 rfl (lv_at hl 1 rfl) ?_
    obtain ⟨y5, ey5, h⟩ := z_bind h
    refine z_rdL (z_runV (k := 0) (As := []) (rest := []) G hH hl.1 (kX10_word l hw ey5) (mM0 hw) vc10 arX10_word u1135 u1137 us51 u11 u1138 rfl rfl rfl (Nat.le_of_ble_eq_true rfl) (Nat.le_of_ble_eq_true rfl) rfl (Nat.le_of_ble_eq_true rfl) dX10_houseItem_25) ?_
    refine lv_ldc2 G.x G.b G.o (G.t u1176) dX10_houseItem_28 ?_
    refine W.lcmp G.x G.b dX10_houseItem_31 ?_
    obtain ⟨J40_7, hJ40_7, h⟩ := z_j h
    have kJ40_7 : ∀ (x6 : Int32) (ls : Array Slot), J40_7 x6 = some M' → lv_has ls 3 [(0, .ref (za w 0)), (1, .int x4)] → zGo p l e rX10_houseItem s m args below meth c (zQ w (none) M') (zA w) H locs (F0 m 40 ls [.int x6]) := by
      intro x6 ls h hl
      rw [hJ40_7] at h
      refine lv_istore_n (lv' := [(2, .int x6), (0, .ref (za w 0)), (1, .int x4)]) G.x G.b dX10_houseItem_40 rfl hl (Nat.le_of_ble_eq_true rfl) rfl (fun ls hl => ?_)
      refine lv_aload_n G.x G.b dX10_houseItem_41 rfl (lv_at hl 1 rfl) ?_
      refine lv_iload_n G.x G.b dX10_houseItem_42 rfl (lv_at hl 0 rfl) ?_
      obtain ⟨J62_9, hJ62_9, h⟩ := z_j h
      have kJ62_9 : ∀ (x8 : Int32) (ls : Array Slot), J62_9 x8 = some M' → lv_has ls 3 [(0, .ref (za w 0)), (1, .int x4), (2, .int x6)] → zGo p l e rX10_houseItem s m args below meth c (zQ w (none) M') (zA w) H locs (F0 m 62 ls [.int x8, .ref (za w 0)]) := by
        intro x8 ls h hl
        rw [hJ62_9] at h
        obtain ⟨M10, eM10, h⟩ := z_bind h
        refine z_aftV (z_runV (k := 0) (As := [.int x8]) (rest := []) G hH hl.1 (kX10_must l hw eM10) (mM0 hw) vc10 arX10_must u1151 u1153 us53 u11 u1154 rfl rfl rfl (Nat.le_of_ble_eq_true rfl) (Nat.le_of_ble_eq_true rfl) rfl (Nat.le_of_ble_eq_true rfl) dX10_houseItem_62) hH (fun H locs hH => ?_)
        refine lv_aload_n G.x G.b dX10_houseItem_65 rfl (lv_at hl 0 rfl) ?_
        refine lv_iconst (v := (0 : Int32)) G.x G.b dX10_houseItem_66 (by decide) ?_
        refine lv_bipush (v := (50 : Int32)) G.x G.b dX10_houseItem_67 (by decide) ?_
        obtain ⟨M11, eM11, h⟩ := z_bind h
        refine z_aftV (z_runV (k := 0) (As := [.int (0 : Int32), .int (50 : Int32)]) (rest := []) G hH hl.1 (kX10_number l hw eM11) (mM0 hw) vc10 arX10_number u1160 u1162 us55 u11 u1163 rfl rfl rfl (Nat.le_of_ble_eq_true rfl) (Nat.le_of_ble_eq_true rfl) rfl (Nat.le_of_ble_eq_true rfl) dX10_houseItem_69) hH (fun H locs hH => ?_)
        refine lv_aload_n G.x G.b dX10_houseItem_72 rfl (lv_at hl 0 rfl) ?_
        refine z_get (v := .ref (za w 1)) (k := 0) G hH.1 (mM0 hw) vc10 inU10 0 (by decide) u767 rfl dX10_houseItem_73 ?_
        refine lv_iload_n G.x G.b dX10_houseItem_76 rfl (lv_at hl 1 rfl) ?_
        refine lv_iconst (v := (1 : Int32)) G.x G.b dX10_houseItem_77 (by decide) ?_
        obtain ⟨x12, ex12, h⟩ := z_bind h
        refine z_rdI (z_runS (As := [.int x4, .int (1 : Int32)]) (rest := [.ref (za w 1)]) G hH hl.1 (kX10_houseSpot l hw.1 ex12) arX10_houseSpot u764 u765 u11 u766 rfl rfl rfl (Nat.le_of_ble_eq_true rfl) (Nat.le_of_ble_eq_true rfl) rfl (Nat.le_of_ble_eq_true rfl) dX10_houseItem_78) ?_
        refine lv_aload_n G.x G.b dX10_houseItem_81 rfl (lv_at hl 0 rfl) ?_
        refine z_get (v := .int (M11.1 0 11)) (k := 0) G hH.1 (mM0 hw) vc10 inU10 11 (by decide) u778 rfl dX10_houseItem_82 ?_
        refine lv_if_eq (tgt := 97) G.x G.b dX10_houseItem_85 (by decide) (fun c13 => ?_) (fun c13 => ?_)
        · have h := z_if c13 h
          refine lv_iload_n G.x G.b dX10_houseItem_97 rfl (lv_at hl 2 rfl) ?_
          refine lv_if_eq (tgt := 108) G.x G.b dX10_houseItem_98 (by decide) (fun c14 => ?_) (fun c14 => ?_)
          · have h := z_if c14 h
            refine lv_iconst (v := (0 : Int32)) G.x G.b dX10_houseItem_108 (by decide) ?_
            refine lv_aload_n G.x G.b dX10_houseItem_109 rfl (lv_at hl 0 rfl) ?_
            refine z_get (v := .int (M11.1 0 10)) (k := 0) G hH.1 (mM0 hw) vc10 inU10 10 (by decide) u777 rfl dX10_houseItem_110 ?_
            refine lv_isub G.x G.b dX10_houseItem_113 ?_
            obtain ⟨j15, ej15, h⟩ := z_bind h
            obtain ⟨M16, eM16, h⟩ := z_let h
            refine z_iastN (k := 1) G hH (mM1 hw) ej15 dX10_houseItem_114 eM16 (fun H locs hH => ?_)
            exact z_retV G hr hlk hH h dX10_houseItem_115
          · have h := z_ifn c14 h
            refine lv_aload_n G.x G.b dX10_houseItem_101 rfl (lv_at hl 0 rfl) ?_
            refine z_get (v := .int (M11.1 0 10)) (k := 0) G hH.1 (mM0 hw) vc10 inU10 10 (by decide) u777 rfl dX10_houseItem_102 ?_
            refine lv_goto (tgt := 114) G.x G.b dX10_houseItem_105 (by decide) ?_
            obtain ⟨j17, ej17, h⟩ := z_bind h
            obtain ⟨M18, eM18, h⟩ := z_let h
            refine z_iastN (k := 1) G hH (mM1 hw) ej17 dX10_houseItem_114 eM18 (fun H locs hH => ?_)
            exact z_retV G hr hlk hH h dX10_houseItem_115
        · have h := z_ifn c13 h
          refine lv_aload_n G.x G.b dX10_houseItem_88 rfl (lv_at hl 0 rfl) ?_
          refine lv_iload_n G.x G.b dX10_houseItem_89 rfl (lv_at hl 1 rfl) ?_
          refine lv_iconst (v := (1 : Int32)) G.x G.b dX10_houseItem_90 (by decide) ?_
          obtain ⟨x19, ex19, h⟩ := z_bind h
          refine z_rdI (z_runV (k := 0) (As := [.int x4, .int (1 : Int32)]) (rest := [.int x12, .ref (za w 1)]) G hH hl.1 (kX10_house l hw ex19) (mM0 hw) vc10 arX10_house u851 u853 us18 u11 u854 rfl rfl rfl (Nat.le_of_ble_eq_true rfl) (Nat.le_of_ble_eq_true rfl) rfl (Nat.le_of_ble_eq_true rfl) dX10_houseItem_91) ?_
          refine lv_goto (tgt := 114) G.x G.b dX10_houseItem_94 (by decide) ?_
          obtain ⟨j20, ej20, h⟩ := z_bind h
          obtain ⟨M21, eM21, h⟩ := z_let h
          refine z_iastN (k := 1) G hH (mM1 hw) ej20 dX10_houseItem_114 eM21 (fun H locs hH => ?_)
          exact z_retV G hr hlk hH h dX10_houseItem_115
      obtain ⟨J57_22, hJ57_22, h⟩ := z_j h
      have kJ57_22 : ∀ (ls : Array Slot), J57_22 = some M' → lv_has ls 3 [(0, .ref (za w 0)), (1, .int x4), (2, .int x6)] → zGo p l e rX10_houseItem s m args below meth c (zQ w (none) M') (zA w) H locs (F0 m 57 ls [.ref (za w 0)]) := by
        intro ls h hl
        rw [hJ57_22] at h
        refine lv_iconst (v := (1 : Int32)) G.x G.b dX10_houseItem_57 (by decide) ?_
        refine lv_goto (tgt := 62) G.x G.b dX10_houseItem_58 (by decide) ?_
        exact kJ62_9 (1 : Int32) ls h (lv_sub hl [0, 1, 2] rfl)
      refine lv_if_ne (tgt := 57) G.x G.b dX10_houseItem_43 (by decide) (fun c23 => ?_) (fun c23 => ?_)
      · have h := z_ifn c23 h
        exact kJ57_22 ls h (lv_sub hl [1, 2, 0] rfl)
      · have h := z_if c23 h
        refine lv_aload_n G.x G.b dX10_houseItem_46 rfl (lv_at hl 1 rfl) ?_
        obtain ⟨y24, ey24, h⟩ := z_bind h
        refine z_rdL (z_runV (k := 0) (As := []) (rest := [.ref (za w 0)]) G hH hl.1 (kX10_word l hw ey24) (mM0 hw) vc10 arX10_word u1135 u1137 us51 u11 u1138 rfl rfl rfl (Nat.le_of_ble_eq_true rfl) (Nat.le_of_ble_eq_true rfl) rfl (Nat.le_of_ble_eq_true rfl) dX10_houseItem_47) ?_
        refine lv_ldc2 G.x G.b G.o (G.t u1177) dX10_houseItem_50 ?_
        refine W.lcmp G.x G.b dX10_houseItem_53 ?_
        refine lv_if_ne (tgt := 61) G.x G.b dX10_houseItem_54 (by decide) (fun c25 => ?_) (fun c25 => ?_)
        · have h := z_ifn c25 h
          refine lv_iconst (v := (0 : Int32)) G.x G.b dX10_houseItem_61 (by decide) ?_
          exact kJ62_9 (0 : Int32) ls h (lv_sub hl [1, 2, 0] rfl)
        · have h := z_if c25 h
          exact kJ57_22 ls h (lv_sub hl [1, 2, 0] rfl)
    refine lv_if_ne (tgt := 39) G.x G.b dX10_houseItem_32 (by decide) (fun c26 => ?_) (fun c26 => ?_)
    · have h := z_ifn c26 h
      refine lv_iconst (v := (0 : Int32)) G.x G.b dX10_houseItem_39 (by decide) ?_
      exact kJ40_7 (0 : Int32) ls h (lv_sub hl [1, 0] rfl)
    · have h := z_if c26 h
      refine lv_iconst (v := (1 : Int32)) G.x G.b dX10_houseItem_35 (by decide) ?_
      refine lv_goto (tgt := 40) G.x G.b dX10_houseItem_36 (by decide) ?_
      exact kJ40_7 (1 : Int32) ls h (lv_sub hl [1, 0] rfl)
  · have h := z_ifn c3 h
    exact z_retV G hr hlk hH h dX10_houseItem_18
def bX10_numberHere_7 (M0 : zM) (E46_3 : Int32 → Option Int32) (rc10 : Int32 → Int32 → Option Int32) (x8 : Int32) (x9 : Int32) : Option Int32 :=
  if (M0.1 0 9) ≤ x9 then (E46_3 x8) else (zj (fun (x12 : Int32) =>
  (some (x9 + (1 : Int32))).bind fun x14 =>
  rc10 x12 x14) fun J39_13 =>
  if x8 ≤ (99 : Int32) then ((zix x9 120).bind fun j16 =>
  J39_13 ((((10 : Int32) * x8) + (M0.1 6 j16)) - (48 : Int32))) else (J39_13 x8))
def lX10_numberHere_7 (M0 : zM) (E46_3 : Int32 → Option Int32) : Nat → Int32 → Int32 → Option Int32 := zL2 (bX10_numberHere_7 M0 E46_3)
def fX10_numberHere (M0 : zM) : Option Int32 :=
  (some (M0.1 0 8)).bind fun x1 =>
  zj (fun (x2 : Int32) =>
  (fX10_byteAt M0 (M0.1 0 8)).bind fun x4 =>
  (fX10_isDigit x4).bind fun x5 =>
  if x5 = (0 : Int32) then (some (-1 : Int32)) else (if (8 : Int32) ≤ x2 then (some (-1 : Int32)) else (some x2))) fun E46_3 =>
  lX10_numberHere_7 M0 E46_3 zFuel (0 : Int32) x1
abbrev rX10_numberHere : Room := { frames := 2, cells := 0, slots := 0, locals := 45 }
theorem arX10_numberHere : zAr yX10_numberHere RX10 0 := ⟨rfl, by decide, by decide, by decide +kernel⟩
set_option maxHeartbeats 4000000 in
theorem kX10_numberHere (l : Launch) {w : zWd} (hw : zIsM w) {M0 : zM} {r : Int32} (h : fX10_numberHere M0 = some r) : Met l yX10_numberHere (Cond.code yX10_numberHere cX10_numberHere 3 (some .int) :: zU) rX10_numberHere (zPre w M0 [.ref (za w 0)]) (zR (some (.int r))) 0 0 zNo := by
  refine z_metN (own := RX10) (lv := [(0, .ref (za w 0))]) hw.1 (by decide) (Nat.le_of_ble_eq_true rfl) rfl rfl ?_
  intro p e s m args below meth c G hr hlk hH ls hl
  unfold fX10_numberHere at h
  refine lv_iconst (v := (0 : Int32)) G.x G.b dX10_numberHere_0 (by decide) ?_
  refine lv_istore_n (lv' := [(1, .int (0 : Int32)), (0, .ref (za w 0))]) G.x G.b dX10_numberHere_1 rfl hl (Nat.le_of_ble_eq_true rfl) rfl (fun ls hl => ?_)
  refine lv_aload_n G.x G.b dX10_numberHere_2 rfl (lv_at hl 1 rfl) ?_
  refine z_get (v := .int (M0.1 0 8)) (k := 0) G hH.1 (mM0 hw) vc10 inU10 8 (by decide) u775 rfl dX10_numberHere_3 ?_
  obtain ⟨x1, ex1, h⟩ := z_let h
  refine z_nmI ex1 ?_
  refine lv_istore_n (lv' := [(2, .int x1), (1, .int (0 : Int32)), (0, .ref (za w 0))]) G.x G.b dX10_numberHere_6 rfl hl (Nat.le_of_ble_eq_true rfl) rfl (fun ls hl => ?_)
  obtain ⟨E46_3, hE46_3, h⟩ := z_j h
  have kE46_3 : ∀ (x2 : Int32) (ls : Array Slot), E46_3 x2 = some r → lv_has ls 3 [(0, .ref (za w 0)), (1, .int x2)] → zGo p l e rX10_numberHere s m args below meth c (zR (some (.int r))) zNo s.heap [] (F0 m 46 ls []) := by
    intro x2 ls h hl
    rw [hE46_3] at h
    refine lv_aload_n G.x G.b dX10_numberHere_46 rfl (lv_at hl 0 rfl) ?_
    refine lv_aload_n G.x G.b dX10_numberHere_47 rfl (lv_at hl 0 rfl) ?_
    refine z_get (v := .int (M0.1 0 8)) (k := 0) G hH.1 (mM0 hw) vc10 inU10 8 (by decide) u775 rfl dX10_numberHere_48 ?_
    obtain ⟨x4, ex4, h⟩ := z_bind h
    refine z_rdI (z_runV (k := 0) (As := [.int (M0.1 0 8)]) (rest := []) G hH hl.1 (kX10_byteAt l hw ex4) (mM0 hw) vc10 arX10_byteAt u1113 u1115 us48 u11 u1116 rfl rfl rfl (Nat.le_of_ble_eq_true rfl) (Nat.le_of_ble_eq_true rfl) rfl (Nat.le_of_ble_eq_true rfl) dX10_numberHere_51) ?_
    obtain ⟨x5, ex5, h⟩ := z_bind h
    refine z_rdI (z_runS (As := [.int x4]) (rest := []) G hH hl.1 (kX10_isDigit l hw.1 ex5) arX10_isDigit u1122 u1123 u11 u1124 rfl rfl rfl (Nat.le_of_ble_eq_true rfl) (Nat.le_of_ble_eq_true rfl) rfl (Nat.le_of_ble_eq_true rfl) dX10_numberHere_54) ?_
    refine lv_if_eq (tgt := 70) G.x G.b dX10_numberHere_57 (by decide) (fun c6 => ?_) (fun c6 => ?_)
    · have h := z_if c6 h
      refine lv_iconst (v := (-1 : Int32)) G.x G.b dX10_numberHere_70 (by decide) ?_
      exact z_rtI G hr hlk h dX10_numberHere_71
    · have h := z_ifn c6 h
      refine lv_iload_n G.x G.b dX10_numberHere_60 rfl (lv_at hl 1 rfl) ?_
      refine lv_bipush (v := (8 : Int32)) G.x G.b dX10_numberHere_61 (by decide) ?_
      refine lv_icmp_ge (tgt := 70) G.x G.b dX10_numberHere_63 (by decide) (fun c7 => ?_) (fun c7 => ?_)
      · have h := z_if c7 h
        refine lv_iconst (v := (-1 : Int32)) G.x G.b dX10_numberHere_70 (by decide) ?_
        exact z_rtI G hr hlk h dX10_numberHere_71
      · have h := z_ifn c7 h
        refine lv_iload_n G.x G.b dX10_numberHere_66 rfl (lv_at hl 1 rfl) ?_
        refine lv_goto (tgt := 71) G.x G.b dX10_numberHere_67 (by decide) ?_
        exact z_rtI G hr hlk h dX10_numberHere_71
  have n10 : ∀ (n : Nat) (x8 : Int32) (x9 : Int32) (ls : Array Slot), zL2 (bX10_numberHere_7 M0 E46_3) n x8 x9 = some r → lv_has ls 3 [(0, .ref (za w 0)), (1, .int x8), (2, .int x9)] → zGo p l e rX10_numberHere s m args below meth c (zR (some (.int r))) zNo s.heap [] (F0 m 7 ls []) := by
    intro n
    induction n with
    | zero => intro x8 x9 ls h; exact (zL2_0 h).elim
    | succ n ih10 =>
      intro x8 x9 ls h hl
      obtain ⟨rc10, hrc10, h⟩ := zL2_s h
      rw [← hrc10] at ih10
      unfold bX10_numberHere_7 at h
      refine lv_iload_n G.x G.b dX10_numberHere_7 rfl (lv_at hl 2 rfl) ?_
      refine lv_aload_n G.x G.b dX10_numberHere_8 rfl (lv_at hl 0 rfl) ?_
      refine z_get (v := .int (M0.1 0 9)) (k := 0) G hH.1 (mM0 hw) vc10 inU10 9 (by decide) u776 rfl dX10_numberHere_9 ?_
      refine lv_icmp_ge (tgt := 46) G.x G.b dX10_numberHere_12 (by decide) (fun c11 => ?_) (fun c11 => ?_)
      · have h := z_if c11 h
        exact kE46_3 x8 ls h (lv_sub hl [0, 1] rfl)
      · have h := z_ifn c11 h
        refine lv_iload_n G.x G.b dX10_numberHere_15 rfl (lv_at hl 1 rfl) ?_
        refine lv_bipush (v := (99 : Int32)) G.x G.b dX10_numberHere_16 (by decide) ?_
        obtain ⟨J39_13, hJ39_13, h⟩ := z_j h
        have kJ39_13 : ∀ (x12 : Int32) (ls : Array Slot), J39_13 x12 = some r → lv_has ls 3 [(0, .ref (za w 0)), (2, .int x9)] → zGo p l e rX10_numberHere s m args below meth c (zR (some (.int r))) zNo s.heap [] (F0 m 39 ls [.int x12]) := by
          intro x12 ls h hl
          rw [hJ39_13] at h
          refine lv_istore_n (lv' := [(1, .int x12), (0, .ref (za w 0)), (2, .int x9)]) G.x G.b dX10_numberHere_39 rfl hl (Nat.le_of_ble_eq_true rfl) rfl (fun ls hl => ?_)
          obtain ⟨x14, ex14, h⟩ := z_let h
          refine lv_iinc (v := x14) (lv' := [(2, .int x14), (1, .int x12), (0, .ref (za w 0))]) G.x G.b dX10_numberHere_40 hl (k := 2) rfl (by rw [ex14]; rfl) (Nat.le_of_ble_eq_true rfl) rfl (fun ls hl => ?_)
          refine lv_goto (tgt := 7) G.x G.b dX10_numberHere_43 (by decide) ?_
          exact ih10 x12 x14 ls h (lv_sub hl [2, 1, 0] rfl)
        refine lv_icmp_le (tgt := 25) G.x G.b dX10_numberHere_18 (by decide) (fun c15 => ?_) (fun c15 => ?_)
        · have h := z_if c15 h
          refine lv_bipush (v := (10 : Int32)) G.x G.b dX10_numberHere_25 (by decide) ?_
          refine lv_iload_n G.x G.b dX10_numberHere_27 rfl (lv_at hl 1 rfl) ?_
          refine lv_imul G.x G.b dX10_numberHere_28 ?_
          refine lv_aload_n G.x G.b dX10_numberHere_29 rfl (lv_at hl 0 rfl) ?_
          refine z_get (v := .ref (za w 6)) (k := 0) G hH.1 (mM0 hw) vc10 inU10 6 (by decide) u773 rfl dX10_numberHere_30 ?_
          refine lv_iload_n G.x G.b dX10_numberHere_33 rfl (lv_at hl 2 rfl) ?_
          obtain ⟨j16, ej16, h⟩ := z_bind h
          refine z_iald (k := 6) G hH.1 (mM6 hw) ej16 dX10_numberHere_34 ?_
          refine lv_iadd G.x G.b dX10_numberHere_35 ?_
          refine lv_bipush (v := (48 : Int32)) G.x G.b dX10_numberHere_36 (by decide) ?_
          refine lv_isub G.x G.b dX10_numberHere_38 ?_
          exact kJ39_13 ((((10 : Int32) * x8) + (M0.1 6 j16)) - (48 : Int32)) ls h (lv_sub hl [0, 2] rfl)
        · have h := z_ifn c15 h
          refine lv_iload_n G.x G.b dX10_numberHere_21 rfl (lv_at hl 1 rfl) ?_
          refine lv_goto (tgt := 39) G.x G.b dX10_numberHere_22 (by decide) ?_
          exact kJ39_13 x8 ls h (lv_sub hl [0, 2] rfl)
  exact n10 zFuel (0 : Int32) x1 ls h (lv_sub hl [2, 1, 0] rfl)
def fX10_hireItem (M0 : zM) : Option zM :=
  (fX10_must M0 (1 : Int32)).bind fun M1 =>
  (fX10_numberHere M1).bind fun x2 =>
  (fX10_isWearer M1 x2).bind fun x3 =>
  zj (fun (x4 : Int32) =>
  (fX10_must M1 x4).bind fun M6 =>
  (fX10_numberHere M6).bind fun x7 =>
  (fX10_isBeard M6 x7).bind fun x8 =>
  zj (fun (x9 : Int32) =>
  (fX10_must M6 x9).bind fun M11 =>
  if (M11.1 0 11) = (0 : Int32) then ((fX10_beardSpot x7 (3 : Int32)).bind fun x13 =>
  (zix x13 59).bind fun j14 =>
  (some (zst M11 1 j14 x2)).bind fun M15 =>
  some M15) else (some M11)) fun J65_10 =>
  zj (J65_10 (0 : Int32)) fun J64_16 =>
  if x8 = (0 : Int32) then (J64_16) else ((fX10_its M6 x7 (3 : Int32)).bind fun x18 =>
  if x18 = (-1 : Int32) then (J65_10 (1 : Int32)) else (J64_16))) fun J33_5 =>
  zj (J33_5 (0 : Int32)) fun J32_20 =>
  if x3 = (0 : Int32) then (J32_20) else ((fX10_wornBy M1 x2).bind fun x22 =>
  if x22 = (-1 : Int32) then (J33_5 (1 : Int32)) else (J32_20))
abbrev rX10_hireItem : Room := { frames := 4, cells := 0, slots := 0, locals := 88 }
theorem arX10_hireItem : zAr yX10_hireItem RX10 0 := ⟨rfl, by decide, by decide, by decide +kernel⟩
set_option maxHeartbeats 4000000 in
theorem kX10_hireItem (l : Launch) {w : zWd} (hw : zIsM w) {M0 M' : zM} (h : fX10_hireItem M0 = some M') : Met l yX10_hireItem (Cond.code yX10_hireItem cX10_hireItem 3 (none) :: zU) rX10_hireItem (zPre w M0 [.ref (za w 0)]) (zQ w (none) M') 0 0 (zA w) := by
  refine z_metN (own := RX10) (lv := [(0, .ref (za w 0))]) hw.1 (by decide) (Nat.le_of_ble_eq_true rfl) rfl rfl ?_
  intro p e s m args below meth c G hr hlk hH ls hl
  unfold fX10_hireItem at h
  refine lv_aload_n G.x G.b dX10_hireItem_0 rfl (lv_at hl 0 rfl) ?_
  refine lv_iconst (v := (1 : Int32)) G.x G.b dX10_hireItem_1 (by decide) ?_
  obtain ⟨M1, eM1, h⟩ := z_bind h
  refine z_aftV (z_runV (k := 0) (As := [.int (1 : Int32)]) (rest := []) G hH hl.1 (kX10_must l hw eM1) (mM0 hw) vc10 arX10_must u1151 u1153 us53 u11 u1154 rfl rfl rfl (Nat.le_of_ble_eq_true rfl) (Nat.le_of_ble_eq_true rfl) rfl (Nat.le_of_ble_eq_true rfl) dX10_hireItem_2) hH (fun H locs hH => ?_)
  refine lv_aload_n G.x G.b dX10_hireItem_5 rfl (lv_at hl 0 rfl) ?_
  obtain ⟨x2, ex2, h⟩ := z_bind h
  refine z_rdI (z_runV (k := 0) (As := []) (rest := []) G hH hl.1 (kX10_numberHere l hw ex2) (mM0 hw) vc10 arX10_numberHere u1183 u1185 us59 u11 u1186 rfl rfl rfl (Nat.le_of_ble_eq_true rfl) (Nat.le_of_ble_eq_true rfl) rfl (Nat.le_of_ble_eq_true rfl) dX10_hireItem_6) ?_
  refine lv_istore_n (lv' := [(1, .int x2), (0, .ref (za w 0))]) G.x G.b dX10_hireItem_9 rfl hl (Nat.le_of_ble_eq_true rfl) rfl (fun ls hl => ?_)
  refine lv_aload_n G.x G.b dX10_hireItem_10 rfl (lv_at hl 1 rfl) ?_
  refine lv_aload_n G.x G.b dX10_hireItem_11 rfl (lv_at hl 1 rfl) ?_
  refine lv_iload_n G.x G.b dX10_hireItem_12 rfl (lv_at hl 0 rfl) ?_
  obtain ⟨x3, ex3, h⟩ := z_bind h
  refine z_rdI (z_runV (k := 0) (As := [.int x2]) (rest := [.ref (za w 0)]) G hH hl.1 (kX10_isWearer l hw ex3) (mM0 hw) vc10 arX10_isWearer u964 u966 us33 u11 u967 rfl rfl rfl (Nat.le_of_ble_eq_true rfl) (Nat.le_of_ble_eq_true rfl) rfl (Nat.le_of_ble_eq_true rfl) dX10_hireItem_13) ?_
  obtain ⟨J33_5, hJ33_5, h⟩ := z_j h
  have kJ33_5 : ∀ (x4 : Int32) (ls : Array Slot), J33_5 x4 = some M' → lv_has ls 3 [(0, .ref (za w 0)), (1, .int x2)] → zGo p l e rX10_hireItem s m args below meth c (zQ w (none) M') (zA w) H locs (F0 m 33 ls [.int x4, .ref (za w 0)]) := by
    intro x4 ls h hl
    rw [hJ33_5] at h
    obtain ⟨M6, eM6, h⟩ := z_bind h
    refine z_aftV (z_runV (k := 0) (As := [.int x4]) (rest := []) G hH hl.1 (kX10_must l hw eM6) (mM0 hw) vc10 arX10_must u1151 u1153 us53 u11 u1154 rfl rfl rfl (Nat.le_of_ble_eq_true rfl) (Nat.le_of_ble_eq_true rfl) rfl (Nat.le_of_ble_eq_true rfl) dX10_hireItem_33) hH (fun H locs hH => ?_)
    refine lv_aload_n G.x G.b dX10_hireItem_36 rfl (lv_at hl 0 rfl) ?_
    obtain ⟨x7, ex7, h⟩ := z_bind h
    refine z_rdI (z_runV (k := 0) (As := []) (rest := []) G hH hl.1 (kX10_numberHere l hw ex7) (mM0 hw) vc10 arX10_numberHere u1183 u1185 us59 u11 u1186 rfl rfl rfl (Nat.le_of_ble_eq_true rfl) (Nat.le_of_ble_eq_true rfl) rfl (Nat.le_of_ble_eq_true rfl) dX10_hireItem_37) ?_
    refine lv_istore_n (lv' := [(2, .int x7), (0, .ref (za w 0)), (1, .int x2)]) G.x G.b dX10_hireItem_40 rfl hl (Nat.le_of_ble_eq_true rfl) rfl (fun ls hl => ?_)
    refine lv_aload_n G.x G.b dX10_hireItem_41 rfl (lv_at hl 1 rfl) ?_
    refine lv_aload_n G.x G.b dX10_hireItem_42 rfl (lv_at hl 1 rfl) ?_
    refine lv_iload_n G.x G.b dX10_hireItem_43 rfl (lv_at hl 0 rfl) ?_
    obtain ⟨x8, ex8, h⟩ := z_bind h
    refine z_rdI (z_runV (k := 0) (As := [.int x7]) (rest := [.ref (za w 0)]) G hH hl.1 (kX10_isBeard l hw ex8) (mM0 hw) vc10 arX10_isBeard u842 u844 us17 u11 u845 rfl rfl rfl (Nat.le_of_ble_eq_true rfl) (Nat.le_of_ble_eq_true rfl) rfl (Nat.le_of_ble_eq_true rfl) dX10_hireItem_44) ?_
    obtain ⟨J65_10, hJ65_10, h⟩ := z_j h
    have kJ65_10 : ∀ (x9 : Int32) (ls : Array Slot), J65_10 x9 = some M' → lv_has ls 3 [(0, .ref (za w 0)), (1, .int x2), (2, .int x7)] → zGo p l e rX10_hireItem s m args below meth c (zQ w (none) M') (zA w) H locs (F0 m 65 ls [.int x9, .ref (za w 0)]) := by
      intro x9 ls h hl
      rw [hJ65_10] at h
      obtain ⟨M11, eM11, h⟩ := z_bind h
      refine z_aftV (z_runV (k := 0) (As := [.int x9]) (rest := []) G hH hl.1 (kX10_must l hw eM11) (mM0 hw) vc10 arX10_must u1151 u1153 us53 u11 u1154 rfl rfl rfl (Nat.le_of_ble_eq_true rfl) (Nat.le_of_ble_eq_true rfl) rfl (Nat.le_of_ble_eq_true rfl) dX10_hireItem_65) hH (fun H locs hH => ?_)
      refine lv_aload_n G.x G.b dX10_hireItem_68 rfl (lv_at hl 0 rfl) ?_
      refine z_get (v := .int (M11.1 0 11)) (k := 0) G hH.1 (mM0 hw) vc10 inU10 11 (by decide) u778 rfl dX10_hireItem_69 ?_
      refine lv_if_ne (tgt := 86) G.x G.b dX10_hireItem_72 (by decide) (fun c12 => ?_) (fun c12 => ?_)
      · have h := z_ifn c12 h
        exact z_retV G hr hlk hH h dX10_hireItem_86
      · have h := z_if c12 h
        refine lv_aload_n G.x G.b dX10_hireItem_75 rfl (lv_at hl 0 rfl) ?_
        refine z_get (v := .ref (za w 1)) (k := 0) G hH.1 (mM0 hw) vc10 inU10 0 (by decide) u767 rfl dX10_hireItem_76 ?_
        refine lv_iload_n G.x G.b dX10_hireItem_79 rfl (lv_at hl 2 rfl) ?_
        refine lv_iconst (v := (3 : Int32)) G.x G.b dX10_hireItem_80 (by decide) ?_
        obtain ⟨x13, ex13, h⟩ := z_bind h
        refine z_rdI (z_runS (As := [.int x7, .int (3 : Int32)]) (rest := [.ref (za w 1)]) G hH hl.1 (kX10_beardSpot l hw.1 ex13) arX10_beardSpot u886 u887 u11 u888 rfl rfl rfl (Nat.le_of_ble_eq_true rfl) (Nat.le_of_ble_eq_true rfl) rfl (Nat.le_of_ble_eq_true rfl) dX10_hireItem_81) ?_
        refine lv_iload_n G.x G.b dX10_hireItem_84 rfl (lv_at hl 1 rfl) ?_
        obtain ⟨j14, ej14, h⟩ := z_bind h
        obtain ⟨M15, eM15, h⟩ := z_let h
        refine z_iastN (k := 1) G hH (mM1 hw) ej14 dX10_hireItem_85 eM15 (fun H locs hH => ?_)
        exact z_retV G hr hlk hH h dX10_hireItem_86
    obtain ⟨J64_16, hJ64_16, h⟩ := z_j h
    have kJ64_16 : ∀ (ls : Array Slot), J64_16 = some M' → lv_has ls 3 [(0, .ref (za w 0)), (1, .int x2), (2, .int x7)] → zGo p l e rX10_hireItem s m args below meth c (zQ w (none) M') (zA w) H locs (F0 m 64 ls [.ref (za w 0)]) := by
      intro ls h hl
      rw [hJ64_16] at h
      refine lv_iconst (v := (0 : Int32)) G.x G.b dX10_hireItem_64 (by decide) ?_
      exact kJ65_10 (0 : Int32) ls h (lv_sub hl [0, 1, 2] rfl)
    refine lv_if_eq (tgt := 64) G.x G.b dX10_hireItem_47 (by decide) (fun c17 => ?_) (fun c17 => ?_)
    · have h := z_if c17 h
      exact kJ64_16 ls h (lv_sub hl [1, 2, 0] rfl)
    · have h := z_ifn c17 h
      refine lv_aload_n G.x G.b dX10_hireItem_50 rfl (lv_at hl 1 rfl) ?_
      refine lv_iload_n G.x G.b dX10_hireItem_51 rfl (lv_at hl 0 rfl) ?_
      refine lv_iconst (v := (3 : Int32)) G.x G.b dX10_hireItem_52 (by decide) ?_
      obtain ⟨x18, ex18, h⟩ := z_bind h
      refine z_rdI (z_runV (k := 0) (As := [.int x7, .int (3 : Int32)]) (rest := [.ref (za w 0)]) G hH hl.1 (kX10_its l hw ex18) (mM0 hw) vc10 arX10_its u882 u884 us24 u11 u885 rfl rfl rfl (Nat.le_of_ble_eq_true rfl) (Nat.le_of_ble_eq_true rfl) rfl (Nat.le_of_ble_eq_true rfl) dX10_hireItem_53) ?_
      refine lv_iconst (v := (-1 : Int32)) G.x G.b dX10_hireItem_56 (by decide) ?_
      refine lv_icmp_ne (tgt := 64) G.x G.b dX10_hireItem_57 (by decide) (fun c19 => ?_) (fun c19 => ?_)
      · have h := z_ifn c19 h
        exact kJ64_16 ls h (lv_sub hl [1, 2, 0] rfl)
      · have h := z_if c19 h
        refine lv_iconst (v := (1 : Int32)) G.x G.b dX10_hireItem_60 (by decide) ?_
        refine lv_goto (tgt := 65) G.x G.b dX10_hireItem_61 (by decide) ?_
        exact kJ65_10 (1 : Int32) ls h (lv_sub hl [1, 2, 0] rfl)
  obtain ⟨J32_20, hJ32_20, h⟩ := z_j h
  have kJ32_20 : ∀ (ls : Array Slot), J32_20 = some M' → lv_has ls 3 [(0, .ref (za w 0)), (1, .int x2)] → zGo p l e rX10_hireItem s m args below meth c (zQ w (none) M') (zA w) H locs (F0 m 32 ls [.ref (za w 0)]) := by
    intro ls h hl
    rw [hJ32_20] at h
    refine lv_iconst (v := (0 : Int32)) G.x G.b dX10_hireItem_32 (by decide) ?_
    exact kJ33_5 (0 : Int32) ls h (lv_sub hl [0, 1] rfl)
  refine lv_if_eq (tgt := 32) G.x G.b dX10_hireItem_16 (by decide) (fun c21 => ?_) (fun c21 => ?_)
  · have h := z_if c21 h
    exact kJ32_20 ls h (lv_sub hl [1, 0] rfl)
  · have h := z_ifn c21 h
    refine lv_aload_n G.x G.b dX10_hireItem_19 rfl (lv_at hl 1 rfl) ?_
    refine lv_iload_n G.x G.b dX10_hireItem_20 rfl (lv_at hl 0 rfl) ?_
    obtain ⟨x22, ex22, h⟩ := z_bind h
    refine z_rdI (z_runV (k := 0) (As := [.int x2]) (rest := [.ref (za w 0)]) G hH hl.1 (kX10_wornBy l hw ex22) (mM0 hw) vc10 arX10_wornBy u969 u971 us34 u11 u972 rfl rfl rfl (Nat.le_of_ble_eq_true rfl) (Nat.le_of_ble_eq_true rfl) rfl (Nat.le_of_ble_eq_true rfl) dX10_hireItem_21) ?_
    refine lv_iconst (v := (-1 : Int32)) G.x G.b dX10_hireItem_24 (by decide) ?_
    refine lv_icmp_ne (tgt := 32) G.x G.b dX10_hireItem_25 (by decide) (fun c23 => ?_) (fun c23 => ?_)
    · have h := z_ifn c23 h
      exact kJ32_20 ls h (lv_sub hl [1, 0] rfl)
    · have h := z_if c23 h
      refine lv_iconst (v := (1 : Int32)) G.x G.b dX10_hireItem_28 (by decide) ?_
      refine lv_goto (tgt := 33) G.x G.b dX10_hireItem_29 (by decide) ?_
      exact kJ33_5 (1 : Int32) ls h (lv_sub hl [1, 0] rfl)
def fX10_item (M0 : zM) : Option zM :=
  (fX10_kindHere M0).bind fun x1 =>
  (fX10_word M0).bind fun y2 =>
  if x1 < (0 : Int32) then (if (lg_cmp y2 (777046194 : Int64)) = (0 : Int32) then ((fX10_wearerItem M0).bind fun M10 =>
  some M10) else (if (lg_cmp y2 (8902245 : Int64)) = (0 : Int32) then ((fX10_houseItem M0).bind fun M9 =>
  some M9) else (if (lg_cmp y2 (271941 : Int64)) = (0 : Int32) then ((fX10_hireItem M0).bind fun M8 =>
  some M8) else ((fX10_must M0 (0 : Int32)).bind fun M7 =>
  some M7)))) else ((fX10_beardItem M0 x1).bind fun M11 =>
  some M11)
abbrev rX10_item : Room := { frames := 7, cells := 0, slots := 0, locals := 159 }
theorem arX10_item : zAr yX10_item RX10 0 := ⟨rfl, by decide, by decide, by decide +kernel⟩
set_option maxHeartbeats 4000000 in
theorem kX10_item (l : Launch) {w : zWd} (hw : zIsM w) {M0 M' : zM} (h : fX10_item M0 = some M') : Met l yX10_item (Cond.code yX10_item cX10_item 4 (none) :: zU) rX10_item (zPre w M0 [.ref (za w 0)]) (zQ w (none) M') 0 0 (zA w) := by
  refine z_metN (own := RX10) (lv := [(0, .ref (za w 0))]) hw.1 (by decide) (Nat.le_of_ble_eq_true rfl) rfl rfl ?_
  intro p e s m args below meth c G hr hlk hH ls hl
  unfold fX10_item at h
  refine lv_aload_n G.x G.b dX10_item_0 rfl (lv_at hl 0 rfl) ?_
  obtain ⟨x1, ex1, h⟩ := z_bind h
  refine z_rdI (z_runV (k := 0) (As := []) (rest := []) G hH hl.1 (kX10_kindHere l hw ex1) (mM0 hw) vc10 arX10_kindHere u1131 u1133 us50 u11 u1134 rfl rfl rfl (Nat.le_of_ble_eq_true rfl) (Nat.le_of_ble_eq_true rfl) rfl (Nat.le_of_ble_eq_true rfl) dX10_item_1) ?_
  refine lv_istore_n (lv' := [(1, .int x1), (0, .ref (za w 0))]) G.x G.b dX10_item_4 rfl hl (Nat.le_of_ble_eq_true rfl) rfl (fun ls hl => ?_)
  refine lv_aload_n G.x G.b dX10_item_5 rfl (lv_at hl 1 rfl) ?_
  obtain ⟨y2, ey2, h⟩ := z_bind h
  refine z_rdL (z_runV (k := 0) (As := []) (rest := []) G hH hl.1 (kX10_word l hw ey2) (mM0 hw) vc10 arX10_word u1135 u1137 us51 u11 u1138 rfl rfl rfl (Nat.le_of_ble_eq_true rfl) (Nat.le_of_ble_eq_true rfl) rfl (Nat.le_of_ble_eq_true rfl) dX10_item_6) ?_
  refine lv_lstore_n (lv' := [(2, .long y2), (1, .int x1), (0, .ref (za w 0))]) G.x G.b dX10_item_9 rfl hl (Nat.le_of_ble_eq_true rfl) rfl (fun ls hl => ?_)
  refine lv_iload_n G.x G.b dX10_item_10 rfl (lv_at hl 1 rfl) ?_
  refine lv_if_lt (tgt := 22) G.x G.b dX10_item_11 (by decide) (fun c3 => ?_) (fun c3 => ?_)
  · have h := z_if c3 h
    refine lv_lload_n G.x G.b dX10_item_22 rfl (lv_at hl 0 rfl) ?_
    refine lv_ldc2 G.x G.b G.o (G.t u1165) dX10_item_23 ?_
    refine W.lcmp G.x G.b dX10_item_26 ?_
    refine lv_if_ne (tgt := 37) G.x G.b dX10_item_27 (by decide) (fun c4 => ?_) (fun c4 => ?_)
    · have h := z_ifn c4 h
      refine lv_lload_n G.x G.b dX10_item_37 rfl (lv_at hl 0 rfl) ?_
      refine lv_ldc2 G.x G.b G.o (G.t u1171) dX10_item_38 ?_
      refine W.lcmp G.x G.b dX10_item_41 ?_
      refine lv_if_ne (tgt := 52) G.x G.b dX10_item_42 (by decide) (fun c5 => ?_) (fun c5 => ?_)
      · have h := z_ifn c5 h
        refine lv_lload_n G.x G.b dX10_item_52 rfl (lv_at hl 0 rfl) ?_
        refine lv_ldc2 G.x G.b G.o (G.t u1178) dX10_item_53 ?_
        refine W.lcmp G.x G.b dX10_item_56 ?_
        refine lv_if_ne (tgt := 67) G.x G.b dX10_item_57 (by decide) (fun c6 => ?_) (fun c6 => ?_)
        · have h := z_ifn c6 h
          refine lv_aload_n G.x G.b dX10_item_67 rfl (lv_at hl 2 rfl) ?_
          refine lv_iconst (v := (0 : Int32)) G.x G.b dX10_item_68 (by decide) ?_
          obtain ⟨M7, eM7, h⟩ := z_bind h
          refine z_aftV (z_runV (k := 0) (As := [.int (0 : Int32)]) (rest := []) G hH hl.1 (kX10_must l hw eM7) (mM0 hw) vc10 arX10_must u1151 u1153 us53 u11 u1154 rfl rfl rfl (Nat.le_of_ble_eq_true rfl) (Nat.le_of_ble_eq_true rfl) rfl (Nat.le_of_ble_eq_true rfl) dX10_item_69) hH (fun H locs hH => ?_)
          exact z_retV G hr hlk hH h dX10_item_72
        · have h := z_if c6 h
          refine lv_aload_n G.x G.b dX10_item_60 rfl (lv_at hl 2 rfl) ?_
          obtain ⟨M8, eM8, h⟩ := z_bind h
          refine z_aftV (z_runV (k := 0) (As := []) (rest := []) G hH hl.1 (kX10_hireItem l hw eM8) (mM0 hw) vc10 arX10_hireItem u1179 u1181 us58 u11 u1182 rfl rfl rfl (Nat.le_of_ble_eq_true rfl) (Nat.le_of_ble_eq_true rfl) rfl (Nat.le_of_ble_eq_true rfl) dX10_item_61) hH (fun H locs hH => ?_)
          refine lv_goto (tgt := 72) G.x G.b dX10_item_64 (by decide) ?_
          exact z_retV G hr hlk hH h dX10_item_72
      · have h := z_if c5 h
        refine lv_aload_n G.x G.b dX10_item_45 rfl (lv_at hl 2 rfl) ?_
        obtain ⟨M9, eM9, h⟩ := z_bind h
        refine z_aftV (z_runV (k := 0) (As := []) (rest := []) G hH hl.1 (kX10_houseItem l hw eM9) (mM0 hw) vc10 arX10_houseItem u1172 u1174 us57 u11 u1175 rfl rfl rfl (Nat.le_of_ble_eq_true rfl) (Nat.le_of_ble_eq_true rfl) rfl (Nat.le_of_ble_eq_true rfl) dX10_item_46) hH (fun H locs hH => ?_)
        refine lv_goto (tgt := 72) G.x G.b dX10_item_49 (by decide) ?_
        exact z_retV G hr hlk hH h dX10_item_72
    · have h := z_if c4 h
      refine lv_aload_n G.x G.b dX10_item_30 rfl (lv_at hl 2 rfl) ?_
      obtain ⟨M10, eM10, h⟩ := z_bind h
      refine z_aftV (z_runV (k := 0) (As := []) (rest := []) G hH hl.1 (kX10_wearerItem l hw eM10) (mM0 hw) vc10 arX10_wearerItem u1166 u1168 us56 u11 u1169 rfl rfl rfl (Nat.le_of_ble_eq_true rfl) (Nat.le_of_ble_eq_true rfl) rfl (Nat.le_of_ble_eq_true rfl) dX10_item_31) hH (fun H locs hH => ?_)
      refine lv_goto (tgt := 72) G.x G.b dX10_item_34 (by decide) ?_
      exact z_retV G hr hlk hH h dX10_item_72
  · have h := z_ifn c3 h
    refine lv_aload_n G.x G.b dX10_item_14 rfl (lv_at hl 2 rfl) ?_
    refine lv_iload_n G.x G.b dX10_item_15 rfl (lv_at hl 1 rfl) ?_
    obtain ⟨M11, eM11, h⟩ := z_bind h
    refine z_aftV (z_runV (k := 0) (As := [.int x1]) (rest := []) G hH hl.1 (kX10_beardItem l hw eM11) (mM0 hw) vc10 arX10_beardItem u1147 u1149 us52 u11 u1150 rfl rfl rfl (Nat.le_of_ble_eq_true rfl) (Nat.le_of_ble_eq_true rfl) rfl (Nat.le_of_ble_eq_true rfl) dX10_item_16) hH (fun H locs hH => ?_)
    refine lv_goto (tgt := 72) G.x G.b dX10_item_19 (by decide) ?_
    exact z_retV G hr hlk hH h dX10_item_72
def bX10_shop_24 (E59_8 : zM → Int32 → Option (Int32 × zM)) (rc24 : zM → Int32 → Option (Int32 × zM)) (M22 : zM) (x23 : Int32) : Option (Int32 × zM) :=
  if (M22.1 0 11) = (0 : Int32) then ((fX10_byteAt M22 (M22.1 0 8)).bind fun x26 =>
  if x26 = (59 : Int32) then ((fX10_must M22 (1 : Int32)).bind fun M28 =>
  (fX10_item M28).bind fun M29 =>
  (some (x23 + (1 : Int32))).bind fun x30 =>
  rc24 M29 x30) else (E59_8 M22 x23)) else (E59_8 M22 x23)
def lX10_shop_24 (E59_8 : zM → Int32 → Option (Int32 × zM)) : Nat → zM → Int32 → Option (Int32 × zM) := zL2 (bX10_shop_24 E59_8)
def fX10_shop (M0 : zM) : Option (Int32 × zM) :=
  (fX10_saves M0).bind fun M1 =>
  (some (zst M1 0 11 (0 : Int32))).bind fun M2 =>
  (some (zst M2 0 9 (0 : Int32))).bind fun M3 =>
  (fX10_token M3).bind fun M4 =>
  (fX10_item M4).bind fun M5 =>
  zj (fun (M6 : zM) (x7 : Int32) =>
  zj (fun (x9 : Int32) =>
  (zbl x9).bind fun x11 =>
  (some (zst M6 0 11 x11)).bind fun M12 =>
  zj (fun (M13 : zM) =>
  (some (zst M13 0 7 (0 : Int32))).bind fun M15 =>
  if (M15.1 0 11) = (0 : Int32) then (some (x7, M15)) else (some (((-1 : Int32) - (M15.1 0 8)), M15))) fun J97_14 =>
  if (M12.1 0 11) = (0 : Int32) then (J97_14 M12) else ((fX10_putsBack M12).bind fun M18 =>
  J97_14 M18)) fun J83_10 =>
  zj (J83_10 (1 : Int32)) fun J78_19 =>
  if (M6.1 0 11) = (0 : Int32) then (if (M6.1 0 7) ≤ (M6.1 0 8) then (J83_10 (0 : Int32)) else (J78_19)) else (J78_19)) fun E59_8 =>
  lX10_shop_24 E59_8 zFuel M5 (1 : Int32)
abbrev rX10_shop : Room := { frames := 8, cells := 0, slots := 0, locals := 182 }
theorem arX10_shop : zAr yX10_shop RX10 0 := ⟨rfl, by decide, by decide, by decide +kernel⟩
set_option maxHeartbeats 4000000 in
theorem kX10_shop (l : Launch) {w : zWd} (hw : zIsM w) {M0 M' : zM} {r : Int32} (h : fX10_shop M0 = some (r, M')) : Met l yX10_shop (Cond.code yX10_shop cX10_shop 2 (some .int) :: zU) rX10_shop (zPre w M0 [.ref (za w 0)]) (zQ w (some (.int r)) M') 0 0 (zA w) := by
  refine z_metN (own := RX10) (lv := [(0, .ref (za w 0))]) hw.1 (by decide) (Nat.le_of_ble_eq_true rfl) rfl rfl ?_
  intro p e s m args below meth c G hr hlk hH ls hl
  unfold fX10_shop at h
  refine lv_aload_n G.x G.b dX10_shop_0 rfl (lv_at hl 0 rfl) ?_
  obtain ⟨M1, eM1, h⟩ := z_bind h
  refine z_aftV (z_runV (k := 0) (As := []) (rest := []) G hH hl.1 (kX10_saves l hw eM1) (mM0 hw) vc10 arX10_saves u1105 u1107 us46 u11 u1108 rfl rfl rfl (Nat.le_of_ble_eq_true rfl) (Nat.le_of_ble_eq_true rfl) rfl (Nat.le_of_ble_eq_true rfl) dX10_shop_1) hH (fun H locs hH => ?_)
  refine lv_aload_n G.x G.b dX10_shop_4 rfl (lv_at hl 0 rfl) ?_
  refine lv_iconst (v := (0 : Int32)) G.x G.b dX10_shop_5 (by decide) ?_
  obtain ⟨M2, eM2, h⟩ := z_let h
  refine z_putN (k := 0) G hH (mM0 hw) vc10 inU10 tyX10 tyX10_ok nmX10 11 (by decide) u778 rfl (ty := .boolean) rfl rfl rfl mP10_11 (Nat.le_of_ble_eq_true rfl) dX10_shop_6 eM2 (fun H locs hH => ?_)
  refine lv_aload_n G.x G.b dX10_shop_9 rfl (lv_at hl 0 rfl) ?_
  refine lv_iconst (v := (0 : Int32)) G.x G.b dX10_shop_10 (by decide) ?_
  obtain ⟨M3, eM3, h⟩ := z_let h
  refine z_putN (k := 0) G hH (mM0 hw) vc10 inU10 tyX10 tyX10_ok nmX10 9 (by decide) u776 rfl (ty := .int) rfl rfl rfl mP10_9 (Nat.le_of_ble_eq_true rfl) dX10_shop_11 eM3 (fun H locs hH => ?_)
  refine lv_aload_n G.x G.b dX10_shop_14 rfl (lv_at hl 0 rfl) ?_
  obtain ⟨M4, eM4, h⟩ := z_bind h
  refine z_aftV (z_runV (k := 0) (As := []) (rest := []) G hH hl.1 (kX10_token l hw eM4) (mM0 hw) vc10 arX10_token u1109 u1111 us47 u11 u1112 rfl rfl rfl (Nat.le_of_ble_eq_true rfl) (Nat.le_of_ble_eq_true rfl) rfl (Nat.le_of_ble_eq_true rfl) dX10_shop_15) hH (fun H locs hH => ?_)
  refine lv_iconst (v := (1 : Int32)) G.x G.b dX10_shop_18 (by decide) ?_
  refine lv_istore_n (lv' := [(1, .int (1 : Int32)), (0, .ref (za w 0))]) G.x G.b dX10_shop_19 rfl hl (Nat.le_of_ble_eq_true rfl) rfl (fun ls hl => ?_)
  refine lv_aload_n G.x G.b dX10_shop_20 rfl (lv_at hl 1 rfl) ?_
  obtain ⟨M5, eM5, h⟩ := z_bind h
  refine z_aftV (z_runV (k := 0) (As := []) (rest := []) G hH hl.1 (kX10_item l hw eM5) (mM0 hw) vc10 arX10_item u1127 u1129 us49 u11 u1130 rfl rfl rfl (Nat.le_of_ble_eq_true rfl) (Nat.le_of_ble_eq_true rfl) rfl (Nat.le_of_ble_eq_true rfl) dX10_shop_21) hH (fun H locs hH => ?_)
  obtain ⟨E59_8, hE59_8, h⟩ := z_j h
  have kE59_8 : ∀ (M6 : zM) (x7 : Int32) (H : Heap) (locs : List Loc) (ls : Array Slot), E59_8 M6 x7 = some (r, M') → zH w s M6 H locs → lv_has ls 2 [(0, .ref (za w 0)), (1, .int x7)] → zGo p l e rX10_shop s m args below meth c (zQ w (some (.int r)) M') (zA w) H locs (F0 m 59 ls []) := by
    intro M6 x7 H locs ls h hH hl
    rw [hE59_8] at h
    refine lv_aload_n G.x G.b dX10_shop_59 rfl (lv_at hl 0 rfl) ?_
    refine lv_aload_n G.x G.b dX10_shop_60 rfl (lv_at hl 0 rfl) ?_
    refine z_get (v := .int (M6.1 0 11)) (k := 0) G hH.1 (mM0 hw) vc10 inU10 11 (by decide) u778 rfl dX10_shop_61 ?_
    obtain ⟨J83_10, hJ83_10, h⟩ := z_j h
    have kJ83_10 : ∀ (x9 : Int32) (ls : Array Slot), J83_10 x9 = some (r, M') → lv_has ls 2 [(0, .ref (za w 0)), (1, .int x7)] → zGo p l e rX10_shop s m args below meth c (zQ w (some (.int r)) M') (zA w) H locs (F0 m 83 ls [.int x9, .ref (za w 0)]) := by
      intro x9 ls h hl
      rw [hJ83_10] at h
      obtain ⟨x11, ex11, h⟩ := z_bind h
      obtain ⟨gx11, ex11⟩ := zbl_some ex11
      refine z_nmI ex11.symm ?_
      rw [ex11] at gx11
      obtain ⟨M12, eM12, h⟩ := z_let h
      refine z_putN (k := 0) G hH (mM0 hw) vc10 inU10 tyX10 tyX10_ok nmX10 11 (by decide) u778 rfl (ty := .boolean) rfl (zbl_nar gx11) (zbl_fit gx11) mP10_11 (Nat.le_of_ble_eq_true rfl) dX10_shop_83 eM12 (fun H locs hH => ?_)
      refine lv_aload_n G.x G.b dX10_shop_86 rfl (lv_at hl 0 rfl) ?_
      refine z_get (v := .int (M12.1 0 11)) (k := 0) G hH.1 (mM0 hw) vc10 inU10 11 (by decide) u778 rfl dX10_shop_87 ?_
      obtain ⟨J97_14, hJ97_14, h⟩ := z_j h
      have kJ97_14 : ∀ (M13 : zM) (H : Heap) (locs : List Loc) (ls : Array Slot), J97_14 M13 = some (r, M') → zH w s M13 H locs → lv_has ls 2 [(0, .ref (za w 0)), (1, .int x7)] → zGo p l e rX10_shop s m args below meth c (zQ w (some (.int r)) M') (zA w) H locs (F0 m 97 ls []) := by
        intro M13 H locs ls h hH hl
        rw [hJ97_14] at h
        refine lv_aload_n G.x G.b dX10_shop_97 rfl (lv_at hl 0 rfl) ?_
        refine lv_iconst (v := (0 : Int32)) G.x G.b dX10_shop_98 (by decide) ?_
        obtain ⟨M15, eM15, h⟩ := z_let h
        refine z_putN (k := 0) G hH (mM0 hw) vc10 inU10 tyX10 tyX10_ok nmX10 7 (by decide) u774 rfl (ty := .int) rfl rfl rfl mP10_7 (Nat.le_of_ble_eq_true rfl) dX10_shop_99 eM15 (fun H locs hH => ?_)
        refine lv_aload_n G.x G.b dX10_shop_102 rfl (lv_at hl 0 rfl) ?_
        refine z_get (v := .int (M15.1 0 11)) (k := 0) G hH.1 (mM0 hw) vc10 inU10 11 (by decide) u778 rfl dX10_shop_103 ?_
        refine lv_if_eq (tgt := 118) G.x G.b dX10_shop_106 (by decide) (fun c16 => ?_) (fun c16 => ?_)
        · have h := z_if c16 h
          refine lv_iload_n G.x G.b dX10_shop_118 rfl (lv_at hl 1 rfl) ?_
          exact z_retI G hr hlk hH h dX10_shop_119
        · have h := z_ifn c16 h
          refine lv_iconst (v := (-1 : Int32)) G.x G.b dX10_shop_109 (by decide) ?_
          refine lv_aload_n G.x G.b dX10_shop_110 rfl (lv_at hl 0 rfl) ?_
          refine z_get (v := .int (M15.1 0 8)) (k := 0) G hH.1 (mM0 hw) vc10 inU10 8 (by decide) u775 rfl dX10_shop_111 ?_
          refine lv_isub G.x G.b dX10_shop_114 ?_
          refine lv_goto (tgt := 119) G.x G.b dX10_shop_115 (by decide) ?_
          exact z_retI G hr hlk hH h dX10_shop_119
      refine lv_if_eq (tgt := 97) G.x G.b dX10_shop_90 (by decide) (fun c17 => ?_) (fun c17 => ?_)
      · have h := z_if c17 h
        exact kJ97_14 M12 H locs ls h hH (lv_sub hl [0, 1] rfl)
      · have h := z_ifn c17 h
        refine lv_aload_n G.x G.b dX10_shop_93 rfl (lv_at hl 0 rfl) ?_
        obtain ⟨M18, eM18, h⟩ := z_bind h
        refine z_aftV (z_runV (k := 0) (As := []) (rest := []) G hH hl.1 (kX10_putsBack l hw eM18) (mM0 hw) vc10 arX10_putsBack u1187 u1189 us60 u11 u1190 rfl rfl rfl (Nat.le_of_ble_eq_true rfl) (Nat.le_of_ble_eq_true rfl) rfl (Nat.le_of_ble_eq_true rfl) dX10_shop_94) hH (fun H locs hH => ?_)
        exact kJ97_14 M18 H locs ls h hH (lv_sub hl [0, 1] rfl)
    obtain ⟨J78_19, hJ78_19, h⟩ := z_j h
    have kJ78_19 : ∀ (ls : Array Slot), J78_19 = some (r, M') → lv_has ls 2 [(0, .ref (za w 0)), (1, .int x7)] → zGo p l e rX10_shop s m args below meth c (zQ w (some (.int r)) M') (zA w) H locs (F0 m 78 ls [.ref (za w 0)]) := by
      intro ls h hl
      rw [hJ78_19] at h
      refine lv_iconst (v := (1 : Int32)) G.x G.b dX10_shop_78 (by decide) ?_
      refine lv_goto (tgt := 83) G.x G.b dX10_shop_79 (by decide) ?_
      exact kJ83_10 (1 : Int32) ls h (lv_sub hl [0, 1] rfl)
    refine lv_if_ne (tgt := 78) G.x G.b dX10_shop_64 (by decide) (fun c20 => ?_) (fun c20 => ?_)
    · have h := z_ifn c20 h
      exact kJ78_19 ls h (lv_sub hl [0, 1] rfl)
    · have h := z_if c20 h
      refine lv_aload_n G.x G.b dX10_shop_67 rfl (lv_at hl 0 rfl) ?_
      refine z_get (v := .int (M6.1 0 8)) (k := 0) G hH.1 (mM0 hw) vc10 inU10 8 (by decide) u775 rfl dX10_shop_68 ?_
      refine lv_aload_n G.x G.b dX10_shop_71 rfl (lv_at hl 0 rfl) ?_
      refine z_get (v := .int (M6.1 0 7)) (k := 0) G hH.1 (mM0 hw) vc10 inU10 7 (by decide) u774 rfl dX10_shop_72 ?_
      refine lv_icmp_ge (tgt := 82) G.x G.b dX10_shop_75 (by decide) (fun c21 => ?_) (fun c21 => ?_)
      · have h := z_if c21 h
        refine lv_iconst (v := (0 : Int32)) G.x G.b dX10_shop_82 (by decide) ?_
        exact kJ83_10 (0 : Int32) ls h (lv_sub hl [0, 1] rfl)
      · have h := z_ifn c21 h
        exact kJ78_19 ls h (lv_sub hl [0, 1] rfl)
  have n24 : ∀ (n : Nat) (M22 : zM) (x23 : Int32) (H : Heap) (locs : List Loc) (ls : Array Slot), zL2 (bX10_shop_24 E59_8) n M22 x23 = some (r, M') → zH w s M22 H locs → lv_has ls 2 [(0, .ref (za w 0)), (1, .int x23)] → zGo p l e rX10_shop s m args below meth c (zQ w (some (.int r)) M') (zA w) H locs (F0 m 24 ls []) := by
    intro n
    induction n with
    | zero => intro M22 x23 H locs ls h; exact (zL2_0 h).elim
    | succ n ih24 =>
      intro M22 x23 H locs ls h hH hl
      obtain ⟨rc24, hrc24, h⟩ := zL2_s h
      rw [← hrc24] at ih24
      unfold bX10_shop_24 at h
      refine lv_aload_n G.x G.b dX10_shop_24 rfl (lv_at hl 0 rfl) ?_
      refine z_get (v := .int (M22.1 0 11)) (k := 0) G hH.1 (mM0 hw) vc10 inU10 11 (by decide) u778 rfl dX10_shop_25 ?_
      refine lv_if_ne (tgt := 59) G.x G.b dX10_shop_28 (by decide) (fun c25 => ?_) (fun c25 => ?_)
      · have h := z_ifn c25 h
        exact kE59_8 M22 x23 H locs ls h hH (lv_sub hl [0, 1] rfl)
      · have h := z_if c25 h
        refine lv_aload_n G.x G.b dX10_shop_31 rfl (lv_at hl 0 rfl) ?_
        refine lv_aload_n G.x G.b dX10_shop_32 rfl (lv_at hl 0 rfl) ?_
        refine z_get (v := .int (M22.1 0 8)) (k := 0) G hH.1 (mM0 hw) vc10 inU10 8 (by decide) u775 rfl dX10_shop_33 ?_
        obtain ⟨x26, ex26, h⟩ := z_bind h
        refine z_rdI (z_runV (k := 0) (As := [.int (M22.1 0 8)]) (rest := []) G hH hl.1 (kX10_byteAt l hw ex26) (mM0 hw) vc10 arX10_byteAt u1113 u1115 us48 u11 u1116 rfl rfl rfl (Nat.le_of_ble_eq_true rfl) (Nat.le_of_ble_eq_true rfl) rfl (Nat.le_of_ble_eq_true rfl) dX10_shop_36) ?_
        refine lv_bipush (v := (59 : Int32)) G.x G.b dX10_shop_39 (by decide) ?_
        refine lv_icmp_ne (tgt := 59) G.x G.b dX10_shop_41 (by decide) (fun c27 => ?_) (fun c27 => ?_)
        · have h := z_ifn c27 h
          exact kE59_8 M22 x23 H locs ls h hH (lv_sub hl [0, 1] rfl)
        · have h := z_if c27 h
          refine lv_aload_n G.x G.b dX10_shop_44 rfl (lv_at hl 0 rfl) ?_
          refine lv_iconst (v := (1 : Int32)) G.x G.b dX10_shop_45 (by decide) ?_
          obtain ⟨M28, eM28, h⟩ := z_bind h
          refine z_aftV (z_runV (k := 0) (As := [.int (1 : Int32)]) (rest := []) G hH hl.1 (kX10_must l hw eM28) (mM0 hw) vc10 arX10_must u1151 u1153 us53 u11 u1154 rfl rfl rfl (Nat.le_of_ble_eq_true rfl) (Nat.le_of_ble_eq_true rfl) rfl (Nat.le_of_ble_eq_true rfl) dX10_shop_46) hH (fun H locs hH => ?_)
          refine lv_aload_n G.x G.b dX10_shop_49 rfl (lv_at hl 0 rfl) ?_
          obtain ⟨M29, eM29, h⟩ := z_bind h
          refine z_aftV (z_runV (k := 0) (As := []) (rest := []) G hH hl.1 (kX10_item l hw eM29) (mM0 hw) vc10 arX10_item u1127 u1129 us49 u11 u1130 rfl rfl rfl (Nat.le_of_ble_eq_true rfl) (Nat.le_of_ble_eq_true rfl) rfl (Nat.le_of_ble_eq_true rfl) dX10_shop_50) hH (fun H locs hH => ?_)
          obtain ⟨x30, ex30, h⟩ := z_let h
          refine lv_iinc (v := x30) (lv' := [(1, .int x30), (0, .ref (za w 0))]) G.x G.b dX10_shop_53 hl (k := 1) rfl (by rw [ex30]; rfl) (Nat.le_of_ble_eq_true rfl) rfl (fun ls hl => ?_)
          refine lv_goto (tgt := 24) G.x G.b dX10_shop_56 (by decide) ?_
          exact ih24 M29 x30 H locs ls h hH (lv_sub hl [1, 0] rfl)
  exact n24 zFuel M5 (1 : Int32) H locs ls h hH (lv_sub hl [1, 0] rfl)
def fX10_isOne (a1 : Int32) : Option Int32 :=
  (fX10_in a1.toInt64 (0 : Int64) (3 : Int64)).bind fun x1 =>
  zbl x1
abbrev rX10_isOne : Room := { frames := 1, cells := 0, slots := 0, locals := 25 }
theorem arX10_isOne : zAr yX10_isOne RX10 1 := ⟨rfl, by decide, by decide, by decide +kernel⟩
set_option maxHeartbeats 4000000 in
theorem kX10_isOne (l : Launch) {w : zWd} (ho : zOk w) {M0 : zM} {a1 : Int32} {r : Int32} (h : fX10_isOne a1 = some r) : Met l yX10_isOne (Cond.code yX10_isOne cX10_isOne 1 (some .boolean) :: zU) rX10_isOne (zPre w M0 [.int a1]) (zR (some (.int r))) 0 0 zNo := by
  refine z_metN (own := RX10) (lv := [(0, .int a1)]) ho (by decide) (Nat.le_of_ble_eq_true rfl) rfl rfl ?_
  intro p e s m args below meth c G hr hlk hH ls hl
  unfold fX10_isOne at h
  refine lv_iload_n G.x G.b dX10_isOne_0 rfl (lv_at hl 0 rfl) ?_
  refine lv_i2l (v := a1.toInt64) G.x G.b dX10_isOne_1 rfl ?_
  refine lv_lconst (v := (0 : Int64)) G.x G.b dX10_isOne_2 (by decide) ?_
  refine lv_ldc2 G.x G.b G.o (G.t u968) dX10_isOne_3 ?_
  obtain ⟨x1, ex1, h⟩ := z_bind h
  refine z_rdI (z_runS (As := [.long a1.toInt64, .long (0 : Int64), .long (3 : Int64)]) (rest := []) G hH hl.1 (kX10_in l ho ex1) arX10_in u824 u825 u11 u826 rfl rfl rfl (Nat.le_of_ble_eq_true rfl) (Nat.le_of_ble_eq_true rfl) rfl (Nat.le_of_ble_eq_true rfl) dX10_isOne_6) ?_
  exact z_rtZ G hr hlk h dX10_isOne_9
def bX10_sheet_86 (a1 : Int32) (E112_15 : zM → Option (Int32 × zM)) (rc19 : zM → Int32 → Option (Int32 × zM)) (M17 : zM) (x18 : Int32) : Option (Int32 × zM) :=
  if (40 : Int32) ≤ x18 then (E112_15 M17) else ((zix (((40 : Int32) * a1) + x18) 160).bind fun j21 =>
  (some (zstL M17 9 j21 (0 : Int64))).bind fun M22 =>
  (some (x18 + (1 : Int32))).bind fun x23 =>
  rc19 M22 x23)
def lX10_sheet_86 (a1 : Int32) (E112_15 : zM → Option (Int32 × zM)) : Nat → zM → Int32 → Option (Int32 × zM) := zL2 (bX10_sheet_86 a1 E112_15)
def fX10_sheet (M0 : zM) (a1 : Int32) (a2 : Int32) (a3 : Int32) : Option (Int32 × zM) :=
  (fX10_isOne a1).bind fun x1 =>
  if x1 = (0 : Int32) then (zb2 (fX10_finds M0 (-1000000001 : Int32)) fun x3 M4 =>
  some (x3, M4)) else (zj (if (0 : Int32) ≤ a3 then (if a3 ≤ (40 : Int32) then ((zix a1 4).bind fun j8 =>
  (some (zst M0 7 j8 a2)).bind fun M9 =>
  zj (fun (x10 : Int32) =>
  (zix a1 4).bind fun j12 =>
  (some (zst M9 8 j12 x10)).bind fun M13 =>
  zj (fun (M14 : zM) =>
  (zix a1 4).bind fun j16 =>
  some ((M14.1 8 j16), M14)) fun E112_15 =>
  lX10_sheet_86 a1 E112_15 zFuel M13 (0 : Int32)) fun J82_11 =>
  if a2 = (0 : Int32) then (J82_11 (0 : Int32)) else (J82_11 a3)) else (zb2 (fX10_finds M0 (-1000000001 : Int32)) fun x25 M26 =>
  some (x25, M26))) else (zb2 (fX10_finds M0 (-1000000007 : Int32)) fun x27 M28 =>
  some (x27, M28))) fun J36_5 =>
  if a2 = (0 : Int32) then (J36_5) else (if a2 = (8 : Int32) then (J36_5) else (if a2 = (16 : Int32) then (J36_5) else (if a2 = (64 : Int32) then (J36_5) else (zb2 (fX10_finds M0 (-1000000001 : Int32)) fun x33 M34 =>
  some (x33, M34))))))
abbrev rX10_sheet : Room := { frames := 2, cells := 0, slots := 0, locals := 45 }
theorem arX10_sheet : zAr yX10_sheet RX10 3 := ⟨rfl, by decide, by decide, by decide +kernel⟩
set_option maxHeartbeats 4000000 in
theorem kX10_sheet (l : Launch) {w : zWd} (hw : zIsM w) {M0 M' : zM} {a1 : Int32} {a2 : Int32} {a3 : Int32} {r : Int32} (h : fX10_sheet M0 a1 a2 a3 = some (r, M')) : Met l yX10_sheet (Cond.code yX10_sheet cX10_sheet 5 (some .int) :: zU) rX10_sheet (zPre w M0 [.ref (za w 0), .int a1, .int a2, .int a3]) (zQ w (some (.int r)) M') 0 0 (zA w) := by
  refine z_metN (own := RX10) (lv := [(0, .ref (za w 0)), (1, .int a1), (2, .int a2), (3, .int a3)]) hw.1 (by decide) (Nat.le_of_ble_eq_true rfl) rfl rfl ?_
  intro p e s m args below meth c G hr hlk hH ls hl
  unfold fX10_sheet at h
  refine lv_iload_n G.x G.b dX10_sheet_0 rfl (lv_at hl 1 rfl) ?_
  obtain ⟨x1, ex1, h⟩ := z_bind h
  refine z_rdI (z_runS (As := [.int a1]) (rest := []) G hH hl.1 (kX10_isOne l hw.1 ex1) arX10_isOne u1195 u1196 u11 u1197 rfl rfl rfl (Nat.le_of_ble_eq_true rfl) (Nat.le_of_ble_eq_true rfl) rfl (Nat.le_of_ble_eq_true rfl) dX10_sheet_1) ?_
  refine lv_if_eq (tgt := 29) G.x G.b dX10_sheet_4 (by decide) (fun c2 => ?_) (fun c2 => ?_)
  · have h := z_if c2 h
    refine lv_aload_n G.x G.b dX10_sheet_29 rfl (lv_at hl 0 rfl) ?_
    refine lv_ldc G.x G.b G.o (G.t u833) dX10_sheet_30 ?_
    obtain ⟨x3, M4, eM4, h⟩ := z_b2 h
    refine z_aftI (z_runV (k := 0) (As := [.int (-1000000001 : Int32)]) (rest := []) G hH hl.1 (kX10_finds l hw eM4) (mM0 hw) vc10 arX10_finds u834 u836 us16 u11 u837 rfl rfl rfl (Nat.le_of_ble_eq_true rfl) (Nat.le_of_ble_eq_true rfl) rfl (Nat.le_of_ble_eq_true rfl) dX10_sheet_32) hH (fun H locs hH => ?_)
    exact z_retI G hr hlk hH h dX10_sheet_35
  · have h := z_ifn c2 h
    refine lv_iload_n G.x G.b dX10_sheet_7 rfl (lv_at hl 2 rfl) ?_
    obtain ⟨J36_5, hJ36_5, h⟩ := z_j h
    have kJ36_5 : ∀ (ls : Array Slot), J36_5 = some (r, M') → lv_has ls 5 [(0, .ref (za w 0)), (1, .int a1), (2, .int a2), (3, .int a3)] → zGo p l e rX10_sheet s m args below meth c (zQ w (some (.int r)) M') (zA w) s.heap [] (F0 m 36 ls []) := by
      intro ls h hl
      rw [hJ36_5] at h
      refine lv_iload_n G.x G.b dX10_sheet_36 rfl (lv_at hl 3 rfl) ?_
      refine lv_if_ge (tgt := 48) G.x G.b dX10_sheet_37 (by decide) (fun c6 => ?_) (fun c6 => ?_)
      · have h := z_if c6 h
        refine lv_iload_n G.x G.b dX10_sheet_48 rfl (lv_at hl 3 rfl) ?_
        refine lv_bipush (v := (40 : Int32)) G.x G.b dX10_sheet_49 (by decide) ?_
        refine lv_icmp_le (tgt := 61) G.x G.b dX10_sheet_51 (by decide) (fun c7 => ?_) (fun c7 => ?_)
        · have h := z_if c7 h
          refine lv_aload_n G.x G.b dX10_sheet_61 rfl (lv_at hl 0 rfl) ?_
          refine z_get (v := .ref (za w 7)) (k := 0) G hH.1 (mM0 hw) vc10 inU10 12 (by decide) u779 rfl dX10_sheet_62 ?_
          refine lv_iload_n G.x G.b dX10_sheet_65 rfl (lv_at hl 1 rfl) ?_
          refine lv_iload_n G.x G.b dX10_sheet_66 rfl (lv_at hl 2 rfl) ?_
          obtain ⟨j8, ej8, h⟩ := z_bind h
          obtain ⟨M9, eM9, h⟩ := z_let h
          refine z_iastN (k := 7) G hH (mM7 hw) ej8 dX10_sheet_67 eM9 (fun H locs hH => ?_)
          refine lv_aload_n G.x G.b dX10_sheet_68 rfl (lv_at hl 0 rfl) ?_
          refine z_get (v := .ref (za w 8)) (k := 0) G hH.1 (mM0 hw) vc10 inU10 13 (by decide) u780 rfl dX10_sheet_69 ?_
          refine lv_iload_n G.x G.b dX10_sheet_72 rfl (lv_at hl 1 rfl) ?_
          refine lv_iload_n G.x G.b dX10_sheet_73 rfl (lv_at hl 2 rfl) ?_
          obtain ⟨J82_11, hJ82_11, h⟩ := z_j h
          have kJ82_11 : ∀ (x10 : Int32) (ls : Array Slot), J82_11 x10 = some (r, M') → lv_has ls 5 [(0, .ref (za w 0)), (1, .int a1)] → zGo p l e rX10_sheet s m args below meth c (zQ w (some (.int r)) M') (zA w) H locs (F0 m 82 ls [.int x10, .int a1, .ref (za w 8)]) := by
            intro x10 ls h hl
            rw [hJ82_11] at h
            obtain ⟨j12, ej12, h⟩ := z_bind h
            obtain ⟨M13, eM13, h⟩ := z_let h
            refine z_iastN (k := 8) G hH (mM8 hw) ej12 dX10_sheet_82 eM13 (fun H locs hH => ?_)
            refine lv_iconst (v := (0 : Int32)) G.x G.b dX10_sheet_83 (by decide) ?_
            refine lv_istore (lv' := [(4, .int (0 : Int32)), (0, .ref (za w 0)), (1, .int a1)]) G.x G.b dX10_sheet_84 hl (Nat.le_of_ble_eq_true rfl) rfl (fun ls hl => ?_)
            obtain ⟨E112_15, hE112_15, h⟩ := z_j h
            have kE112_15 : ∀ (M14 : zM) (H : Heap) (locs : List Loc) (ls : Array Slot), E112_15 M14 = some (r, M') → zH w s M14 H locs → lv_has ls 5 [(0, .ref (za w 0)), (1, .int a1)] → zGo p l e rX10_sheet s m args below meth c (zQ w (some (.int r)) M') (zA w) H locs (F0 m 112 ls []) := by
              intro M14 H locs ls h hH hl
              rw [hE112_15] at h
              refine lv_aload_n G.x G.b dX10_sheet_112 rfl (lv_at hl 0 rfl) ?_
              refine z_get (v := .ref (za w 8)) (k := 0) G hH.1 (mM0 hw) vc10 inU10 13 (by decide) u780 rfl dX10_sheet_113 ?_
              refine lv_iload_n G.x G.b dX10_sheet_116 rfl (lv_at hl 1 rfl) ?_
              obtain ⟨j16, ej16, h⟩ := z_bind h
              refine z_iald (k := 8) G hH.1 (mM8 hw) ej16 dX10_sheet_117 ?_
              exact z_retI G hr hlk hH h dX10_sheet_118
            have n19 : ∀ (n : Nat) (M17 : zM) (x18 : Int32) (H : Heap) (locs : List Loc) (ls : Array Slot), zL2 (bX10_sheet_86 a1 E112_15) n M17 x18 = some (r, M') → zH w s M17 H locs → lv_has ls 5 [(0, .ref (za w 0)), (1, .int a1), (4, .int x18)] → zGo p l e rX10_sheet s m args below meth c (zQ w (some (.int r)) M') (zA w) H locs (F0 m 86 ls []) := by
              intro n
              induction n with
              | zero => intro M17 x18 H locs ls h; exact (zL2_0 h).elim
              | succ n ih19 =>
                intro M17 x18 H locs ls h hH hl
                obtain ⟨rc19, hrc19, h⟩ := zL2_s h
                rw [← hrc19] at ih19
                unfold bX10_sheet_86 at h
                refine lv_iload G.x G.b dX10_sheet_86 (lv_at hl 2 rfl) ?_
                refine lv_bipush (v := (40 : Int32)) G.x G.b dX10_sheet_88 (by decide) ?_
                refine lv_icmp_ge (tgt := 112) G.x G.b dX10_sheet_90 (by decide) (fun c20 => ?_) (fun c20 => ?_)
                · have h := z_if c20 h
                  exact kE112_15 M17 H locs ls h hH (lv_sub hl [0, 1] rfl)
                · have h := z_ifn c20 h
                  refine lv_aload_n G.x G.b dX10_sheet_93 rfl (lv_at hl 0 rfl) ?_
                  refine z_get (v := .ref (za w 9)) (k := 0) G hH.1 (mM0 hw) vc10 inU10 14 (by decide) u781 rfl dX10_sheet_94 ?_
                  refine lv_bipush (v := (40 : Int32)) G.x G.b dX10_sheet_97 (by decide) ?_
                  refine lv_iload_n G.x G.b dX10_sheet_99 rfl (lv_at hl 1 rfl) ?_
                  refine lv_imul G.x G.b dX10_sheet_100 ?_
                  refine lv_iload G.x G.b dX10_sheet_101 (lv_at hl 2 rfl) ?_
                  refine lv_iadd G.x G.b dX10_sheet_103 ?_
                  refine lv_lconst (v := (0 : Int64)) G.x G.b dX10_sheet_104 (by decide) ?_
                  obtain ⟨j21, ej21, h⟩ := z_bind h
                  obtain ⟨M22, eM22, h⟩ := z_let h
                  refine z_lastN (k := 9) G hH (mM9 hw) ej21 dX10_sheet_105 eM22 (fun H locs hH => ?_)
                  obtain ⟨x23, ex23, h⟩ := z_let h
                  refine lv_iinc (v := x23) (lv' := [(4, .int x23), (0, .ref (za w 0)), (1, .int a1)]) G.x G.b dX10_sheet_106 hl (k := 2) rfl (by rw [ex23]; rfl) (Nat.le_of_ble_eq_true rfl) rfl (fun ls hl => ?_)
                  refine lv_goto (tgt := 86) G.x G.b dX10_sheet_109 (by decide) ?_
                  exact ih19 M22 x23 H locs ls h hH (lv_sub hl [1, 2, 0] rfl)
            exact n19 zFuel M13 (0 : Int32) H locs ls h hH (lv_sub hl [1, 2, 0] rfl)
          refine lv_if_ne (tgt := 81) G.x G.b dX10_sheet_74 (by decide) (fun c24 => ?_) (fun c24 => ?_)
          · have h := z_ifn c24 h
            refine lv_iload_n G.x G.b dX10_sheet_81 rfl (lv_at hl 3 rfl) ?_
            exact kJ82_11 a3 ls h (lv_sub hl [0, 1] rfl)
          · have h := z_if c24 h
            refine lv_iconst (v := (0 : Int32)) G.x G.b dX10_sheet_77 (by decide) ?_
            refine lv_goto (tgt := 82) G.x G.b dX10_sheet_78 (by decide) ?_
            exact kJ82_11 (0 : Int32) ls h (lv_sub hl [0, 1] rfl)
        · have h := z_ifn c7 h
          refine lv_aload_n G.x G.b dX10_sheet_54 rfl (lv_at hl 0 rfl) ?_
          refine lv_ldc G.x G.b G.o (G.t u833) dX10_sheet_55 ?_
          obtain ⟨x25, M26, eM26, h⟩ := z_b2 h
          refine z_aftI (z_runV (k := 0) (As := [.int (-1000000001 : Int32)]) (rest := []) G hH hl.1 (kX10_finds l hw eM26) (mM0 hw) vc10 arX10_finds u834 u836 us16 u11 u837 rfl rfl rfl (Nat.le_of_ble_eq_true rfl) (Nat.le_of_ble_eq_true rfl) rfl (Nat.le_of_ble_eq_true rfl) dX10_sheet_57) hH (fun H locs hH => ?_)
          exact z_retI G hr hlk hH h dX10_sheet_60
      · have h := z_ifn c6 h
        refine lv_aload_n G.x G.b dX10_sheet_40 rfl (lv_at hl 0 rfl) ?_
        refine lv_ldcw G.x G.b G.o (G.t u1198) dX10_sheet_41 ?_
        obtain ⟨x27, M28, eM28, h⟩ := z_b2 h
        refine z_aftI (z_runV (k := 0) (As := [.int (-1000000007 : Int32)]) (rest := []) G hH hl.1 (kX10_finds l hw eM28) (mM0 hw) vc10 arX10_finds u834 u836 us16 u11 u837 rfl rfl rfl (Nat.le_of_ble_eq_true rfl) (Nat.le_of_ble_eq_true rfl) rfl (Nat.le_of_ble_eq_true rfl) dX10_sheet_44) hH (fun H locs hH => ?_)
        exact z_retI G hr hlk hH h dX10_sheet_47
    refine lv_if_eq (tgt := 36) G.x G.b dX10_sheet_8 (by decide) (fun c29 => ?_) (fun c29 => ?_)
    · have h := z_if c29 h
      exact kJ36_5 ls h (lv_sub hl [0, 1, 2, 3] rfl)
    · have h := z_ifn c29 h
      refine lv_iload_n G.x G.b dX10_sheet_11 rfl (lv_at hl 2 rfl) ?_
      refine lv_bipush (v := (8 : Int32)) G.x G.b dX10_sheet_12 (by decide) ?_
      refine lv_icmp_eq (tgt := 36) G.x G.b dX10_sheet_14 (by decide) (fun c30 => ?_) (fun c30 => ?_)
      · have h := z_if c30 h
        exact kJ36_5 ls h (lv_sub hl [0, 1, 2, 3] rfl)
      · have h := z_ifn c30 h
        refine lv_iload_n G.x G.b dX10_sheet_17 rfl (lv_at hl 2 rfl) ?_
        refine lv_bipush (v := (16 : Int32)) G.x G.b dX10_sheet_18 (by decide) ?_
        refine lv_icmp_eq (tgt := 36) G.x G.b dX10_sheet_20 (by decide) (fun c31 => ?_) (fun c31 => ?_)
        · have h := z_if c31 h
          exact kJ36_5 ls h (lv_sub hl [0, 1, 2, 3] rfl)
        · have h := z_ifn c31 h
          refine lv_iload_n G.x G.b dX10_sheet_23 rfl (lv_at hl 2 rfl) ?_
          refine lv_bipush (v := (64 : Int32)) G.x G.b dX10_sheet_24 (by decide) ?_
          refine lv_icmp_eq (tgt := 36) G.x G.b dX10_sheet_26 (by decide) (fun c32 => ?_) (fun c32 => ?_)
          · have h := z_if c32 h
            exact kJ36_5 ls h (lv_sub hl [0, 1, 2, 3] rfl)
          · have h := z_ifn c32 h
            refine lv_aload_n G.x G.b dX10_sheet_29 rfl (lv_at hl 0 rfl) ?_
            refine lv_ldc G.x G.b G.o (G.t u833) dX10_sheet_30 ?_
            obtain ⟨x33, M34, eM34, h⟩ := z_b2 h
            refine z_aftI (z_runV (k := 0) (As := [.int (-1000000001 : Int32)]) (rest := []) G hH hl.1 (kX10_finds l hw eM34) (mM0 hw) vc10 arX10_finds u834 u836 us16 u11 u837 rfl rfl rfl (Nat.le_of_ble_eq_true rfl) (Nat.le_of_ble_eq_true rfl) rfl (Nat.le_of_ble_eq_true rfl) dX10_sheet_32) hH (fun H locs hH => ?_)
            exact z_retI G hr hlk hH h dX10_sheet_35
def fX10_narrowed (a1 : Int32) (a2 : Int64) : Option Int64 :=
  if a1 = (8 : Int32) then (some a2.toInt32.toInt8.toInt32.toInt64) else (if a1 = (16 : Int32) then (some a2.toInt32.toInt16.toInt32.toInt64) else (some a2))
abbrev rX10_narrowed : Room := { frames := 0, cells := 0, slots := 0, locals := 0 }
theorem arX10_narrowed : zAr yX10_narrowed RX10 2 := ⟨rfl, by decide, by decide, by decide +kernel⟩
set_option maxHeartbeats 4000000 in
theorem kX10_narrowed (l : Launch) {w : zWd} (ho : zOk w) {M0 : zM} {a1 : Int32} {a2 : Int64} {r : Int64} (h : fX10_narrowed a1 a2 = some r) : Met l yX10_narrowed (Cond.code yX10_narrowed cX10_narrowed 3 (some .long) :: zU) rX10_narrowed (zPre w M0 [.int a1, .long a2]) (zR (some (.long r))) 0 0 zNo := by
  refine z_metN (own := RX10) (lv := [(0, .int a1), (1, .long a2)]) ho (by decide) (Nat.le_of_ble_eq_true rfl) rfl rfl ?_
  intro p e s m args below meth c G hr hlk hH ls hl
  unfold fX10_narrowed at h
  refine lv_iload_n G.x G.b dX10_narrowed_0 rfl (lv_at hl 0 rfl) ?_
  refine lv_bipush (v := (8 : Int32)) G.x G.b dX10_narrowed_1 (by decide) ?_
  refine lv_icmp_ne (tgt := 13) G.x G.b dX10_narrowed_3 (by decide) (fun c1 => ?_) (fun c1 => ?_)
  · have h := z_ifn c1 h
    refine lv_iload_n G.x G.b dX10_narrowed_13 rfl (lv_at hl 0 rfl) ?_
    refine lv_bipush (v := (16 : Int32)) G.x G.b dX10_narrowed_14 (by decide) ?_
    refine lv_icmp_ne (tgt := 26) G.x G.b dX10_narrowed_16 (by decide) (fun c2 => ?_) (fun c2 => ?_)
    · have h := z_ifn c2 h
      refine lv_lload_n G.x G.b dX10_narrowed_26 rfl (lv_at hl 1 rfl) ?_
      exact z_rtL G hr hlk h dX10_narrowed_27
    · have h := z_if c2 h
      refine lv_lload_n G.x G.b dX10_narrowed_19 rfl (lv_at hl 1 rfl) ?_
      refine lv_l2i (v := a2.toInt32) G.x G.b dX10_narrowed_20 rfl ?_
      refine lv_i2s (v := a2.toInt32.toInt16.toInt32) G.x G.b dX10_narrowed_21 rfl ?_
      refine lv_i2l (v := a2.toInt32.toInt16.toInt32.toInt64) G.x G.b dX10_narrowed_22 rfl ?_
      refine lv_goto (tgt := 27) G.x G.b dX10_narrowed_23 (by decide) ?_
      exact z_rtL G hr hlk h dX10_narrowed_27
  · have h := z_if c1 h
    refine lv_lload_n G.x G.b dX10_narrowed_6 rfl (lv_at hl 1 rfl) ?_
    refine lv_l2i (v := a2.toInt32) G.x G.b dX10_narrowed_7 rfl ?_
    refine lv_i2b (v := a2.toInt32.toInt8.toInt32) G.x G.b dX10_narrowed_8 rfl ?_
    refine lv_i2l (v := a2.toInt32.toInt8.toInt32.toInt64) G.x G.b dX10_narrowed_9 rfl ?_
    refine lv_goto (tgt := 27) G.x G.b dX10_narrowed_10 (by decide) ?_
    exact z_rtL G hr hlk h dX10_narrowed_27
def fX10_wrongSheet (M0 : zM) (a1 : Int32) : Option Int32 :=
  (fX10_isOne a1).bind fun x1 =>
  if x1 = (0 : Int32) then (some (-1000000001 : Int32)) else ((zix a1 4).bind fun j3 =>
  if (M0.1 7 j3) = (0 : Int32) then (some (-1000000006 : Int32)) else (some (0 : Int32)))
abbrev rX10_wrongSheet : Room := { frames := 2, cells := 0, slots := 0, locals := 45 }
theorem arX10_wrongSheet : zAr yX10_wrongSheet RX10 1 := ⟨rfl, by decide, by decide, by decide +kernel⟩
set_option maxHeartbeats 4000000 in
theorem kX10_wrongSheet (l : Launch) {w : zWd} (hw : zIsM w) {M0 : zM} {a1 : Int32} {r : Int32} (h : fX10_wrongSheet M0 a1 = some r) : Met l yX10_wrongSheet (Cond.code yX10_wrongSheet cX10_wrongSheet 2 (some .int) :: zU) rX10_wrongSheet (zPre w M0 [.ref (za w 0), .int a1]) (zR (some (.int r))) 0 0 zNo := by
  refine z_metN (own := RX10) (lv := [(0, .ref (za w 0)), (1, .int a1)]) hw.1 (by decide) (Nat.le_of_ble_eq_true rfl) rfl rfl ?_
  intro p e s m args below meth c G hr hlk hH ls hl
  unfold fX10_wrongSheet at h
  refine lv_iload_n G.x G.b dX10_wrongSheet_0 rfl (lv_at hl 1 rfl) ?_
  obtain ⟨x1, ex1, h⟩ := z_bind h
  refine z_rdI (z_runS (As := [.int a1]) (rest := []) G hH hl.1 (kX10_isOne l hw.1 ex1) arX10_isOne u1195 u1196 u11 u1197 rfl rfl rfl (Nat.le_of_ble_eq_true rfl) (Nat.le_of_ble_eq_true rfl) rfl (Nat.le_of_ble_eq_true rfl) dX10_wrongSheet_1) ?_
  refine lv_if_ne (tgt := 12) G.x G.b dX10_wrongSheet_4 (by decide) (fun c2 => ?_) (fun c2 => ?_)
  · have h := z_ifn c2 h
    refine lv_aload_n G.x G.b dX10_wrongSheet_12 rfl (lv_at hl 0 rfl) ?_
    refine z_get (v := .ref (za w 7)) (k := 0) G hH.1 (mM0 hw) vc10 inU10 12 (by decide) u779 rfl dX10_wrongSheet_13 ?_
    refine lv_iload_n G.x G.b dX10_wrongSheet_16 rfl (lv_at hl 1 rfl) ?_
    obtain ⟨j3, ej3, h⟩ := z_bind h
    refine z_iald (k := 7) G hH.1 (mM7 hw) ej3 dX10_wrongSheet_17 ?_
    refine lv_if_ne (tgt := 27) G.x G.b dX10_wrongSheet_18 (by decide) (fun c4 => ?_) (fun c4 => ?_)
    · have h := z_ifn c4 h
      refine lv_iconst (v := (0 : Int32)) G.x G.b dX10_wrongSheet_27 (by decide) ?_
      exact z_rtI G hr hlk h dX10_wrongSheet_28
    · have h := z_if c4 h
      refine lv_ldcw G.x G.b G.o (G.t u1207) dX10_wrongSheet_21 ?_
      refine lv_goto (tgt := 28) G.x G.b dX10_wrongSheet_24 (by decide) ?_
      exact z_rtI G hr hlk h dX10_wrongSheet_28
  · have h := z_if c2 h
    refine lv_ldc G.x G.b G.o (G.t u833) dX10_wrongSheet_7 ?_
    refine lv_goto (tgt := 28) G.x G.b dX10_wrongSheet_9 (by decide) ?_
    exact z_rtI G hr hlk h dX10_wrongSheet_28
def fX10_write (M0 : zM) (a1 : Int32) (a2 : Int32) (a3 : Int64) : Option (Int64 × zM) :=
  (fX10_wrongSheet M0 a1).bind fun x1 =>
  if x1 = (0 : Int32) then ((zix a1 4).bind fun j3 =>
  (fX10_in a2.toInt64 (0 : Int64) (((M0.1 8 j3) - (1 : Int32)).toInt64)).bind fun x4 =>
  if x4 = (0 : Int32) then (zb2 (fX10_finds M0 (-1000000001 : Int32)) fun x12 M13 =>
  some (x12.toInt64, M13)) else ((zix (((40 : Int32) * a1) + a2) 160).bind fun j6 =>
  (some (M0.2 9 j6)).bind fun y7 =>
  (zix a1 4).bind fun j8 =>
  (fX10_narrowed (M0.1 7 j8) a3).bind fun y9 =>
  (zix (((40 : Int32) * a1) + a2) 160).bind fun j10 =>
  (some (zstL M0 9 j10 y9)).bind fun M11 =>
  some (y7, M11))) else (zb2 (fX10_finds M0 x1) fun x14 M15 =>
  some (x14.toInt64, M15))
abbrev rX10_write : Room := { frames := 3, cells := 0, slots := 0, locals := 66 }
theorem arX10_write : zAr yX10_write RX10 3 := ⟨rfl, by decide, by decide, by decide +kernel⟩
set_option maxHeartbeats 4000000 in
theorem kX10_write (l : Launch) {w : zWd} (hw : zIsM w) {M0 M' : zM} {a1 : Int32} {a2 : Int32} {a3 : Int64} {r : Int64} (h : fX10_write M0 a1 a2 a3 = some (r, M')) : Met l yX10_write (Cond.code yX10_write cX10_write 8 (some .long) :: zU) rX10_write (zPre w M0 [.ref (za w 0), .int a1, .int a2, .long a3]) (zQ w (some (.long r)) M') 0 0 (zA w) := by
  refine z_metN (own := RX10) (lv := [(0, .ref (za w 0)), (1, .int a1), (2, .int a2), (3, .long a3)]) hw.1 (by decide) (Nat.le_of_ble_eq_true rfl) rfl rfl ?_
  intro p e s m args below meth c G hr hlk hH ls hl
  unfold fX10_write at h
  refine lv_aload_n G.x G.b dX10_write_0 rfl (lv_at hl 0 rfl) ?_
  refine lv_iload_n G.x G.b dX10_write_1 rfl (lv_at hl 1 rfl) ?_
  obtain ⟨x1, ex1, h⟩ := z_bind h
  refine z_rdI (z_runV (k := 0) (As := [.int a1]) (rest := []) G hH hl.1 (kX10_wrongSheet l hw ex1) (mM0 hw) vc10 arX10_wrongSheet u1203 u1205 us61 u11 u1206 rfl rfl rfl (Nat.le_of_ble_eq_true rfl) (Nat.le_of_ble_eq_true rfl) rfl (Nat.le_of_ble_eq_true rfl) dX10_write_2) ?_
  refine lv_istore (lv' := [(5, .int x1), (0, .ref (za w 0)), (1, .int a1), (2, .int a2), (3, .long a3)]) G.x G.b dX10_write_5 hl (Nat.le_of_ble_eq_true rfl) rfl (fun ls hl => ?_)
  refine lv_iload G.x G.b dX10_write_7 (lv_at hl 0 rfl) ?_
  refine lv_if_eq (tgt := 20) G.x G.b dX10_write_9 (by decide) (fun c2 => ?_) (fun c2 => ?_)
  · have h := z_if c2 h
    refine lv_iload_n G.x G.b dX10_write_20 rfl (lv_at hl 3 rfl) ?_
    refine lv_i2l (v := a2.toInt64) G.x G.b dX10_write_21 rfl ?_
    refine lv_lconst (v := (0 : Int64)) G.x G.b dX10_write_22 (by decide) ?_
    refine lv_aload_n G.x G.b dX10_write_23 rfl (lv_at hl 1 rfl) ?_
    refine z_get (v := .ref (za w 8)) (k := 0) G hH.1 (mM0 hw) vc10 inU10 13 (by decide) u780 rfl dX10_write_24 ?_
    refine lv_iload_n G.x G.b dX10_write_27 rfl (lv_at hl 2 rfl) ?_
    obtain ⟨j3, ej3, h⟩ := z_bind h
    refine z_iald (k := 8) G hH.1 (mM8 hw) ej3 dX10_write_28 ?_
    refine lv_iconst (v := (1 : Int32)) G.x G.b dX10_write_29 (by decide) ?_
    refine lv_isub G.x G.b dX10_write_30 ?_
    refine lv_i2l (v := ((M0.1 8 j3) - (1 : Int32)).toInt64) G.x G.b dX10_write_31 rfl ?_
    obtain ⟨x4, ex4, h⟩ := z_bind h
    refine z_rdI (z_runS (As := [.long a2.toInt64, .long (0 : Int64), .long (((M0.1 8 j3) - (1 : Int32)).toInt64)]) (rest := []) G hH hl.1 (kX10_in l hw.1 ex4) arX10_in u824 u825 u11 u826 rfl rfl rfl (Nat.le_of_ble_eq_true rfl) (Nat.le_of_ble_eq_true rfl) rfl (Nat.le_of_ble_eq_true rfl) dX10_write_32) ?_
    refine lv_if_ne (tgt := 46) G.x G.b dX10_write_35 (by decide) (fun c5 => ?_) (fun c5 => ?_)
    · have h := z_ifn c5 h
      refine lv_aload_n G.x G.b dX10_write_46 rfl (lv_at hl 1 rfl) ?_
      refine z_get (v := .ref (za w 9)) (k := 0) G hH.1 (mM0 hw) vc10 inU10 14 (by decide) u781 rfl dX10_write_47 ?_
      refine lv_bipush (v := (40 : Int32)) G.x G.b dX10_write_50 (by decide) ?_
      refine lv_iload_n G.x G.b dX10_write_52 rfl (lv_at hl 2 rfl) ?_
      refine lv_imul G.x G.b dX10_write_53 ?_
      refine lv_iload_n G.x G.b dX10_write_54 rfl (lv_at hl 3 rfl) ?_
      refine lv_iadd G.x G.b dX10_write_55 ?_
      obtain ⟨j6, ej6, h⟩ := z_bind h
      refine z_lald (k := 9) G hH.1 (mM9 hw) ej6 dX10_write_56 ?_
      obtain ⟨y7, ey7, h⟩ := z_let h
      refine z_nmL ey7 ?_
      refine lv_lstore (lv' := [(6, .long y7), (5, .int x1), (0, .ref (za w 0)), (1, .int a1), (2, .int a2), (3, .long a3)]) G.x G.b dX10_write_57 hl (Nat.le_of_ble_eq_true rfl) rfl (fun ls hl => ?_)
      refine lv_aload_n G.x G.b dX10_write_59 rfl (lv_at hl 2 rfl) ?_
      refine z_get (v := .ref (za w 9)) (k := 0) G hH.1 (mM0 hw) vc10 inU10 14 (by decide) u781 rfl dX10_write_60 ?_
      refine lv_bipush (v := (40 : Int32)) G.x G.b dX10_write_63 (by decide) ?_
      refine lv_iload_n G.x G.b dX10_write_65 rfl (lv_at hl 3 rfl) ?_
      refine lv_imul G.x G.b dX10_write_66 ?_
      refine lv_iload_n G.x G.b dX10_write_67 rfl (lv_at hl 4 rfl) ?_
      refine lv_iadd G.x G.b dX10_write_68 ?_
      refine lv_aload_n G.x G.b dX10_write_69 rfl (lv_at hl 2 rfl) ?_
      refine z_get (v := .ref (za w 7)) (k := 0) G hH.1 (mM0 hw) vc10 inU10 12 (by decide) u779 rfl dX10_write_70 ?_
      refine lv_iload_n G.x G.b dX10_write_73 rfl (lv_at hl 3 rfl) ?_
      obtain ⟨j8, ej8, h⟩ := z_bind h
      refine z_iald (k := 7) G hH.1 (mM7 hw) ej8 dX10_write_74 ?_
      refine lv_lload_n G.x G.b dX10_write_75 rfl (lv_at hl 5 rfl) ?_
      obtain ⟨y9, ey9, h⟩ := z_bind h
      refine z_rdL (z_runS (As := [.int (M0.1 7 j8), .long a3]) (rest := [.int (((40 : Int32) * a1) + a2), .ref (za w 9)]) G hH hl.1 (kX10_narrowed l hw.1 ey9) arX10_narrowed u1208 u1209 u11 u1210 rfl rfl rfl (Nat.le_of_ble_eq_true rfl) (Nat.le_of_ble_eq_true rfl) rfl (Nat.le_of_ble_eq_true rfl) dX10_write_76) ?_
      obtain ⟨j10, ej10, h⟩ := z_bind h
      obtain ⟨M11, eM11, h⟩ := z_let h
      refine z_lastN (k := 9) G hH (mM9 hw) ej10 dX10_write_79 eM11 (fun H locs hH => ?_)
      refine lv_lload G.x G.b dX10_write_80 (lv_at hl 0 rfl) ?_
      exact z_retL G hr hlk hH h dX10_write_82
    · have h := z_if c5 h
      refine lv_aload_n G.x G.b dX10_write_38 rfl (lv_at hl 1 rfl) ?_
      refine lv_ldc G.x G.b G.o (G.t u833) dX10_write_39 ?_
      obtain ⟨x12, M13, eM13, h⟩ := z_b2 h
      refine z_aftI (z_runV (k := 0) (As := [.int (-1000000001 : Int32)]) (rest := []) G hH hl.1 (kX10_finds l hw eM13) (mM0 hw) vc10 arX10_finds u834 u836 us16 u11 u837 rfl rfl rfl (Nat.le_of_ble_eq_true rfl) (Nat.le_of_ble_eq_true rfl) rfl (Nat.le_of_ble_eq_true rfl) dX10_write_41) hH (fun H locs hH => ?_)
      refine lv_i2l (v := x12.toInt64) G.x G.b dX10_write_44 rfl ?_
      exact z_retL G hr hlk hH h dX10_write_45
  · have h := z_ifn c2 h
    refine lv_aload_n G.x G.b dX10_write_12 rfl (lv_at hl 1 rfl) ?_
    refine lv_iload G.x G.b dX10_write_13 (lv_at hl 0 rfl) ?_
    obtain ⟨x14, M15, eM15, h⟩ := z_b2 h
    refine z_aftI (z_runV (k := 0) (As := [.int x1]) (rest := []) G hH hl.1 (kX10_finds l hw eM15) (mM0 hw) vc10 arX10_finds u834 u836 us16 u11 u837 rfl rfl rfl (Nat.le_of_ble_eq_true rfl) (Nat.le_of_ble_eq_true rfl) rfl (Nat.le_of_ble_eq_true rfl) dX10_write_15) hH (fun H locs hH => ?_)
    refine lv_i2l (v := x14.toInt64) G.x G.b dX10_write_18 rfl ?_
    exact z_retL G hr hlk hH h dX10_write_19
def bX10_copy_157 (a3 : Int32) (a4 : Int32) (a5 : Int32) (E192_34 : zM → Option (Int32 × zM)) (rc37 : zM → Int32 → Option (Int32 × zM)) (M35 : zM) (x36 : Int32) : Option (Int32 × zM) :=
  if a5 ≤ x36 then (E192_34 M35) else ((zix x36 40).bind fun j39 =>
  (zix ((((40 : Int32) * a3) + a4) + x36) 160).bind fun j40 =>
  (some (zstL M35 9 j40 (M35.2 10 j39))).bind fun M41 =>
  (some (x36 + (1 : Int32))).bind fun x42 =>
  rc37 M41 x42)
def lX10_copy_157 (a3 : Int32) (a4 : Int32) (a5 : Int32) (E192_34 : zM → Option (Int32 × zM)) : Nat → zM → Int32 → Option (Int32 × zM) := zL2 (bX10_copy_157 a3 a4 a5 E192_34)
def bX10_copy_120 (a1 : Int32) (a2 : Int32) (a5 : Int32) (E154_32 : zM → Option (Int32 × zM)) (rc45 : zM → Int32 → Option (Int32 × zM)) (M43 : zM) (x44 : Int32) : Option (Int32 × zM) :=
  if a5 ≤ x44 then (E154_32 M43) else ((zix ((((40 : Int32) * a1) + a2) + x44) 160).bind fun j47 =>
  (zix x44 40).bind fun j48 =>
  (some (zstL M43 10 j48 (M43.2 9 j47))).bind fun M49 =>
  (some (x44 + (1 : Int32))).bind fun x50 =>
  rc45 M49 x50)
def lX10_copy_120 (a1 : Int32) (a2 : Int32) (a5 : Int32) (E154_32 : zM → Option (Int32 × zM)) : Nat → zM → Int32 → Option (Int32 × zM) := zL2 (bX10_copy_120 a1 a2 a5 E154_32)
def fX10_copy (M0 : zM) (a1 : Int32) (a2 : Int32) (a3 : Int32) (a4 : Int32) (a5 : Int32) : Option (Int32 × zM) :=
  (fX10_isOne a1).bind fun x1 =>
  if x1 = (0 : Int32) then (zb2 (fX10_finds M0 (-1000000001 : Int32)) fun x3 M4 =>
  some (x3, M4)) else ((fX10_isOne a3).bind fun x5 =>
  if x5 = (0 : Int32) then (zb2 (fX10_finds M0 (-1000000001 : Int32)) fun x57 M58 =>
  some (x57, M58)) else ((zix a1 4).bind fun j7 =>
  if (M0.1 7 j7) = (0 : Int32) then (zb2 (fX10_finds M0 (-1000000006 : Int32)) fun x9 M10 =>
  some (x9, M10)) else ((zix a3 4).bind fun j11 =>
  if (M0.1 7 j11) = (0 : Int32) then (zb2 (fX10_finds M0 (-1000000006 : Int32)) fun x55 M56 =>
  some (x55, M56)) else ((zix a1 4).bind fun j13 =>
  (zix a3 4).bind fun j14 =>
  if (M0.1 7 j13) = (M0.1 7 j14) then (if a2 < (0 : Int32) then (zb2 (fX10_finds M0 (-1000000001 : Int32)) fun x17 M18 =>
  some (x17, M18)) else (if a4 < (0 : Int32) then (zb2 (fX10_finds M0 (-1000000001 : Int32)) fun x20 M21 =>
  some (x20, M21)) else (if a5 < (0 : Int32) then (zb2 (fX10_finds M0 (-1000000001 : Int32)) fun x23 M24 =>
  some (x23, M24)) else ((zix a1 4).bind fun j25 =>
  if ((M0.1 8 j25) - a2) < a5 then (zb2 (fX10_finds M0 (-1000000001 : Int32)) fun x27 M28 =>
  some (x27, M28)) else ((zix a3 4).bind fun j29 =>
  if a5 ≤ ((M0.1 8 j29) - a4) then (zj (fun (M31 : zM) =>
  zj (fun (M33 : zM) =>
  some (a5, M33)) fun E192_34 =>
  lX10_copy_157 a3 a4 a5 E192_34 zFuel M31 (0 : Int32)) fun E154_32 =>
  lX10_copy_120 a1 a2 a5 E154_32 zFuel M0 (0 : Int32)) else (zb2 (fX10_finds M0 (-1000000001 : Int32)) fun x51 M52 =>
  some (x51, M52))))))) else (zb2 (fX10_finds M0 (-1000000003 : Int32)) fun x53 M54 =>
  some (x53, M54))))))
abbrev rX10_copy : Room := { frames := 2, cells := 0, slots := 0, locals := 45 }
theorem arX10_copy : zAr yX10_copy RX10 5 := ⟨rfl, by decide, by decide, by decide +kernel⟩
set_option maxHeartbeats 4000000 in
theorem kX10_copy (l : Launch) {w : zWd} (hw : zIsM w) {M0 M' : zM} {a1 : Int32} {a2 : Int32} {a3 : Int32} {a4 : Int32} {a5 : Int32} {r : Int32} (h : fX10_copy M0 a1 a2 a3 a4 a5 = some (r, M')) : Met l yX10_copy (Cond.code yX10_copy cX10_copy 7 (some .int) :: zU) rX10_copy (zPre w M0 [.ref (za w 0), .int a1, .int a2, .int a3, .int a4, .int a5]) (zQ w (some (.int r)) M') 0 0 (zA w) := by
  refine z_metN (own := RX10) (lv := [(0, .ref (za w 0)), (1, .int a1), (2, .int a2), (3, .int a3), (4, .int a4), (5, .int a5)]) hw.1 (by decide) (Nat.le_of_ble_eq_true rfl) rfl rfl ?_
  intro p e s m args below meth c G hr hlk hH ls hl
  unfold fX10_copy at h
  refine lv_iload_n G.x G.b dX10_copy_0 rfl (lv_at hl 1 rfl) ?_
  obtain ⟨x1, ex1, h⟩ := z_bind h
  refine z_rdI (z_runS (As := [.int a1]) (rest := []) G hH hl.1 (kX10_isOne l hw.1 ex1) arX10_isOne u1195 u1196 u11 u1197 rfl rfl rfl (Nat.le_of_ble_eq_true rfl) (Nat.le_of_ble_eq_true rfl) rfl (Nat.le_of_ble_eq_true rfl) dX10_copy_1) ?_
  refine lv_if_eq (tgt := 14) G.x G.b dX10_copy_4 (by decide) (fun c2 => ?_) (fun c2 => ?_)
  · have h := z_if c2 h
    refine lv_aload_n G.x G.b dX10_copy_14 rfl (lv_at hl 0 rfl) ?_
    refine lv_ldc G.x G.b G.o (G.t u833) dX10_copy_15 ?_
    obtain ⟨x3, M4, eM4, h⟩ := z_b2 h
    refine z_aftI (z_runV (k := 0) (As := [.int (-1000000001 : Int32)]) (rest := []) G hH hl.1 (kX10_finds l hw eM4) (mM0 hw) vc10 arX10_finds u834 u836 us16 u11 u837 rfl rfl rfl (Nat.le_of_ble_eq_true rfl) (Nat.le_of_ble_eq_true rfl) rfl (Nat.le_of_ble_eq_true rfl) dX10_copy_17) hH (fun H locs hH => ?_)
    exact z_retI G hr hlk hH h dX10_copy_20
  · have h := z_ifn c2 h
    refine lv_iload_n G.x G.b dX10_copy_7 rfl (lv_at hl 3 rfl) ?_
    obtain ⟨x5, ex5, h⟩ := z_bind h
    refine z_rdI (z_runS (As := [.int a3]) (rest := []) G hH hl.1 (kX10_isOne l hw.1 ex5) arX10_isOne u1195 u1196 u11 u1197 rfl rfl rfl (Nat.le_of_ble_eq_true rfl) (Nat.le_of_ble_eq_true rfl) rfl (Nat.le_of_ble_eq_true rfl) dX10_copy_8) ?_
    refine lv_if_ne (tgt := 21) G.x G.b dX10_copy_11 (by decide) (fun c6 => ?_) (fun c6 => ?_)
    · have h := z_ifn c6 h
      refine lv_aload_n G.x G.b dX10_copy_21 rfl (lv_at hl 0 rfl) ?_
      refine z_get (v := .ref (za w 7)) (k := 0) G hH.1 (mM0 hw) vc10 inU10 12 (by decide) u779 rfl dX10_copy_22 ?_
      refine lv_iload_n G.x G.b dX10_copy_25 rfl (lv_at hl 1 rfl) ?_
      obtain ⟨j7, ej7, h⟩ := z_bind h
      refine z_iald (k := 7) G hH.1 (mM7 hw) ej7 dX10_copy_26 ?_
      refine lv_if_eq (tgt := 39) G.x G.b dX10_copy_27 (by decide) (fun c8 => ?_) (fun c8 => ?_)
      · have h := z_if c8 h
        refine lv_aload_n G.x G.b dX10_copy_39 rfl (lv_at hl 0 rfl) ?_
        refine lv_ldcw G.x G.b G.o (G.t u1207) dX10_copy_40 ?_
        obtain ⟨x9, M10, eM10, h⟩ := z_b2 h
        refine z_aftI (z_runV (k := 0) (As := [.int (-1000000006 : Int32)]) (rest := []) G hH hl.1 (kX10_finds l hw eM10) (mM0 hw) vc10 arX10_finds u834 u836 us16 u11 u837 rfl rfl rfl (Nat.le_of_ble_eq_true rfl) (Nat.le_of_ble_eq_true rfl) rfl (Nat.le_of_ble_eq_true rfl) dX10_copy_43) hH (fun H locs hH => ?_)
        exact z_retI G hr hlk hH h dX10_copy_46
      · have h := z_ifn c8 h
        refine lv_aload_n G.x G.b dX10_copy_30 rfl (lv_at hl 0 rfl) ?_
        refine z_get (v := .ref (za w 7)) (k := 0) G hH.1 (mM0 hw) vc10 inU10 12 (by decide) u779 rfl dX10_copy_31 ?_
        refine lv_iload_n G.x G.b dX10_copy_34 rfl (lv_at hl 3 rfl) ?_
        obtain ⟨j11, ej11, h⟩ := z_bind h
        refine z_iald (k := 7) G hH.1 (mM7 hw) ej11 dX10_copy_35 ?_
        refine lv_if_ne (tgt := 47) G.x G.b dX10_copy_36 (by decide) (fun c12 => ?_) (fun c12 => ?_)
        · have h := z_ifn c12 h
          refine lv_aload_n G.x G.b dX10_copy_47 rfl (lv_at hl 0 rfl) ?_
          refine z_get (v := .ref (za w 7)) (k := 0) G hH.1 (mM0 hw) vc10 inU10 12 (by decide) u779 rfl dX10_copy_48 ?_
          refine lv_iload_n G.x G.b dX10_copy_51 rfl (lv_at hl 1 rfl) ?_
          obtain ⟨j13, ej13, h⟩ := z_bind h
          refine z_iald (k := 7) G hH.1 (mM7 hw) ej13 dX10_copy_52 ?_
          refine lv_aload_n G.x G.b dX10_copy_53 rfl (lv_at hl 0 rfl) ?_
          refine z_get (v := .ref (za w 7)) (k := 0) G hH.1 (mM0 hw) vc10 inU10 12 (by decide) u779 rfl dX10_copy_54 ?_
          refine lv_iload_n G.x G.b dX10_copy_57 rfl (lv_at hl 3 rfl) ?_
          obtain ⟨j14, ej14, h⟩ := z_bind h
          refine z_iald (k := 7) G hH.1 (mM7 hw) ej14 dX10_copy_58 ?_
          refine lv_icmp_eq (tgt := 69) G.x G.b dX10_copy_59 (by decide) (fun c15 => ?_) (fun c15 => ?_)
          · have h := z_if c15 h
            refine lv_iload_n G.x G.b dX10_copy_69 rfl (lv_at hl 2 rfl) ?_
            refine lv_if_lt (tgt := 110) G.x G.b dX10_copy_70 (by decide) (fun c16 => ?_) (fun c16 => ?_)
            · have h := z_if c16 h
              refine lv_aload_n G.x G.b dX10_copy_110 rfl (lv_at hl 0 rfl) ?_
              refine lv_ldc G.x G.b G.o (G.t u833) dX10_copy_111 ?_
              obtain ⟨x17, M18, eM18, h⟩ := z_b2 h
              refine z_aftI (z_runV (k := 0) (As := [.int (-1000000001 : Int32)]) (rest := []) G hH hl.1 (kX10_finds l hw eM18) (mM0 hw) vc10 arX10_finds u834 u836 us16 u11 u837 rfl rfl rfl (Nat.le_of_ble_eq_true rfl) (Nat.le_of_ble_eq_true rfl) rfl (Nat.le_of_ble_eq_true rfl) dX10_copy_113) hH (fun H locs hH => ?_)
              exact z_retI G hr hlk hH h dX10_copy_116
            · have h := z_ifn c16 h
              refine lv_iload G.x G.b dX10_copy_73 (lv_at hl 4 rfl) ?_
              refine lv_if_lt (tgt := 110) G.x G.b dX10_copy_75 (by decide) (fun c19 => ?_) (fun c19 => ?_)
              · have h := z_if c19 h
                refine lv_aload_n G.x G.b dX10_copy_110 rfl (lv_at hl 0 rfl) ?_
                refine lv_ldc G.x G.b G.o (G.t u833) dX10_copy_111 ?_
                obtain ⟨x20, M21, eM21, h⟩ := z_b2 h
                refine z_aftI (z_runV (k := 0) (As := [.int (-1000000001 : Int32)]) (rest := []) G hH hl.1 (kX10_finds l hw eM21) (mM0 hw) vc10 arX10_finds u834 u836 us16 u11 u837 rfl rfl rfl (Nat.le_of_ble_eq_true rfl) (Nat.le_of_ble_eq_true rfl) rfl (Nat.le_of_ble_eq_true rfl) dX10_copy_113) hH (fun H locs hH => ?_)
                exact z_retI G hr hlk hH h dX10_copy_116
              · have h := z_ifn c19 h
                refine lv_iload G.x G.b dX10_copy_78 (lv_at hl 5 rfl) ?_
                refine lv_if_lt (tgt := 110) G.x G.b dX10_copy_80 (by decide) (fun c22 => ?_) (fun c22 => ?_)
                · have h := z_if c22 h
                  refine lv_aload_n G.x G.b dX10_copy_110 rfl (lv_at hl 0 rfl) ?_
                  refine lv_ldc G.x G.b G.o (G.t u833) dX10_copy_111 ?_
                  obtain ⟨x23, M24, eM24, h⟩ := z_b2 h
                  refine z_aftI (z_runV (k := 0) (As := [.int (-1000000001 : Int32)]) (rest := []) G hH hl.1 (kX10_finds l hw eM24) (mM0 hw) vc10 arX10_finds u834 u836 us16 u11 u837 rfl rfl rfl (Nat.le_of_ble_eq_true rfl) (Nat.le_of_ble_eq_true rfl) rfl (Nat.le_of_ble_eq_true rfl) dX10_copy_113) hH (fun H locs hH => ?_)
                  exact z_retI G hr hlk hH h dX10_copy_116
                · have h := z_ifn c22 h
                  refine lv_iload G.x G.b dX10_copy_83 (lv_at hl 5 rfl) ?_
                  refine lv_aload_n G.x G.b dX10_copy_85 rfl (lv_at hl 0 rfl) ?_
                  refine z_get (v := .ref (za w 8)) (k := 0) G hH.1 (mM0 hw) vc10 inU10 13 (by decide) u780 rfl dX10_copy_86 ?_
                  refine lv_iload_n G.x G.b dX10_copy_89 rfl (lv_at hl 1 rfl) ?_
                  obtain ⟨j25, ej25, h⟩ := z_bind h
                  refine z_iald (k := 8) G hH.1 (mM8 hw) ej25 dX10_copy_90 ?_
                  refine lv_iload_n G.x G.b dX10_copy_91 rfl (lv_at hl 2 rfl) ?_
                  refine lv_isub G.x G.b dX10_copy_92 ?_
                  refine lv_icmp_gt (tgt := 110) G.x G.b dX10_copy_93 (by decide) (fun c26 => ?_) (fun c26 => ?_)
                  · have h := z_if c26 h
                    refine lv_aload_n G.x G.b dX10_copy_110 rfl (lv_at hl 0 rfl) ?_
                    refine lv_ldc G.x G.b G.o (G.t u833) dX10_copy_111 ?_
                    obtain ⟨x27, M28, eM28, h⟩ := z_b2 h
                    refine z_aftI (z_runV (k := 0) (As := [.int (-1000000001 : Int32)]) (rest := []) G hH hl.1 (kX10_finds l hw eM28) (mM0 hw) vc10 arX10_finds u834 u836 us16 u11 u837 rfl rfl rfl (Nat.le_of_ble_eq_true rfl) (Nat.le_of_ble_eq_true rfl) rfl (Nat.le_of_ble_eq_true rfl) dX10_copy_113) hH (fun H locs hH => ?_)
                    exact z_retI G hr hlk hH h dX10_copy_116
                  · have h := z_ifn c26 h
                    refine lv_iload G.x G.b dX10_copy_96 (lv_at hl 5 rfl) ?_
                    refine lv_aload_n G.x G.b dX10_copy_98 rfl (lv_at hl 0 rfl) ?_
                    refine z_get (v := .ref (za w 8)) (k := 0) G hH.1 (mM0 hw) vc10 inU10 13 (by decide) u780 rfl dX10_copy_99 ?_
                    refine lv_iload_n G.x G.b dX10_copy_102 rfl (lv_at hl 3 rfl) ?_
                    obtain ⟨j29, ej29, h⟩ := z_bind h
                    refine z_iald (k := 8) G hH.1 (mM8 hw) ej29 dX10_copy_103 ?_
                    refine lv_iload G.x G.b dX10_copy_104 (lv_at hl 4 rfl) ?_
                    refine lv_isub G.x G.b dX10_copy_106 ?_
                    refine lv_icmp_le (tgt := 117) G.x G.b dX10_copy_107 (by decide) (fun c30 => ?_) (fun c30 => ?_)
                    · have h := z_if c30 h
                      refine lv_iconst (v := (0 : Int32)) G.x G.b dX10_copy_117 (by decide) ?_
                      refine lv_istore (lv' := [(6, .int (0 : Int32)), (0, .ref (za w 0)), (1, .int a1), (2, .int a2), (3, .int a3), (4, .int a4), (5, .int a5)]) G.x G.b dX10_copy_118 hl (Nat.le_of_ble_eq_true rfl) rfl (fun ls hl => ?_)
                      obtain ⟨E154_32, hE154_32, h⟩ := z_j h
                      have kE154_32 : ∀ (M31 : zM) (H : Heap) (locs : List Loc) (ls : Array Slot), E154_32 M31 = some (r, M') → zH w s M31 H locs → lv_has ls 7 [(0, .ref (za w 0)), (3, .int a3), (4, .int a4), (5, .int a5)] → zGo p l e rX10_copy s m args below meth c (zQ w (some (.int r)) M') (zA w) H locs (F0 m 154 ls []) := by
                        intro M31 H locs ls h hH hl
                        rw [hE154_32] at h
                        refine lv_iconst (v := (0 : Int32)) G.x G.b dX10_copy_154 (by decide) ?_
                        refine lv_istore (lv' := [(6, .int (0 : Int32)), (0, .ref (za w 0)), (3, .int a3), (4, .int a4), (5, .int a5)]) G.x G.b dX10_copy_155 hl (Nat.le_of_ble_eq_true rfl) rfl (fun ls hl => ?_)
                        obtain ⟨E192_34, hE192_34, h⟩ := z_j h
                        have kE192_34 : ∀ (M33 : zM) (H : Heap) (locs : List Loc) (ls : Array Slot), E192_34 M33 = some (r, M') → zH w s M33 H locs → lv_has ls 7 [(5, .int a5)] → zGo p l e rX10_copy s m args below meth c (zQ w (some (.int r)) M') (zA w) H locs (F0 m 192 ls []) := by
                          intro M33 H locs ls h hH hl
                          rw [hE192_34] at h
                          refine lv_iload G.x G.b dX10_copy_192 (lv_at hl 0 rfl) ?_
                          exact z_retI G hr hlk hH h dX10_copy_194
                        have n37 : ∀ (n : Nat) (M35 : zM) (x36 : Int32) (H : Heap) (locs : List Loc) (ls : Array Slot), zL2 (bX10_copy_157 a3 a4 a5 E192_34) n M35 x36 = some (r, M') → zH w s M35 H locs → lv_has ls 7 [(0, .ref (za w 0)), (3, .int a3), (4, .int a4), (5, .int a5), (6, .int x36)] → zGo p l e rX10_copy s m args below meth c (zQ w (some (.int r)) M') (zA w) H locs (F0 m 157 ls []) := by
                          intro n
                          induction n with
                          | zero => intro M35 x36 H locs ls h; exact (zL2_0 h).elim
                          | succ n ih37 =>
                            intro M35 x36 H locs ls h hH hl
                            obtain ⟨rc37, hrc37, h⟩ := zL2_s h
                            rw [← hrc37] at ih37
                            unfold bX10_copy_157 at h
                            refine lv_iload G.x G.b dX10_copy_157 (lv_at hl 4 rfl) ?_
                            refine lv_iload G.x G.b dX10_copy_159 (lv_at hl 3 rfl) ?_
                            refine lv_icmp_ge (tgt := 192) G.x G.b dX10_copy_161 (by decide) (fun c38 => ?_) (fun c38 => ?_)
                            · have h := z_if c38 h
                              exact kE192_34 M35 H locs ls h hH (lv_sub hl [3] rfl)
                            · have h := z_ifn c38 h
                              refine lv_aload_n G.x G.b dX10_copy_164 rfl (lv_at hl 0 rfl) ?_
                              refine z_get (v := .ref (za w 9)) (k := 0) G hH.1 (mM0 hw) vc10 inU10 14 (by decide) u781 rfl dX10_copy_165 ?_
                              refine lv_bipush (v := (40 : Int32)) G.x G.b dX10_copy_168 (by decide) ?_
                              refine lv_iload_n G.x G.b dX10_copy_170 rfl (lv_at hl 1 rfl) ?_
                              refine lv_imul G.x G.b dX10_copy_171 ?_
                              refine lv_iload G.x G.b dX10_copy_172 (lv_at hl 2 rfl) ?_
                              refine lv_iadd G.x G.b dX10_copy_174 ?_
                              refine lv_iload G.x G.b dX10_copy_175 (lv_at hl 4 rfl) ?_
                              refine lv_iadd G.x G.b dX10_copy_177 ?_
                              refine lv_aload_n G.x G.b dX10_copy_178 rfl (lv_at hl 0 rfl) ?_
                              refine z_get (v := .ref (za w 10)) (k := 0) G hH.1 (mM0 hw) vc10 inU10 15 (by decide) u782 rfl dX10_copy_179 ?_
                              refine lv_iload G.x G.b dX10_copy_182 (lv_at hl 4 rfl) ?_
                              obtain ⟨j39, ej39, h⟩ := z_bind h
                              refine z_lald (k := 10) G hH.1 (mM10 hw) ej39 dX10_copy_184 ?_
                              obtain ⟨j40, ej40, h⟩ := z_bind h
                              obtain ⟨M41, eM41, h⟩ := z_let h
                              refine z_lastN (k := 9) G hH (mM9 hw) ej40 dX10_copy_185 eM41 (fun H locs hH => ?_)
                              obtain ⟨x42, ex42, h⟩ := z_let h
                              refine lv_iinc (v := x42) (lv' := [(6, .int x42), (0, .ref (za w 0)), (3, .int a3), (4, .int a4), (5, .int a5)]) G.x G.b dX10_copy_186 hl (k := 4) rfl (by rw [ex42]; rfl) (Nat.le_of_ble_eq_true rfl) rfl (fun ls hl => ?_)
                              refine lv_goto (tgt := 157) G.x G.b dX10_copy_189 (by decide) ?_
                              exact ih37 M41 x42 H locs ls h hH (lv_sub hl [1, 2, 3, 4, 0] rfl)
                        exact n37 zFuel M31 (0 : Int32) H locs ls h hH (lv_sub hl [1, 2, 3, 4, 0] rfl)
                      have n45 : ∀ (n : Nat) (M43 : zM) (x44 : Int32) (H : Heap) (locs : List Loc) (ls : Array Slot), zL2 (bX10_copy_120 a1 a2 a5 E154_32) n M43 x44 = some (r, M') → zH w s M43 H locs → lv_has ls 7 [(0, .ref (za w 0)), (1, .int a1), (2, .int a2), (3, .int a3), (4, .int a4), (5, .int a5), (6, .int x44)] → zGo p l e rX10_copy s m args below meth c (zQ w (some (.int r)) M') (zA w) H locs (F0 m 120 ls []) := by
                        intro n
                        induction n with
                        | zero => intro M43 x44 H locs ls h; exact (zL2_0 h).elim
                        | succ n ih45 =>
                          intro M43 x44 H locs ls h hH hl
                          obtain ⟨rc45, hrc45, h⟩ := zL2_s h
                          rw [← hrc45] at ih45
                          unfold bX10_copy_120 at h
                          refine lv_iload G.x G.b dX10_copy_120 (lv_at hl 6 rfl) ?_
                          refine lv_iload G.x G.b dX10_copy_122 (lv_at hl 5 rfl) ?_
                          refine lv_icmp_ge (tgt := 154) G.x G.b dX10_copy_124 (by decide) (fun c46 => ?_) (fun c46 => ?_)
                          · have h := z_if c46 h
                            exact kE154_32 M43 H locs ls h hH (lv_sub hl [0, 3, 4, 5] rfl)
                          · have h := z_ifn c46 h
                            refine lv_aload_n G.x G.b dX10_copy_127 rfl (lv_at hl 0 rfl) ?_
                            refine z_get (v := .ref (za w 10)) (k := 0) G hH.1 (mM0 hw) vc10 inU10 15 (by decide) u782 rfl dX10_copy_128 ?_
                            refine lv_iload G.x G.b dX10_copy_131 (lv_at hl 6 rfl) ?_
                            refine lv_aload_n G.x G.b dX10_copy_133 rfl (lv_at hl 0 rfl) ?_
                            refine z_get (v := .ref (za w 9)) (k := 0) G hH.1 (mM0 hw) vc10 inU10 14 (by decide) u781 rfl dX10_copy_134 ?_
                            refine lv_bipush (v := (40 : Int32)) G.x G.b dX10_copy_137 (by decide) ?_
                            refine lv_iload_n G.x G.b dX10_copy_139 rfl (lv_at hl 1 rfl) ?_
                            refine lv_imul G.x G.b dX10_copy_140 ?_
                            refine lv_iload_n G.x G.b dX10_copy_141 rfl (lv_at hl 2 rfl) ?_
                            refine lv_iadd G.x G.b dX10_copy_142 ?_
                            refine lv_iload G.x G.b dX10_copy_143 (lv_at hl 6 rfl) ?_
                            refine lv_iadd G.x G.b dX10_copy_145 ?_
                            obtain ⟨j47, ej47, h⟩ := z_bind h
                            refine z_lald (k := 9) G hH.1 (mM9 hw) ej47 dX10_copy_146 ?_
                            obtain ⟨j48, ej48, h⟩ := z_bind h
                            obtain ⟨M49, eM49, h⟩ := z_let h
                            refine z_lastN (k := 10) G hH (mM10 hw) ej48 dX10_copy_147 eM49 (fun H locs hH => ?_)
                            obtain ⟨x50, ex50, h⟩ := z_let h
                            refine lv_iinc (v := x50) (lv' := [(6, .int x50), (0, .ref (za w 0)), (1, .int a1), (2, .int a2), (3, .int a3), (4, .int a4), (5, .int a5)]) G.x G.b dX10_copy_148 hl (k := 6) rfl (by rw [ex50]; rfl) (Nat.le_of_ble_eq_true rfl) rfl (fun ls hl => ?_)
                            refine lv_goto (tgt := 120) G.x G.b dX10_copy_151 (by decide) ?_
                            exact ih45 M49 x50 H locs ls h hH (lv_sub hl [1, 2, 3, 4, 5, 6, 0] rfl)
                      exact n45 zFuel M0 (0 : Int32) s.heap [] ls h hH (lv_sub hl [1, 2, 3, 4, 5, 6, 0] rfl)
                    · have h := z_ifn c30 h
                      refine lv_aload_n G.x G.b dX10_copy_110 rfl (lv_at hl 0 rfl) ?_
                      refine lv_ldc G.x G.b G.o (G.t u833) dX10_copy_111 ?_
                      obtain ⟨x51, M52, eM52, h⟩ := z_b2 h
                      refine z_aftI (z_runV (k := 0) (As := [.int (-1000000001 : Int32)]) (rest := []) G hH hl.1 (kX10_finds l hw eM52) (mM0 hw) vc10 arX10_finds u834 u836 us16 u11 u837 rfl rfl rfl (Nat.le_of_ble_eq_true rfl) (Nat.le_of_ble_eq_true rfl) rfl (Nat.le_of_ble_eq_true rfl) dX10_copy_113) hH (fun H locs hH => ?_)
                      exact z_retI G hr hlk hH h dX10_copy_116
          · have h := z_ifn c15 h
            refine lv_aload_n G.x G.b dX10_copy_62 rfl (lv_at hl 0 rfl) ?_
            refine lv_ldc G.x G.b G.o (G.t u950) dX10_copy_63 ?_
            obtain ⟨x53, M54, eM54, h⟩ := z_b2 h
            refine z_aftI (z_runV (k := 0) (As := [.int (-1000000003 : Int32)]) (rest := []) G hH hl.1 (kX10_finds l hw eM54) (mM0 hw) vc10 arX10_finds u834 u836 us16 u11 u837 rfl rfl rfl (Nat.le_of_ble_eq_true rfl) (Nat.le_of_ble_eq_true rfl) rfl (Nat.le_of_ble_eq_true rfl) dX10_copy_65) hH (fun H locs hH => ?_)
            exact z_retI G hr hlk hH h dX10_copy_68
        · have h := z_if c12 h
          refine lv_aload_n G.x G.b dX10_copy_39 rfl (lv_at hl 0 rfl) ?_
          refine lv_ldcw G.x G.b G.o (G.t u1207) dX10_copy_40 ?_
          obtain ⟨x55, M56, eM56, h⟩ := z_b2 h
          refine z_aftI (z_runV (k := 0) (As := [.int (-1000000006 : Int32)]) (rest := []) G hH hl.1 (kX10_finds l hw eM56) (mM0 hw) vc10 arX10_finds u834 u836 us16 u11 u837 rfl rfl rfl (Nat.le_of_ble_eq_true rfl) (Nat.le_of_ble_eq_true rfl) rfl (Nat.le_of_ble_eq_true rfl) dX10_copy_43) hH (fun H locs hH => ?_)
          exact z_retI G hr hlk hH h dX10_copy_46
    · have h := z_if c6 h
      refine lv_aload_n G.x G.b dX10_copy_14 rfl (lv_at hl 0 rfl) ?_
      refine lv_ldc G.x G.b G.o (G.t u833) dX10_copy_15 ?_
      obtain ⟨x57, M58, eM58, h⟩ := z_b2 h
      refine z_aftI (z_runV (k := 0) (As := [.int (-1000000001 : Int32)]) (rest := []) G hH hl.1 (kX10_finds l hw eM58) (mM0 hw) vc10 arX10_finds u834 u836 us16 u11 u837 rfl rfl rfl (Nat.le_of_ble_eq_true rfl) (Nat.le_of_ble_eq_true rfl) rfl (Nat.le_of_ble_eq_true rfl) dX10_copy_17) hH (fun H locs hH => ?_)
      exact z_retI G hr hlk hH h dX10_copy_20
def bX10_lays_21 (a1 : Int32) (E122_5 : zM → Int32 → Option (Int32 × zM)) (rc9 : zM → Int32 → Int32 → Option (Int32 × zM)) (M6 : zM) (x7 : Int32) (x8 : Int32) : Option (Int32 × zM) :=
  (zix a1 4).bind fun j10 =>
  if (M6.1 8 j10) ≤ x8 then (E122_5 M6 x7) else (if (M6.1 1 2) ≤ x8 then (E122_5 M6 x7) else ((zix (((40 : Int32) * a1) + x8) 160).bind fun j13 =>
  (fX10_in (M6.2 9 j13) (0 : Int64) (9999 : Int64)).bind fun x14 =>
  (fX10_wearerSpot x8 (0 : Int32)).bind fun x15 =>
  zj (fun (x16 : Int32) =>
  (zix x15 59).bind fun j18 =>
  (some (zst M6 1 j18 x16)).bind fun M19 =>
  zj (fun (x20 : Int32) =>
  (some (x7 + x20)).bind fun x22 =>
  (some (x8 + (1 : Int32))).bind fun x23 =>
  rc9 M19 x22 x23) fun J114_21 =>
  if x14 = (0 : Int32) then (J114_21 (0 : Int32)) else (J114_21 (1 : Int32))) fun J102_17 =>
  if x14 = (0 : Int32) then ((fX10_theirs M6 x8 (0 : Int32)).bind fun x26 =>
  J102_17 x26) else ((zix (((40 : Int32) * a1) + x8) 160).bind fun j27 =>
  J102_17 ((M6.2 9 j27).toInt32))))
def lX10_lays_21 (a1 : Int32) (E122_5 : zM → Int32 → Option (Int32 × zM)) : Nat → zM → Int32 → Int32 → Option (Int32 × zM) := zL3 (bX10_lays_21 a1 E122_5)
def fX10_lays (M0 : zM) (a1 : Int32) : Option (Int32 × zM) :=
  (fX10_wrongSheet M0 a1).bind fun x1 =>
  if x1 = (0 : Int32) then (zj (fun (M3 : zM) (x4 : Int32) =>
  some (x4, M3)) fun E122_5 =>
  lX10_lays_21 a1 E122_5 zFuel M0 (0 : Int32) (0 : Int32)) else (zb2 (fX10_finds M0 x1) fun x28 M29 =>
  some (x28, M29))
abbrev rX10_lays : Room := { frames := 3, cells := 0, slots := 0, locals := 66 }
theorem arX10_lays : zAr yX10_lays RX10 1 := ⟨rfl, by decide, by decide, by decide +kernel⟩
set_option maxHeartbeats 4000000 in
theorem kX10_lays (l : Launch) {w : zWd} (hw : zIsM w) {M0 M' : zM} {a1 : Int32} {r : Int32} (h : fX10_lays M0 a1 = some (r, M')) : Met l yX10_lays (Cond.code yX10_lays cX10_lays 6 (some .int) :: zU) rX10_lays (zPre w M0 [.ref (za w 0), .int a1]) (zQ w (some (.int r)) M') 0 0 (zA w) := by
  refine z_metN (own := RX10) (lv := [(0, .ref (za w 0)), (1, .int a1)]) hw.1 (by decide) (Nat.le_of_ble_eq_true rfl) rfl rfl ?_
  intro p e s m args below meth c G hr hlk hH ls hl
  unfold fX10_lays at h
  refine lv_aload_n G.x G.b dX10_lays_0 rfl (lv_at hl 0 rfl) ?_
  refine lv_iload_n G.x G.b dX10_lays_1 rfl (lv_at hl 1 rfl) ?_
  obtain ⟨x1, ex1, h⟩ := z_bind h
  refine z_rdI (z_runV (k := 0) (As := [.int a1]) (rest := []) G hH hl.1 (kX10_wrongSheet l hw ex1) (mM0 hw) vc10 arX10_wrongSheet u1203 u1205 us61 u11 u1206 rfl rfl rfl (Nat.le_of_ble_eq_true rfl) (Nat.le_of_ble_eq_true rfl) rfl (Nat.le_of_ble_eq_true rfl) dX10_lays_2) ?_
  refine lv_istore_n (lv' := [(2, .int x1), (0, .ref (za w 0)), (1, .int a1)]) G.x G.b dX10_lays_5 rfl hl (Nat.le_of_ble_eq_true rfl) rfl (fun ls hl => ?_)
  refine lv_iload_n G.x G.b dX10_lays_6 rfl (lv_at hl 0 rfl) ?_
  refine lv_if_eq (tgt := 16) G.x G.b dX10_lays_7 (by decide) (fun c2 => ?_) (fun c2 => ?_)
  · have h := z_if c2 h
    refine lv_iconst (v := (0 : Int32)) G.x G.b dX10_lays_16 (by decide) ?_
    refine lv_istore_n (lv' := [(3, .int (0 : Int32)), (2, .int x1), (0, .ref (za w 0)), (1, .int a1)]) G.x G.b dX10_lays_17 rfl hl (Nat.le_of_ble_eq_true rfl) rfl (fun ls hl => ?_)
    refine lv_iconst (v := (0 : Int32)) G.x G.b dX10_lays_18 (by decide) ?_
    refine lv_istore (lv' := [(4, .int (0 : Int32)), (3, .int (0 : Int32)), (2, .int x1), (0, .ref (za w 0)), (1, .int a1)]) G.x G.b dX10_lays_19 hl (Nat.le_of_ble_eq_true rfl) rfl (fun ls hl => ?_)
    obtain ⟨E122_5, hE122_5, h⟩ := z_j h
    have kE122_5 : ∀ (M3 : zM) (x4 : Int32) (H : Heap) (locs : List Loc) (ls : Array Slot), E122_5 M3 x4 = some (r, M') → zH w s M3 H locs → lv_has ls 6 [(3, .int x4)] → zGo p l e rX10_lays s m args below meth c (zQ w (some (.int r)) M') (zA w) H locs (F0 m 122 ls []) := by
      intro M3 x4 H locs ls h hH hl
      rw [hE122_5] at h
      refine lv_iload_n G.x G.b dX10_lays_122 rfl (lv_at hl 0 rfl) ?_
      exact z_retI G hr hlk hH h dX10_lays_123
    have n9 : ∀ (n : Nat) (M6 : zM) (x7 : Int32) (x8 : Int32) (H : Heap) (locs : List Loc) (ls : Array Slot), zL3 (bX10_lays_21 a1 E122_5) n M6 x7 x8 = some (r, M') → zH w s M6 H locs → lv_has ls 6 [(0, .ref (za w 0)), (1, .int a1), (3, .int x7), (4, .int x8)] → zGo p l e rX10_lays s m args below meth c (zQ w (some (.int r)) M') (zA w) H locs (F0 m 21 ls []) := by
      intro n
      induction n with
      | zero => intro M6 x7 x8 H locs ls h; exact (zL3_0 h).elim
      | succ n ih9 =>
        intro M6 x7 x8 H locs ls h hH hl
        obtain ⟨rc9, hrc9, h⟩ := zL3_s h
        rw [← hrc9] at ih9
        unfold bX10_lays_21 at h
        refine lv_iload G.x G.b dX10_lays_21 (lv_at hl 3 rfl) ?_
        refine lv_aload_n G.x G.b dX10_lays_23 rfl (lv_at hl 0 rfl) ?_
        refine z_get (v := .ref (za w 8)) (k := 0) G hH.1 (mM0 hw) vc10 inU10 13 (by decide) u780 rfl dX10_lays_24 ?_
        refine lv_iload_n G.x G.b dX10_lays_27 rfl (lv_at hl 1 rfl) ?_
        obtain ⟨j10, ej10, h⟩ := z_bind h
        refine z_iald (k := 8) G hH.1 (mM8 hw) ej10 dX10_lays_28 ?_
        refine lv_icmp_ge (tgt := 122) G.x G.b dX10_lays_29 (by decide) (fun c11 => ?_) (fun c11 => ?_)
        · have h := z_if c11 h
          exact kE122_5 M6 x7 H locs ls h hH (lv_sub hl [2] rfl)
        · have h := z_ifn c11 h
          refine lv_iload G.x G.b dX10_lays_32 (lv_at hl 3 rfl) ?_
          refine lv_aload_n G.x G.b dX10_lays_34 rfl (lv_at hl 0 rfl) ?_
          refine z_get (v := .ref (za w 1)) (k := 0) G hH.1 (mM0 hw) vc10 inU10 0 (by decide) u767 rfl dX10_lays_35 ?_
          refine lv_iconst (v := (2 : Int32)) G.x G.b dX10_lays_38 (by decide) ?_
          refine z_iald (k := 1) G hH.1 (mM1 hw) (by decide : zix (2 : Int32) 59 = some 2) dX10_lays_39 ?_
          refine lv_icmp_ge (tgt := 122) G.x G.b dX10_lays_40 (by decide) (fun c12 => ?_) (fun c12 => ?_)
          · have h := z_if c12 h
            exact kE122_5 M6 x7 H locs ls h hH (lv_sub hl [2] rfl)
          · have h := z_ifn c12 h
            refine lv_aload_n G.x G.b dX10_lays_43 rfl (lv_at hl 0 rfl) ?_
            refine z_get (v := .ref (za w 9)) (k := 0) G hH.1 (mM0 hw) vc10 inU10 14 (by decide) u781 rfl dX10_lays_44 ?_
            refine lv_bipush (v := (40 : Int32)) G.x G.b dX10_lays_47 (by decide) ?_
            refine lv_iload_n G.x G.b dX10_lays_49 rfl (lv_at hl 1 rfl) ?_
            refine lv_imul G.x G.b dX10_lays_50 ?_
            refine lv_iload G.x G.b dX10_lays_51 (lv_at hl 3 rfl) ?_
            refine lv_iadd G.x G.b dX10_lays_53 ?_
            obtain ⟨j13, ej13, h⟩ := z_bind h
            refine z_lald (k := 9) G hH.1 (mM9 hw) ej13 dX10_lays_54 ?_
            refine lv_lconst (v := (0 : Int64)) G.x G.b dX10_lays_55 (by decide) ?_
            refine lv_ldc2 G.x G.b G.o (G.t u955) dX10_lays_56 ?_
            obtain ⟨x14, ex14, h⟩ := z_bind h
            refine z_rdI (z_runS (As := [.long (M6.2 9 j13), .long (0 : Int64), .long (9999 : Int64)]) (rest := []) G hH hl.1 (kX10_in l hw.1 ex14) arX10_in u824 u825 u11 u826 rfl rfl rfl (Nat.le_of_ble_eq_true rfl) (Nat.le_of_ble_eq_true rfl) rfl (Nat.le_of_ble_eq_true rfl) dX10_lays_59) ?_
            refine lv_istore (lv' := [(5, .int x14), (0, .ref (za w 0)), (1, .int a1), (3, .int x7), (4, .int x8)]) G.x G.b dX10_lays_62 hl (Nat.le_of_ble_eq_true rfl) rfl (fun ls hl => ?_)
            refine lv_aload_n G.x G.b dX10_lays_64 rfl (lv_at hl 1 rfl) ?_
            refine z_get (v := .ref (za w 1)) (k := 0) G hH.1 (mM0 hw) vc10 inU10 0 (by decide) u767 rfl dX10_lays_65 ?_
            refine lv_iload G.x G.b dX10_lays_68 (lv_at hl 4 rfl) ?_
            refine lv_iconst (v := (0 : Int32)) G.x G.b dX10_lays_70 (by decide) ?_
            obtain ⟨x15, ex15, h⟩ := z_bind h
            refine z_rdI (z_runS (As := [.int x8, .int (0 : Int32)]) (rest := [.ref (za w 1)]) G hH hl.1 (kX10_wearerSpot l hw.1 ex15) arX10_wearerSpot u867 u868 u11 u869 rfl rfl rfl (Nat.le_of_ble_eq_true rfl) (Nat.le_of_ble_eq_true rfl) rfl (Nat.le_of_ble_eq_true rfl) dX10_lays_71) ?_
            refine lv_iload G.x G.b dX10_lays_74 (lv_at hl 0 rfl) ?_
            obtain ⟨J102_17, hJ102_17, h⟩ := z_j h
            have kJ102_17 : ∀ (x16 : Int32) (ls : Array Slot), J102_17 x16 = some (r, M') → lv_has ls 6 [(0, .ref (za w 0)), (1, .int a1), (3, .int x7), (4, .int x8), (5, .int x14)] → zGo p l e rX10_lays s m args below meth c (zQ w (some (.int r)) M') (zA w) H locs (F0 m 102 ls [.int x16, .int x15, .ref (za w 1)]) := by
              intro x16 ls h hl
              rw [hJ102_17] at h
              obtain ⟨j18, ej18, h⟩ := z_bind h
              obtain ⟨M19, eM19, h⟩ := z_let h
              refine z_iastN (k := 1) G hH (mM1 hw) ej18 dX10_lays_102 eM19 (fun H locs hH => ?_)
              refine lv_iload_n G.x G.b dX10_lays_103 rfl (lv_at hl 2 rfl) ?_
              refine lv_iload G.x G.b dX10_lays_104 (lv_at hl 4 rfl) ?_
              obtain ⟨J114_21, hJ114_21, h⟩ := z_j h
              have kJ114_21 : ∀ (x20 : Int32) (ls : Array Slot), J114_21 x20 = some (r, M') → lv_has ls 6 [(0, .ref (za w 0)), (1, .int a1), (4, .int x8)] → zGo p l e rX10_lays s m args below meth c (zQ w (some (.int r)) M') (zA w) H locs (F0 m 114 ls [.int x20, .int x7]) := by
                intro x20 ls h hl
                rw [hJ114_21] at h
                refine lv_iadd G.x G.b dX10_lays_114 ?_
                obtain ⟨x22, ex22, h⟩ := z_let h
                refine z_nmI ex22 ?_
                refine lv_istore_n (lv' := [(3, .int x22), (0, .ref (za w 0)), (1, .int a1), (4, .int x8)]) G.x G.b dX10_lays_115 rfl hl (Nat.le_of_ble_eq_true rfl) rfl (fun ls hl => ?_)
                obtain ⟨x23, ex23, h⟩ := z_let h
                refine lv_iinc (v := x23) (lv' := [(4, .int x23), (3, .int x22), (0, .ref (za w 0)), (1, .int a1)]) G.x G.b dX10_lays_116 hl (k := 3) rfl (by rw [ex23]; rfl) (Nat.le_of_ble_eq_true rfl) rfl (fun ls hl => ?_)
                refine lv_goto (tgt := 21) G.x G.b dX10_lays_119 (by decide) ?_
                exact ih9 M19 x22 x23 H locs ls h hH (lv_sub hl [2, 3, 1, 0] rfl)
              refine lv_if_eq (tgt := 113) G.x G.b dX10_lays_106 (by decide) (fun c24 => ?_) (fun c24 => ?_)
              · have h := z_if c24 h
                refine lv_iconst (v := (0 : Int32)) G.x G.b dX10_lays_113 (by decide) ?_
                exact kJ114_21 (0 : Int32) ls h (lv_sub hl [0, 1, 3] rfl)
              · have h := z_ifn c24 h
                refine lv_iconst (v := (1 : Int32)) G.x G.b dX10_lays_109 (by decide) ?_
                refine lv_goto (tgt := 114) G.x G.b dX10_lays_110 (by decide) ?_
                exact kJ114_21 (1 : Int32) ls h (lv_sub hl [0, 1, 3] rfl)
            refine lv_if_eq (tgt := 95) G.x G.b dX10_lays_76 (by decide) (fun c25 => ?_) (fun c25 => ?_)
            · have h := z_if c25 h
              refine lv_aload_n G.x G.b dX10_lays_95 rfl (lv_at hl 1 rfl) ?_
              refine lv_iload G.x G.b dX10_lays_96 (lv_at hl 4 rfl) ?_
              refine lv_iconst (v := (0 : Int32)) G.x G.b dX10_lays_98 (by decide) ?_
              obtain ⟨x26, ex26, h⟩ := z_bind h
              refine z_rdI (z_runV (k := 0) (As := [.int x8, .int (0 : Int32)]) (rest := [.int x15, .ref (za w 1)]) G hH hl.1 (kX10_theirs l hw ex26) (mM0 hw) vc10 arX10_theirs u863 u865 us21 u11 u866 rfl rfl rfl (Nat.le_of_ble_eq_true rfl) (Nat.le_of_ble_eq_true rfl) rfl (Nat.le_of_ble_eq_true rfl) dX10_lays_99) ?_
              exact kJ102_17 x26 ls h (lv_sub hl [1, 2, 3, 4, 0] rfl)
            · have h := z_ifn c25 h
              refine lv_aload_n G.x G.b dX10_lays_79 rfl (lv_at hl 1 rfl) ?_
              refine z_get (v := .ref (za w 9)) (k := 0) G hH.1 (mM0 hw) vc10 inU10 14 (by decide) u781 rfl dX10_lays_80 ?_
              refine lv_bipush (v := (40 : Int32)) G.x G.b dX10_lays_83 (by decide) ?_
              refine lv_iload_n G.x G.b dX10_lays_85 rfl (lv_at hl 2 rfl) ?_
              refine lv_imul G.x G.b dX10_lays_86 ?_
              refine lv_iload G.x G.b dX10_lays_87 (lv_at hl 4 rfl) ?_
              refine lv_iadd G.x G.b dX10_lays_89 ?_
              obtain ⟨j27, ej27, h⟩ := z_bind h
              refine z_lald (k := 9) G hH.1 (mM9 hw) ej27 dX10_lays_90 ?_
              refine lv_l2i (v := (M6.2 9 j27).toInt32) G.x G.b dX10_lays_91 rfl ?_
              refine lv_goto (tgt := 102) G.x G.b dX10_lays_92 (by decide) ?_
              exact kJ102_17 ((M6.2 9 j27).toInt32) ls h (lv_sub hl [1, 2, 3, 4, 0] rfl)
    exact n9 zFuel M0 (0 : Int32) (0 : Int32) s.heap [] ls h hH (lv_sub hl [3, 4, 1, 0] rfl)
  · have h := z_ifn c2 h
    refine lv_aload_n G.x G.b dX10_lays_10 rfl (lv_at hl 1 rfl) ?_
    refine lv_iload_n G.x G.b dX10_lays_11 rfl (lv_at hl 0 rfl) ?_
    obtain ⟨x28, M29, eM29, h⟩ := z_b2 h
    refine z_aftI (z_runV (k := 0) (As := [.int x1]) (rest := []) G hH hl.1 (kX10_finds l hw eM29) (mM0 hw) vc10 arX10_finds u834 u836 us16 u11 u837 rfl rfl rfl (Nat.le_of_ble_eq_true rfl) (Nat.le_of_ble_eq_true rfl) rfl (Nat.le_of_ble_eq_true rfl) dX10_lays_12) hH (fun H locs hH => ?_)
    exact z_retI G hr hlk hH h dX10_lays_15
def bX10_book_38 (a1 : Int32) (a2 : Int32) (E87_7 : zM → Option (Int32 × zM)) (rc13 : zM → Int32 → Option (Int32 × zM)) (M11 : zM) (x12 : Int32) : Option (Int32 × zM) :=
  (zix a1 4).bind fun j14 =>
  if (M11.1 8 j14) ≤ x12 then (E87_7 M11) else ((zix a1 4).bind fun j16 =>
  (fX10_theirs M11 a2 (0 : Int32)).bind fun x17 =>
  (fX10_narrowed (M11.1 7 j16) x17.toInt64).bind fun y18 =>
  (zix (((40 : Int32) * a1) + x12) 160).bind fun j19 =>
  (some (zstL M11 9 j19 y18)).bind fun M20 =>
  (fX10_night M20).bind fun M21 =>
  (some (x12 + (1 : Int32))).bind fun x22 =>
  rc13 M21 x22)
def lX10_book_38 (a1 : Int32) (a2 : Int32) (E87_7 : zM → Option (Int32 × zM)) : Nat → zM → Int32 → Option (Int32 × zM) := zL2 (bX10_book_38 a1 a2 E87_7)
def fX10_book (M0 : zM) (a1 : Int32) (a2 : Int32) : Option (Int32 × zM) :=
  (fX10_wrongSheet M0 a1).bind fun x1 =>
  if x1 = (0 : Int32) then ((fX10_isWearer M0 a2).bind fun x3 =>
  if x3 = (0 : Int32) then (zb2 (fX10_finds M0 (-1000000001 : Int32)) fun x23 M24 =>
  some (x23, M24)) else ((fX10_laysAside M0).bind fun M5 =>
  zj (fun (M6 : zM) =>
  (zix a1 4).bind fun j8 =>
  zb2 (fX10_takesBack M6 (M6.1 8 j8)) fun x9 M10 =>
  some (x9, M10)) fun E87_7 =>
  lX10_book_38 a1 a2 E87_7 zFuel M5 (0 : Int32))) else (zb2 (fX10_finds M0 x1) fun x25 M26 =>
  some (x25, M26))
abbrev rX10_book : Room := { frames := 6, cells := 0, slots := 0, locals := 140 }
theorem arX10_book : zAr yX10_book RX10 2 := ⟨rfl, by decide, by decide, by decide +kernel⟩
set_option maxHeartbeats 4000000 in
theorem kX10_book (l : Launch) {w : zWd} (hw : zIsM w) {M0 M' : zM} {a1 : Int32} {a2 : Int32} {r : Int32} (h : fX10_book M0 a1 a2 = some (r, M')) : Met l yX10_book (Cond.code yX10_book cX10_book 5 (some .int) :: zU) rX10_book (zPre w M0 [.ref (za w 0), .int a1, .int a2]) (zQ w (some (.int r)) M') 0 0 (zA w) := by
  refine z_metN (own := RX10) (lv := [(0, .ref (za w 0)), (1, .int a1), (2, .int a2)]) hw.1 (by decide) (Nat.le_of_ble_eq_true rfl) rfl rfl ?_
  intro p e s m args below meth c G hr hlk hH ls hl
  unfold fX10_book at h
  refine lv_aload_n G.x G.b dX10_book_0 rfl (lv_at hl 0 rfl) ?_
  refine lv_iload_n G.x G.b dX10_book_1 rfl (lv_at hl 1 rfl) ?_
  obtain ⟨x1, ex1, h⟩ := z_bind h
  refine z_rdI (z_runV (k := 0) (As := [.int a1]) (rest := []) G hH hl.1 (kX10_wrongSheet l hw ex1) (mM0 hw) vc10 arX10_wrongSheet u1203 u1205 us61 u11 u1206 rfl rfl rfl (Nat.le_of_ble_eq_true rfl) (Nat.le_of_ble_eq_true rfl) rfl (Nat.le_of_ble_eq_true rfl) dX10_book_2) ?_
  refine lv_istore_n (lv' := [(3, .int x1), (0, .ref (za w 0)), (1, .int a1), (2, .int a2)]) G.x G.b dX10_book_5 rfl hl (Nat.le_of_ble_eq_true rfl) rfl (fun ls hl => ?_)
  refine lv_iload_n G.x G.b dX10_book_6 rfl (lv_at hl 0 rfl) ?_
  refine lv_if_eq (tgt := 16) G.x G.b dX10_book_7 (by decide) (fun c2 => ?_) (fun c2 => ?_)
  · have h := z_if c2 h
    refine lv_aload_n G.x G.b dX10_book_16 rfl (lv_at hl 1 rfl) ?_
    refine lv_iload_n G.x G.b dX10_book_17 rfl (lv_at hl 3 rfl) ?_
    obtain ⟨x3, ex3, h⟩ := z_bind h
    refine z_rdI (z_runV (k := 0) (As := [.int a2]) (rest := []) G hH hl.1 (kX10_isWearer l hw ex3) (mM0 hw) vc10 arX10_isWearer u964 u966 us33 u11 u967 rfl rfl rfl (Nat.le_of_ble_eq_true rfl) (Nat.le_of_ble_eq_true rfl) rfl (Nat.le_of_ble_eq_true rfl) dX10_book_18) ?_
    refine lv_if_ne (tgt := 31) G.x G.b dX10_book_21 (by decide) (fun c4 => ?_) (fun c4 => ?_)
    · have h := z_ifn c4 h
      refine lv_aload_n G.x G.b dX10_book_31 rfl (lv_at hl 1 rfl) ?_
      obtain ⟨M5, eM5, h⟩ := z_bind h
      refine z_aftV (z_runV (k := 0) (As := []) (rest := []) G hH hl.1 (kX10_laysAside l hw eM5) (mM0 hw) vc10 arX10_laysAside u1023 u1025 us40 u11 u1026 rfl rfl rfl (Nat.le_of_ble_eq_true rfl) (Nat.le_of_ble_eq_true rfl) rfl (Nat.le_of_ble_eq_true rfl) dX10_book_32) hH (fun H locs hH => ?_)
      refine lv_iconst (v := (0 : Int32)) G.x G.b dX10_book_35 (by decide) ?_
      refine lv_istore (lv' := [(4, .int (0 : Int32)), (3, .int x1), (0, .ref (za w 0)), (1, .int a1), (2, .int a2)]) G.x G.b dX10_book_36 hl (Nat.le_of_ble_eq_true rfl) rfl (fun ls hl => ?_)
      obtain ⟨E87_7, hE87_7, h⟩ := z_j h
      have kE87_7 : ∀ (M6 : zM) (H : Heap) (locs : List Loc) (ls : Array Slot), E87_7 M6 = some (r, M') → zH w s M6 H locs → lv_has ls 5 [(0, .ref (za w 0)), (1, .int a1)] → zGo p l e rX10_book s m args below meth c (zQ w (some (.int r)) M') (zA w) H locs (F0 m 87 ls []) := by
        intro M6 H locs ls h hH hl
        rw [hE87_7] at h
        refine lv_aload_n G.x G.b dX10_book_87 rfl (lv_at hl 0 rfl) ?_
        refine lv_aload_n G.x G.b dX10_book_88 rfl (lv_at hl 0 rfl) ?_
        refine z_get (v := .ref (za w 8)) (k := 0) G hH.1 (mM0 hw) vc10 inU10 13 (by decide) u780 rfl dX10_book_89 ?_
        refine lv_iload_n G.x G.b dX10_book_92 rfl (lv_at hl 1 rfl) ?_
        obtain ⟨j8, ej8, h⟩ := z_bind h
        refine z_iald (k := 8) G hH.1 (mM8 hw) ej8 dX10_book_93 ?_
        obtain ⟨x9, M10, eM10, h⟩ := z_b2 h
        refine z_aftI (z_runV (k := 0) (As := [.int (M6.1 8 j8)]) (rest := []) G hH hl.1 (kX10_takesBack l hw eM10) (mM0 hw) vc10 arX10_takesBack u1027 u1029 us41 u11 u1030 rfl rfl rfl (Nat.le_of_ble_eq_true rfl) (Nat.le_of_ble_eq_true rfl) rfl (Nat.le_of_ble_eq_true rfl) dX10_book_94) hH (fun H locs hH => ?_)
        exact z_retI G hr hlk hH h dX10_book_97
      have n13 : ∀ (n : Nat) (M11 : zM) (x12 : Int32) (H : Heap) (locs : List Loc) (ls : Array Slot), zL2 (bX10_book_38 a1 a2 E87_7) n M11 x12 = some (r, M') → zH w s M11 H locs → lv_has ls 5 [(0, .ref (za w 0)), (1, .int a1), (2, .int a2), (4, .int x12)] → zGo p l e rX10_book s m args below meth c (zQ w (some (.int r)) M') (zA w) H locs (F0 m 38 ls []) := by
        intro n
        induction n with
        | zero => intro M11 x12 H locs ls h; exact (zL2_0 h).elim
        | succ n ih13 =>
          intro M11 x12 H locs ls h hH hl
          obtain ⟨rc13, hrc13, h⟩ := zL2_s h
          rw [← hrc13] at ih13
          unfold bX10_book_38 at h
          refine lv_iload G.x G.b dX10_book_38 (lv_at hl 3 rfl) ?_
          refine lv_aload_n G.x G.b dX10_book_40 rfl (lv_at hl 0 rfl) ?_
          refine z_get (v := .ref (za w 8)) (k := 0) G hH.1 (mM0 hw) vc10 inU10 13 (by decide) u780 rfl dX10_book_41 ?_
          refine lv_iload_n G.x G.b dX10_book_44 rfl (lv_at hl 1 rfl) ?_
          obtain ⟨j14, ej14, h⟩ := z_bind h
          refine z_iald (k := 8) G hH.1 (mM8 hw) ej14 dX10_book_45 ?_
          refine lv_icmp_ge (tgt := 87) G.x G.b dX10_book_46 (by decide) (fun c15 => ?_) (fun c15 => ?_)
          · have h := z_if c15 h
            exact kE87_7 M11 H locs ls h hH (lv_sub hl [0, 1] rfl)
          · have h := z_ifn c15 h
            refine lv_aload_n G.x G.b dX10_book_49 rfl (lv_at hl 0 rfl) ?_
            refine z_get (v := .ref (za w 9)) (k := 0) G hH.1 (mM0 hw) vc10 inU10 14 (by decide) u781 rfl dX10_book_50 ?_
            refine lv_bipush (v := (40 : Int32)) G.x G.b dX10_book_53 (by decide) ?_
            refine lv_iload_n G.x G.b dX10_book_55 rfl (lv_at hl 1 rfl) ?_
            refine lv_imul G.x G.b dX10_book_56 ?_
            refine lv_iload G.x G.b dX10_book_57 (lv_at hl 3 rfl) ?_
            refine lv_iadd G.x G.b dX10_book_59 ?_
            refine lv_aload_n G.x G.b dX10_book_60 rfl (lv_at hl 0 rfl) ?_
            refine z_get (v := .ref (za w 7)) (k := 0) G hH.1 (mM0 hw) vc10 inU10 12 (by decide) u779 rfl dX10_book_61 ?_
            refine lv_iload_n G.x G.b dX10_book_64 rfl (lv_at hl 1 rfl) ?_
            obtain ⟨j16, ej16, h⟩ := z_bind h
            refine z_iald (k := 7) G hH.1 (mM7 hw) ej16 dX10_book_65 ?_
            refine lv_aload_n G.x G.b dX10_book_66 rfl (lv_at hl 0 rfl) ?_
            refine lv_iload_n G.x G.b dX10_book_67 rfl (lv_at hl 2 rfl) ?_
            refine lv_iconst (v := (0 : Int32)) G.x G.b dX10_book_68 (by decide) ?_
            obtain ⟨x17, ex17, h⟩ := z_bind h
            refine z_rdI (z_runV (k := 0) (As := [.int a2, .int (0 : Int32)]) (rest := [.int (M11.1 7 j16), .int (((40 : Int32) * a1) + x12), .ref (za w 9)]) G hH hl.1 (kX10_theirs l hw ex17) (mM0 hw) vc10 arX10_theirs u863 u865 us21 u11 u866 rfl rfl rfl (Nat.le_of_ble_eq_true rfl) (Nat.le_of_ble_eq_true rfl) rfl (Nat.le_of_ble_eq_true rfl) dX10_book_69) ?_
            refine lv_i2l (v := x17.toInt64) G.x G.b dX10_book_72 rfl ?_
            obtain ⟨y18, ey18, h⟩ := z_bind h
            refine z_rdL (z_runS (As := [.int (M11.1 7 j16), .long x17.toInt64]) (rest := [.int (((40 : Int32) * a1) + x12), .ref (za w 9)]) G hH hl.1 (kX10_narrowed l hw.1 ey18) arX10_narrowed u1208 u1209 u11 u1210 rfl rfl rfl (Nat.le_of_ble_eq_true rfl) (Nat.le_of_ble_eq_true rfl) rfl (Nat.le_of_ble_eq_true rfl) dX10_book_73) ?_
            obtain ⟨j19, ej19, h⟩ := z_bind h
            obtain ⟨M20, eM20, h⟩ := z_let h
            refine z_lastN (k := 9) G hH (mM9 hw) ej19 dX10_book_76 eM20 (fun H locs hH => ?_)
            refine lv_aload_n G.x G.b dX10_book_77 rfl (lv_at hl 0 rfl) ?_
            obtain ⟨M21, eM21, h⟩ := z_bind h
            refine z_aftV (z_runV (k := 0) (As := []) (rest := []) G hH hl.1 (kX10_night l hw eM21) (mM0 hw) vc10 arX10_night u996 u998 us36 u11 u999 rfl rfl rfl (Nat.le_of_ble_eq_true rfl) (Nat.le_of_ble_eq_true rfl) rfl (Nat.le_of_ble_eq_true rfl) dX10_book_78) hH (fun H locs hH => ?_)
            obtain ⟨x22, ex22, h⟩ := z_let h
            refine lv_iinc (v := x22) (lv' := [(4, .int x22), (0, .ref (za w 0)), (1, .int a1), (2, .int a2)]) G.x G.b dX10_book_81 hl (k := 3) rfl (by rw [ex22]; rfl) (Nat.le_of_ble_eq_true rfl) rfl (fun ls hl => ?_)
            refine lv_goto (tgt := 38) G.x G.b dX10_book_84 (by decide) ?_
            exact ih13 M21 x22 H locs ls h hH (lv_sub hl [1, 2, 3, 0] rfl)
      exact n13 zFuel M5 (0 : Int32) H locs ls h hH (lv_sub hl [2, 3, 4, 0] rfl)
    · have h := z_if c4 h
      refine lv_aload_n G.x G.b dX10_book_24 rfl (lv_at hl 1 rfl) ?_
      refine lv_ldc G.x G.b G.o (G.t u833) dX10_book_25 ?_
      obtain ⟨x23, M24, eM24, h⟩ := z_b2 h
      refine z_aftI (z_runV (k := 0) (As := [.int (-1000000001 : Int32)]) (rest := []) G hH hl.1 (kX10_finds l hw eM24) (mM0 hw) vc10 arX10_finds u834 u836 us16 u11 u837 rfl rfl rfl (Nat.le_of_ble_eq_true rfl) (Nat.le_of_ble_eq_true rfl) rfl (Nat.le_of_ble_eq_true rfl) dX10_book_27) hH (fun H locs hH => ?_)
      exact z_retI G hr hlk hH h dX10_book_30
  · have h := z_ifn c2 h
    refine lv_aload_n G.x G.b dX10_book_10 rfl (lv_at hl 1 rfl) ?_
    refine lv_iload_n G.x G.b dX10_book_11 rfl (lv_at hl 0 rfl) ?_
    obtain ⟨x25, M26, eM26, h⟩ := z_b2 h
    refine z_aftI (z_runV (k := 0) (As := [.int x1]) (rest := []) G hH hl.1 (kX10_finds l hw eM26) (mM0 hw) vc10 arX10_finds u834 u836 us16 u11 u837 rfl rfl rfl (Nat.le_of_ble_eq_true rfl) (Nat.le_of_ble_eq_true rfl) rfl (Nat.le_of_ble_eq_true rfl) dX10_book_12) hH (fun H locs hH => ?_)
    exact z_retI G hr hlk hH h dX10_book_15
def bX10_isBook_2 (a1 : Int32) (a2 : Int32) (E46_2 : zM → Option (Int32 × zM)) (rc5 : zM → Int32 → Option (Int32 × zM)) (M3 : zM) (x4 : Int32) : Option (Int32 × zM) :=
  (zix a1 4).bind fun j6 =>
  if (M3.1 8 j6) ≤ x4 then (E46_2 M3) else ((zix (((40 : Int32) * a1) + x4) 160).bind fun j8 =>
  (fX10_theirs M3 a2 (0 : Int32)).bind fun x9 =>
  if (lg_cmp (M3.2 9 j8) x9.toInt64) = (0 : Int32) then ((fX10_night M3).bind fun M11 =>
  (some (x4 + (1 : Int32))).bind fun x12 =>
  rc5 M11 x12) else ((zbl (0 : Int32)).bind (fun v => some (v, M3))))
def lX10_isBook_2 (a1 : Int32) (a2 : Int32) (E46_2 : zM → Option (Int32 × zM)) : Nat → zM → Int32 → Option (Int32 × zM) := zL2 (bX10_isBook_2 a1 a2 E46_2)
def fX10_isBook (M0 : zM) (a1 : Int32) (a2 : Int32) : Option (Int32 × zM) :=
  zj (fun (M1 : zM) =>
  (zbl (1 : Int32)).bind (fun v => some (v, M1))) fun E46_2 =>
  lX10_isBook_2 a1 a2 E46_2 zFuel M0 (0 : Int32)
abbrev rX10_isBook : Room := { frames := 6, cells := 0, slots := 0, locals := 140 }
theorem arX10_isBook : zAr yX10_isBook RX10 2 := ⟨rfl, by decide, by decide, by decide +kernel⟩
set_option maxHeartbeats 4000000 in
theorem kX10_isBook (l : Launch) {w : zWd} (hw : zIsM w) {M0 M' : zM} {a1 : Int32} {a2 : Int32} {r : Int32} (h : fX10_isBook M0 a1 a2 = some (r, M')) : Met l yX10_isBook (Cond.code yX10_isBook cX10_isBook 4 (some .boolean) :: zU) rX10_isBook (zPre w M0 [.ref (za w 0), .int a1, .int a2]) (zQ w (some (.int r)) M') 0 0 (zA w) := by
  refine z_metN (own := RX10) (lv := [(0, .ref (za w 0)), (1, .int a1), (2, .int a2)]) hw.1 (by decide) (Nat.le_of_ble_eq_true rfl) rfl rfl ?_
  intro p e s m args below meth c G hr hlk hH ls hl
  unfold fX10_isBook at h
  refine lv_iconst (v := (0 : Int32)) G.x G.b dX10_isBook_0 (by decide) ?_
  refine lv_istore_n (lv' := [(3, .int (0 : Int32)), (0, .ref (za w 0)), (1, .int a1), (2, .int a2)]) G.x G.b dX10_isBook_1 rfl hl (Nat.le_of_ble_eq_true rfl) rfl (fun ls hl => ?_)
  obtain ⟨E46_2, hE46_2, h⟩ := z_j h
  have kE46_2 : ∀ (M1 : zM) (H : Heap) (locs : List Loc) (ls : Array Slot), E46_2 M1 = some (r, M') → zH w s M1 H locs → lv_has ls 4 [] → zGo p l e rX10_isBook s m args below meth c (zQ w (some (.int r)) M') (zA w) H locs (F0 m 46 ls []) := by
    intro M1 H locs ls h hH hl
    rw [hE46_2] at h
    refine lv_iconst (v := (1 : Int32)) G.x G.b dX10_isBook_46 (by decide) ?_
    exact z_retZ G hr hlk hH h dX10_isBook_47
  have n5 : ∀ (n : Nat) (M3 : zM) (x4 : Int32) (H : Heap) (locs : List Loc) (ls : Array Slot), zL2 (bX10_isBook_2 a1 a2 E46_2) n M3 x4 = some (r, M') → zH w s M3 H locs → lv_has ls 4 [(0, .ref (za w 0)), (1, .int a1), (2, .int a2), (3, .int x4)] → zGo p l e rX10_isBook s m args below meth c (zQ w (some (.int r)) M') (zA w) H locs (F0 m 2 ls []) := by
    intro n
    induction n with
    | zero => intro M3 x4 H locs ls h; exact (zL2_0 h).elim
    | succ n ih5 =>
      intro M3 x4 H locs ls h hH hl
      obtain ⟨rc5, hrc5, h⟩ := zL2_s h
      rw [← hrc5] at ih5
      unfold bX10_isBook_2 at h
      refine lv_iload_n G.x G.b dX10_isBook_2 rfl (lv_at hl 3 rfl) ?_
      refine lv_aload_n G.x G.b dX10_isBook_3 rfl (lv_at hl 0 rfl) ?_
      refine z_get (v := .ref (za w 8)) (k := 0) G hH.1 (mM0 hw) vc10 inU10 13 (by decide) u780 rfl dX10_isBook_4 ?_
      refine lv_iload_n G.x G.b dX10_isBook_7 rfl (lv_at hl 1 rfl) ?_
      obtain ⟨j6, ej6, h⟩ := z_bind h
      refine z_iald (k := 8) G hH.1 (mM8 hw) ej6 dX10_isBook_8 ?_
      refine lv_icmp_ge (tgt := 46) G.x G.b dX10_isBook_9 (by decide) (fun c7 => ?_) (fun c7 => ?_)
      · have h := z_if c7 h
        exact kE46_2 M3 H locs ls h hH (lv_sub hl [] rfl)
      · have h := z_ifn c7 h
        refine lv_aload_n G.x G.b dX10_isBook_12 rfl (lv_at hl 0 rfl) ?_
        refine z_get (v := .ref (za w 9)) (k := 0) G hH.1 (mM0 hw) vc10 inU10 14 (by decide) u781 rfl dX10_isBook_13 ?_
        refine lv_bipush (v := (40 : Int32)) G.x G.b dX10_isBook_16 (by decide) ?_
        refine lv_iload_n G.x G.b dX10_isBook_18 rfl (lv_at hl 1 rfl) ?_
        refine lv_imul G.x G.b dX10_isBook_19 ?_
        refine lv_iload_n G.x G.b dX10_isBook_20 rfl (lv_at hl 3 rfl) ?_
        refine lv_iadd G.x G.b dX10_isBook_21 ?_
        obtain ⟨j8, ej8, h⟩ := z_bind h
        refine z_lald (k := 9) G hH.1 (mM9 hw) ej8 dX10_isBook_22 ?_
        refine lv_aload_n G.x G.b dX10_isBook_23 rfl (lv_at hl 0 rfl) ?_
        refine lv_iload_n G.x G.b dX10_isBook_24 rfl (lv_at hl 2 rfl) ?_
        refine lv_iconst (v := (0 : Int32)) G.x G.b dX10_isBook_25 (by decide) ?_
        obtain ⟨x9, ex9, h⟩ := z_bind h
        refine z_rdI (z_runV (k := 0) (As := [.int a2, .int (0 : Int32)]) (rest := [.long (M3.2 9 j8)]) G hH hl.1 (kX10_theirs l hw ex9) (mM0 hw) vc10 arX10_theirs u863 u865 us21 u11 u866 rfl rfl rfl (Nat.le_of_ble_eq_true rfl) (Nat.le_of_ble_eq_true rfl) rfl (Nat.le_of_ble_eq_true rfl) dX10_isBook_26) ?_
        refine lv_i2l (v := x9.toInt64) G.x G.b dX10_isBook_29 rfl ?_
        refine W.lcmp G.x G.b dX10_isBook_30 ?_
        refine lv_if_eq (tgt := 36) G.x G.b dX10_isBook_31 (by decide) (fun c10 => ?_) (fun c10 => ?_)
        · have h := z_if c10 h
          refine lv_aload_n G.x G.b dX10_isBook_36 rfl (lv_at hl 0 rfl) ?_
          obtain ⟨M11, eM11, h⟩ := z_bind h
          refine z_aftV (z_runV (k := 0) (As := []) (rest := []) G hH hl.1 (kX10_night l hw eM11) (mM0 hw) vc10 arX10_night u996 u998 us36 u11 u999 rfl rfl rfl (Nat.le_of_ble_eq_true rfl) (Nat.le_of_ble_eq_true rfl) rfl (Nat.le_of_ble_eq_true rfl) dX10_isBook_37) hH (fun H locs hH => ?_)
          obtain ⟨x12, ex12, h⟩ := z_let h
          refine lv_iinc (v := x12) (lv' := [(3, .int x12), (0, .ref (za w 0)), (1, .int a1), (2, .int a2)]) G.x G.b dX10_isBook_40 hl (k := 3) rfl (by rw [ex12]; rfl) (Nat.le_of_ble_eq_true rfl) rfl (fun ls hl => ?_)
          refine lv_goto (tgt := 2) G.x G.b dX10_isBook_43 (by decide) ?_
          exact ih5 M11 x12 H locs ls h hH (lv_sub hl [1, 2, 3, 0] rfl)
        · have h := z_ifn c10 h
          refine lv_iconst (v := (0 : Int32)) G.x G.b dX10_isBook_34 (by decide) ?_
          exact z_retZ G hr hlk hH h dX10_isBook_35
  exact n5 zFuel M0 (0 : Int32) s.heap [] ls h hH (lv_sub hl [1, 2, 3, 0] rfl)
def bX10_read_52 (a1 : Int32) (a2 : Int32) (a3 : Int32) (E118_12 : zM → Int32 → Option (Int32 × zM)) (rc16 : zM → Int32 → Int32 → Option (Int32 × zM)) (M13 : zM) (x14 : Int32) (x15 : Int32) : Option (Int32 × zM) :=
  if (36 : Int32) ≤ x15 then (E118_12 M13 x14) else ((fX10_beardSpot a3 (0 : Int32)).bind fun x18 =>
  (zix x18 59).bind fun j19 =>
  (some (zst M13 1 j19 (x15 / (6 : Int32)))).bind fun M20 =>
  (fX10_wearerSpot a2 (1 : Int32)).bind fun x21 =>
  (zix x21 59).bind fun j22 =>
  (some (zst M20 1 j22 (zrem x15 (6 : Int32)))).bind fun M23 =>
  zb2 (fX10_isBook M23 a1 a2) fun x24 M25 =>
  zj (fun (x26 : Int32) =>
  zb2 (fX10_takesBack M25 (x14 + x26)) fun x28 M29 =>
  (some (x15 + (1 : Int32))).bind fun x30 =>
  rc16 M29 x28 x30) fun J106_27 =>
  if x24 = (0 : Int32) then (J106_27 (0 : Int32)) else (J106_27 (1 : Int32)))
def lX10_read_52 (a1 : Int32) (a2 : Int32) (a3 : Int32) (E118_12 : zM → Int32 → Option (Int32 × zM)) : Nat → zM → Int32 → Int32 → Option (Int32 × zM) := zL3 (bX10_read_52 a1 a2 a3 E118_12)
def fX10_read (M0 : zM) (a1 : Int32) (a2 : Int32) (a3 : Int32) : Option (Int32 × zM) :=
  (fX10_wrongSheet M0 a1).bind fun x1 =>
  if x1 = (0 : Int32) then ((fX10_isWearer M0 a2).bind fun x3 =>
  if x3 = (0 : Int32) then (zb2 (fX10_finds M0 (-1000000001 : Int32)) fun x5 M6 =>
  some (x5, M6)) else ((fX10_isBeard M0 a3).bind fun x7 =>
  if x7 = (0 : Int32) then (zb2 (fX10_finds M0 (-1000000001 : Int32)) fun x32 M33 =>
  some (x32, M33)) else ((fX10_laysAside M0).bind fun M9 =>
  zj (fun (M10 : zM) (x11 : Int32) =>
  some (x11, M10)) fun E118_12 =>
  lX10_read_52 a1 a2 a3 E118_12 zFuel M9 (0 : Int32) (0 : Int32)))) else (zb2 (fX10_finds M0 x1) fun x34 M35 =>
  some (x34, M35))
abbrev rX10_read : Room := { frames := 7, cells := 0, slots := 0, locals := 163 }
theorem arX10_read : zAr yX10_read RX10 3 := ⟨rfl, by decide, by decide, by decide +kernel⟩
set_option maxHeartbeats 4000000 in
theorem kX10_read (l : Launch) {w : zWd} (hw : zIsM w) {M0 M' : zM} {a1 : Int32} {a2 : Int32} {a3 : Int32} {r : Int32} (h : fX10_read M0 a1 a2 a3 = some (r, M')) : Met l yX10_read (Cond.code yX10_read cX10_read 7 (some .int) :: zU) rX10_read (zPre w M0 [.ref (za w 0), .int a1, .int a2, .int a3]) (zQ w (some (.int r)) M') 0 0 (zA w) := by
  refine z_metN (own := RX10) (lv := [(0, .ref (za w 0)), (1, .int a1), (2, .int a2), (3, .int a3)]) hw.1 (by decide) (Nat.le_of_ble_eq_true rfl) rfl rfl ?_
  intro p e s m args below meth c G hr hlk hH ls hl
  unfold fX10_read at h
  refine lv_aload_n G.x G.b dX10_read_0 rfl (lv_at hl 0 rfl) ?_
  refine lv_iload_n G.x G.b dX10_read_1 rfl (lv_at hl 1 rfl) ?_
  obtain ⟨x1, ex1, h⟩ := z_bind h
  refine z_rdI (z_runV (k := 0) (As := [.int a1]) (rest := []) G hH hl.1 (kX10_wrongSheet l hw ex1) (mM0 hw) vc10 arX10_wrongSheet u1203 u1205 us61 u11 u1206 rfl rfl rfl (Nat.le_of_ble_eq_true rfl) (Nat.le_of_ble_eq_true rfl) rfl (Nat.le_of_ble_eq_true rfl) dX10_read_2) ?_
  refine lv_istore (lv' := [(4, .int x1), (0, .ref (za w 0)), (1, .int a1), (2, .int a2), (3, .int a3)]) G.x G.b dX10_read_5 hl (Nat.le_of_ble_eq_true rfl) rfl (fun ls hl => ?_)
  refine lv_iload G.x G.b dX10_read_7 (lv_at hl 0 rfl) ?_
  refine lv_if_eq (tgt := 19) G.x G.b dX10_read_9 (by decide) (fun c2 => ?_) (fun c2 => ?_)
  · have h := z_if c2 h
    refine lv_aload_n G.x G.b dX10_read_19 rfl (lv_at hl 1 rfl) ?_
    refine lv_iload_n G.x G.b dX10_read_20 rfl (lv_at hl 3 rfl) ?_
    obtain ⟨x3, ex3, h⟩ := z_bind h
    refine z_rdI (z_runV (k := 0) (As := [.int a2]) (rest := []) G hH hl.1 (kX10_isWearer l hw ex3) (mM0 hw) vc10 arX10_isWearer u964 u966 us33 u11 u967 rfl rfl rfl (Nat.le_of_ble_eq_true rfl) (Nat.le_of_ble_eq_true rfl) rfl (Nat.le_of_ble_eq_true rfl) dX10_read_21) ?_
    refine lv_if_eq (tgt := 35) G.x G.b dX10_read_24 (by decide) (fun c4 => ?_) (fun c4 => ?_)
    · have h := z_if c4 h
      refine lv_aload_n G.x G.b dX10_read_35 rfl (lv_at hl 1 rfl) ?_
      refine lv_ldc G.x G.b G.o (G.t u833) dX10_read_36 ?_
      obtain ⟨x5, M6, eM6, h⟩ := z_b2 h
      refine z_aftI (z_runV (k := 0) (As := [.int (-1000000001 : Int32)]) (rest := []) G hH hl.1 (kX10_finds l hw eM6) (mM0 hw) vc10 arX10_finds u834 u836 us16 u11 u837 rfl rfl rfl (Nat.le_of_ble_eq_true rfl) (Nat.le_of_ble_eq_true rfl) rfl (Nat.le_of_ble_eq_true rfl) dX10_read_38) hH (fun H locs hH => ?_)
      exact z_retI G hr hlk hH h dX10_read_41
    · have h := z_ifn c4 h
      refine lv_aload_n G.x G.b dX10_read_27 rfl (lv_at hl 1 rfl) ?_
      refine lv_iload_n G.x G.b dX10_read_28 rfl (lv_at hl 4 rfl) ?_
      obtain ⟨x7, ex7, h⟩ := z_bind h
      refine z_rdI (z_runV (k := 0) (As := [.int a3]) (rest := []) G hH hl.1 (kX10_isBeard l hw ex7) (mM0 hw) vc10 arX10_isBeard u842 u844 us17 u11 u845 rfl rfl rfl (Nat.le_of_ble_eq_true rfl) (Nat.le_of_ble_eq_true rfl) rfl (Nat.le_of_ble_eq_true rfl) dX10_read_29) ?_
      refine lv_if_ne (tgt := 42) G.x G.b dX10_read_32 (by decide) (fun c8 => ?_) (fun c8 => ?_)
      · have h := z_ifn c8 h
        refine lv_aload_n G.x G.b dX10_read_42 rfl (lv_at hl 1 rfl) ?_
        obtain ⟨M9, eM9, h⟩ := z_bind h
        refine z_aftV (z_runV (k := 0) (As := []) (rest := []) G hH hl.1 (kX10_laysAside l hw eM9) (mM0 hw) vc10 arX10_laysAside u1023 u1025 us40 u11 u1026 rfl rfl rfl (Nat.le_of_ble_eq_true rfl) (Nat.le_of_ble_eq_true rfl) rfl (Nat.le_of_ble_eq_true rfl) dX10_read_43) hH (fun H locs hH => ?_)
        refine lv_iconst (v := (0 : Int32)) G.x G.b dX10_read_46 (by decide) ?_
        refine lv_istore (lv' := [(5, .int (0 : Int32)), (4, .int x1), (0, .ref (za w 0)), (1, .int a1), (2, .int a2), (3, .int a3)]) G.x G.b dX10_read_47 hl (Nat.le_of_ble_eq_true rfl) rfl (fun ls hl => ?_)
        refine lv_iconst (v := (0 : Int32)) G.x G.b dX10_read_49 (by decide) ?_
        refine lv_istore (lv' := [(6, .int (0 : Int32)), (5, .int (0 : Int32)), (4, .int x1), (0, .ref (za w 0)), (1, .int a1), (2, .int a2), (3, .int a3)]) G.x G.b dX10_read_50 hl (Nat.le_of_ble_eq_true rfl) rfl (fun ls hl => ?_)
        obtain ⟨E118_12, hE118_12, h⟩ := z_j h
        have kE118_12 : ∀ (M10 : zM) (x11 : Int32) (H : Heap) (locs : List Loc) (ls : Array Slot), E118_12 M10 x11 = some (r, M') → zH w s M10 H locs → lv_has ls 7 [(5, .int x11)] → zGo p l e rX10_read s m args below meth c (zQ w (some (.int r)) M') (zA w) H locs (F0 m 118 ls []) := by
          intro M10 x11 H locs ls h hH hl
          rw [hE118_12] at h
          refine lv_iload G.x G.b dX10_read_118 (lv_at hl 0 rfl) ?_
          exact z_retI G hr hlk hH h dX10_read_120
        have n16 : ∀ (n : Nat) (M13 : zM) (x14 : Int32) (x15 : Int32) (H : Heap) (locs : List Loc) (ls : Array Slot), zL3 (bX10_read_52 a1 a2 a3 E118_12) n M13 x14 x15 = some (r, M') → zH w s M13 H locs → lv_has ls 7 [(0, .ref (za w 0)), (1, .int a1), (2, .int a2), (3, .int a3), (5, .int x14), (6, .int x15)] → zGo p l e rX10_read s m args below meth c (zQ w (some (.int r)) M') (zA w) H locs (F0 m 52 ls []) := by
          intro n
          induction n with
          | zero => intro M13 x14 x15 H locs ls h; exact (zL3_0 h).elim
          | succ n ih16 =>
            intro M13 x14 x15 H locs ls h hH hl
            obtain ⟨rc16, hrc16, h⟩ := zL3_s h
            rw [← hrc16] at ih16
            unfold bX10_read_52 at h
            refine lv_iload G.x G.b dX10_read_52 (lv_at hl 5 rfl) ?_
            refine lv_bipush (v := (36 : Int32)) G.x G.b dX10_read_54 (by decide) ?_
            refine lv_icmp_ge (tgt := 118) G.x G.b dX10_read_56 (by decide) (fun c17 => ?_) (fun c17 => ?_)
            · have h := z_if c17 h
              exact kE118_12 M13 x14 H locs ls h hH (lv_sub hl [4] rfl)
            · have h := z_ifn c17 h
              refine lv_aload_n G.x G.b dX10_read_59 rfl (lv_at hl 0 rfl) ?_
              refine z_get (v := .ref (za w 1)) (k := 0) G hH.1 (mM0 hw) vc10 inU10 0 (by decide) u767 rfl dX10_read_60 ?_
              refine lv_iload_n G.x G.b dX10_read_63 rfl (lv_at hl 3 rfl) ?_
              refine lv_iconst (v := (0 : Int32)) G.x G.b dX10_read_64 (by decide) ?_
              obtain ⟨x18, ex18, h⟩ := z_bind h
              refine z_rdI (z_runS (As := [.int a3, .int (0 : Int32)]) (rest := [.ref (za w 1)]) G hH hl.1 (kX10_beardSpot l hw.1 ex18) arX10_beardSpot u886 u887 u11 u888 rfl rfl rfl (Nat.le_of_ble_eq_true rfl) (Nat.le_of_ble_eq_true rfl) rfl (Nat.le_of_ble_eq_true rfl) dX10_read_65) ?_
              refine lv_iload G.x G.b dX10_read_68 (lv_at hl 5 rfl) ?_
              refine lv_bipush (v := (6 : Int32)) G.x G.b dX10_read_70 (by decide) ?_
              refine lv_idiv G.x G.b dX10_read_72 (by decide) ?_
              obtain ⟨j19, ej19, h⟩ := z_bind h
              obtain ⟨M20, eM20, h⟩ := z_let h
              refine z_iastN (k := 1) G hH (mM1 hw) ej19 dX10_read_73 eM20 (fun H locs hH => ?_)
              refine lv_aload_n G.x G.b dX10_read_74 rfl (lv_at hl 0 rfl) ?_
              refine z_get (v := .ref (za w 1)) (k := 0) G hH.1 (mM0 hw) vc10 inU10 0 (by decide) u767 rfl dX10_read_75 ?_
              refine lv_iload_n G.x G.b dX10_read_78 rfl (lv_at hl 2 rfl) ?_
              refine lv_iconst (v := (1 : Int32)) G.x G.b dX10_read_79 (by decide) ?_
              obtain ⟨x21, ex21, h⟩ := z_bind h
              refine z_rdI (z_runS (As := [.int a2, .int (1 : Int32)]) (rest := [.ref (za w 1)]) G hH hl.1 (kX10_wearerSpot l hw.1 ex21) arX10_wearerSpot u867 u868 u11 u869 rfl rfl rfl (Nat.le_of_ble_eq_true rfl) (Nat.le_of_ble_eq_true rfl) rfl (Nat.le_of_ble_eq_true rfl) dX10_read_80) ?_
              refine lv_iload G.x G.b dX10_read_83 (lv_at hl 5 rfl) ?_
              refine lv_bipush (v := (6 : Int32)) G.x G.b dX10_read_85 (by decide) ?_
              refine z_irem G dX10_read_87 (by decide) ?_
              obtain ⟨j22, ej22, h⟩ := z_bind h
              obtain ⟨M23, eM23, h⟩ := z_let h
              refine z_iastN (k := 1) G hH (mM1 hw) ej22 dX10_read_88 eM23 (fun H locs hH => ?_)
              refine lv_aload_n G.x G.b dX10_read_89 rfl (lv_at hl 0 rfl) ?_
              refine lv_iload G.x G.b dX10_read_90 (lv_at hl 4 rfl) ?_
              refine lv_aload_n G.x G.b dX10_read_92 rfl (lv_at hl 0 rfl) ?_
              refine lv_iload_n G.x G.b dX10_read_93 rfl (lv_at hl 1 rfl) ?_
              refine lv_iload_n G.x G.b dX10_read_94 rfl (lv_at hl 2 rfl) ?_
              obtain ⟨x24, M25, eM25, h⟩ := z_b2 h
              refine z_aftI (z_runV (k := 0) (As := [.int a1, .int a2]) (rest := [.int x14, .ref (za w 0)]) G hH hl.1 (kX10_isBook l hw eM25) (mM0 hw) vc10 arX10_isBook u1227 u1229 us62 u11 u1230 rfl rfl rfl (Nat.le_of_ble_eq_true rfl) (Nat.le_of_ble_eq_true rfl) rfl (Nat.le_of_ble_eq_true rfl) dX10_read_95) hH (fun H locs hH => ?_)
              obtain ⟨J106_27, hJ106_27, h⟩ := z_j h
              have kJ106_27 : ∀ (x26 : Int32) (ls : Array Slot), J106_27 x26 = some (r, M') → lv_has ls 7 [(0, .ref (za w 0)), (1, .int a1), (2, .int a2), (3, .int a3), (6, .int x15)] → zGo p l e rX10_read s m args below meth c (zQ w (some (.int r)) M') (zA w) H locs (F0 m 106 ls [.int x26, .int x14, .ref (za w 0)]) := by
                intro x26 ls h hl
                rw [hJ106_27] at h
                refine lv_iadd G.x G.b dX10_read_106 ?_
                obtain ⟨x28, M29, eM29, h⟩ := z_b2 h
                refine z_aftI (z_runV (k := 0) (As := [.int (x14 + x26)]) (rest := []) G hH hl.1 (kX10_takesBack l hw eM29) (mM0 hw) vc10 arX10_takesBack u1027 u1029 us41 u11 u1030 rfl rfl rfl (Nat.le_of_ble_eq_true rfl) (Nat.le_of_ble_eq_true rfl) rfl (Nat.le_of_ble_eq_true rfl) dX10_read_107) hH (fun H locs hH => ?_)
                refine lv_istore (lv' := [(5, .int x28), (0, .ref (za w 0)), (1, .int a1), (2, .int a2), (3, .int a3), (6, .int x15)]) G.x G.b dX10_read_110 hl (Nat.le_of_ble_eq_true rfl) rfl (fun ls hl => ?_)
                obtain ⟨x30, ex30, h⟩ := z_let h
                refine lv_iinc (v := x30) (lv' := [(6, .int x30), (5, .int x28), (0, .ref (za w 0)), (1, .int a1), (2, .int a2), (3, .int a3)]) G.x G.b dX10_read_112 hl (k := 5) rfl (by rw [ex30]; rfl) (Nat.le_of_ble_eq_true rfl) rfl (fun ls hl => ?_)
                refine lv_goto (tgt := 52) G.x G.b dX10_read_115 (by decide) ?_
                exact ih16 M29 x28 x30 H locs ls h hH (lv_sub hl [2, 3, 4, 5, 1, 0] rfl)
              refine lv_if_eq (tgt := 105) G.x G.b dX10_read_98 (by decide) (fun c31 => ?_) (fun c31 => ?_)
              · have h := z_if c31 h
                refine lv_iconst (v := (0 : Int32)) G.x G.b dX10_read_105 (by decide) ?_
                exact kJ106_27 (0 : Int32) ls h (lv_sub hl [0, 1, 2, 3, 5] rfl)
              · have h := z_ifn c31 h
                refine lv_iconst (v := (1 : Int32)) G.x G.b dX10_read_101 (by decide) ?_
                refine lv_goto (tgt := 106) G.x G.b dX10_read_102 (by decide) ?_
                exact kJ106_27 (1 : Int32) ls h (lv_sub hl [0, 1, 2, 3, 5] rfl)
        exact n16 zFuel M9 (0 : Int32) (0 : Int32) H locs ls h hH (lv_sub hl [3, 4, 5, 6, 1, 0] rfl)
      · have h := z_if c8 h
        refine lv_aload_n G.x G.b dX10_read_35 rfl (lv_at hl 1 rfl) ?_
        refine lv_ldc G.x G.b G.o (G.t u833) dX10_read_36 ?_
        obtain ⟨x32, M33, eM33, h⟩ := z_b2 h
        refine z_aftI (z_runV (k := 0) (As := [.int (-1000000001 : Int32)]) (rest := []) G hH hl.1 (kX10_finds l hw eM33) (mM0 hw) vc10 arX10_finds u834 u836 us16 u11 u837 rfl rfl rfl (Nat.le_of_ble_eq_true rfl) (Nat.le_of_ble_eq_true rfl) rfl (Nat.le_of_ble_eq_true rfl) dX10_read_38) hH (fun H locs hH => ?_)
        exact z_retI G hr hlk hH h dX10_read_41
  · have h := z_ifn c2 h
    refine lv_aload_n G.x G.b dX10_read_12 rfl (lv_at hl 1 rfl) ?_
    refine lv_iload G.x G.b dX10_read_13 (lv_at hl 0 rfl) ?_
    obtain ⟨x34, M35, eM35, h⟩ := z_b2 h
    refine z_aftI (z_runV (k := 0) (As := [.int x1]) (rest := []) G hH hl.1 (kX10_finds l hw eM35) (mM0 hw) vc10 arX10_finds u834 u836 us16 u11 u837 rfl rfl rfl (Nat.le_of_ble_eq_true rfl) (Nat.le_of_ble_eq_true rfl) rfl (Nat.le_of_ble_eq_true rfl) dX10_read_15) hH (fun H locs hH => ?_)
    exact z_retI G hr hlk hH h dX10_read_18
def bX10_image_2 (E26_2 : zM → Option (Int32 × zM)) (rc6 : zM → Int32 → Option (Int32 × zM)) (M4 : zM) (x5 : Int32) : Option (Int32 × zM) :=
  if (59 : Int32) ≤ x5 then (E26_2 M4) else ((zix x5 59).bind fun j8 =>
  (zix x5 59).bind fun j9 =>
  (some (zst M4 2 j9 (M4.1 1 j8))).bind fun M10 =>
  (some (x5 + (1 : Int32))).bind fun x11 =>
  rc6 M10 x11)
def lX10_image_2 (E26_2 : zM → Option (Int32 × zM)) : Nat → zM → Int32 → Option (Int32 × zM) := zL2 (bX10_image_2 E26_2)
def fX10_image (M0 : zM) : Option (Int32 × zM) :=
  zj (fun (M1 : zM) =>
  (some (zst M1 0 5 (1 : Int32))).bind fun M3 =>
  some ((1 : Int32), M3)) fun E26_2 =>
  lX10_image_2 E26_2 zFuel M0 (0 : Int32)
abbrev rX10_image : Room := { frames := 0, cells := 0, slots := 0, locals := 0 }
theorem arX10_image : zAr yX10_image RX10 0 := ⟨rfl, by decide, by decide, by decide +kernel⟩
set_option maxHeartbeats 4000000 in
theorem kX10_image (l : Launch) {w : zWd} (hw : zIsM w) {M0 M' : zM} {r : Int32} (h : fX10_image M0 = some (r, M')) : Met l yX10_image (Cond.code yX10_image cX10_image 2 (some .int) :: zU) rX10_image (zPre w M0 [.ref (za w 0)]) (zQ w (some (.int r)) M') 0 0 (zA w) := by
  refine z_metN (own := RX10) (lv := [(0, .ref (za w 0))]) hw.1 (by decide) (Nat.le_of_ble_eq_true rfl) rfl rfl ?_
  intro p e s m args below meth c G hr hlk hH ls hl
  unfold fX10_image at h
  refine lv_iconst (v := (0 : Int32)) G.x G.b dX10_image_0 (by decide) ?_
  refine lv_istore_n (lv' := [(1, .int (0 : Int32)), (0, .ref (za w 0))]) G.x G.b dX10_image_1 rfl hl (Nat.le_of_ble_eq_true rfl) rfl (fun ls hl => ?_)
  obtain ⟨E26_2, hE26_2, h⟩ := z_j h
  have kE26_2 : ∀ (M1 : zM) (H : Heap) (locs : List Loc) (ls : Array Slot), E26_2 M1 = some (r, M') → zH w s M1 H locs → lv_has ls 2 [(0, .ref (za w 0))] → zGo p l e rX10_image s m args below meth c (zQ w (some (.int r)) M') (zA w) H locs (F0 m 26 ls []) := by
    intro M1 H locs ls h hH hl
    rw [hE26_2] at h
    refine lv_aload_n G.x G.b dX10_image_26 rfl (lv_at hl 0 rfl) ?_
    refine lv_iconst (v := (1 : Int32)) G.x G.b dX10_image_27 (by decide) ?_
    obtain ⟨M3, eM3, h⟩ := z_let h
    refine z_putN (k := 0) G hH (mM0 hw) vc10 inU10 tyX10 tyX10_ok nmX10 5 (by decide) u772 rfl (ty := .boolean) rfl rfl rfl mP10_5 (Nat.le_of_ble_eq_true rfl) dX10_image_28 eM3 (fun H locs hH => ?_)
    refine lv_iconst (v := (1 : Int32)) G.x G.b dX10_image_31 (by decide) ?_
    exact z_retI G hr hlk hH h dX10_image_32
  have n6 : ∀ (n : Nat) (M4 : zM) (x5 : Int32) (H : Heap) (locs : List Loc) (ls : Array Slot), zL2 (bX10_image_2 E26_2) n M4 x5 = some (r, M') → zH w s M4 H locs → lv_has ls 2 [(0, .ref (za w 0)), (1, .int x5)] → zGo p l e rX10_image s m args below meth c (zQ w (some (.int r)) M') (zA w) H locs (F0 m 2 ls []) := by
    intro n
    induction n with
    | zero => intro M4 x5 H locs ls h; exact (zL2_0 h).elim
    | succ n ih6 =>
      intro M4 x5 H locs ls h hH hl
      obtain ⟨rc6, hrc6, h⟩ := zL2_s h
      rw [← hrc6] at ih6
      unfold bX10_image_2 at h
      refine lv_iload_n G.x G.b dX10_image_2 rfl (lv_at hl 1 rfl) ?_
      refine lv_bipush (v := (59 : Int32)) G.x G.b dX10_image_3 (by decide) ?_
      refine lv_icmp_ge (tgt := 26) G.x G.b dX10_image_5 (by decide) (fun c7 => ?_) (fun c7 => ?_)
      · have h := z_if c7 h
        exact kE26_2 M4 H locs ls h hH (lv_sub hl [0] rfl)
      · have h := z_ifn c7 h
        refine lv_aload_n G.x G.b dX10_image_8 rfl (lv_at hl 0 rfl) ?_
        refine z_get (v := .ref (za w 2)) (k := 0) G hH.1 (mM0 hw) vc10 inU10 1 (by decide) u768 rfl dX10_image_9 ?_
        refine lv_iload_n G.x G.b dX10_image_12 rfl (lv_at hl 1 rfl) ?_
        refine lv_aload_n G.x G.b dX10_image_13 rfl (lv_at hl 0 rfl) ?_
        refine z_get (v := .ref (za w 1)) (k := 0) G hH.1 (mM0 hw) vc10 inU10 0 (by decide) u767 rfl dX10_image_14 ?_
        refine lv_iload_n G.x G.b dX10_image_17 rfl (lv_at hl 1 rfl) ?_
        obtain ⟨j8, ej8, h⟩ := z_bind h
        refine z_iald (k := 1) G hH.1 (mM1 hw) ej8 dX10_image_18 ?_
        obtain ⟨j9, ej9, h⟩ := z_bind h
        obtain ⟨M10, eM10, h⟩ := z_let h
        refine z_iastN (k := 2) G hH (mM2 hw) ej9 dX10_image_19 eM10 (fun H locs hH => ?_)
        obtain ⟨x11, ex11, h⟩ := z_let h
        refine lv_iinc (v := x11) (lv' := [(1, .int x11), (0, .ref (za w 0))]) G.x G.b dX10_image_20 hl (k := 1) rfl (by rw [ex11]; rfl) (Nat.le_of_ble_eq_true rfl) rfl (fun ls hl => ?_)
        refine lv_goto (tgt := 2) G.x G.b dX10_image_23 (by decide) ?_
        exact ih6 M10 x11 H locs ls h hH (lv_sub hl [1, 0] rfl)
  exact n6 zFuel M0 (0 : Int32) s.heap [] ls h hH (lv_sub hl [1, 0] rfl)
def bX10_undo_16 (E40_3 : zM → Option (Int32 × zM)) (rc6 : zM → Int32 → Option (Int32 × zM)) (M4 : zM) (x5 : Int32) : Option (Int32 × zM) :=
  if (59 : Int32) ≤ x5 then (E40_3 M4) else ((zix x5 59).bind fun j8 =>
  (zix x5 59).bind fun j9 =>
  (some (zst M4 1 j9 (M4.1 2 j8))).bind fun M10 =>
  (some (x5 + (1 : Int32))).bind fun x11 =>
  rc6 M10 x11)
def lX10_undo_16 (E40_3 : zM → Option (Int32 × zM)) : Nat → zM → Int32 → Option (Int32 × zM) := zL2 (bX10_undo_16 E40_3)
def fX10_undo (M0 : zM) : Option (Int32 × zM) :=
  if (M0.1 0 5) = (0 : Int32) then (zb2 (fX10_finds M0 (-1000000004 : Int32)) fun x12 M13 =>
  some (x12, M13)) else (zj (fun (M2 : zM) =>
  some ((M2.1 1 1), M2)) fun E40_3 =>
  lX10_undo_16 E40_3 zFuel M0 (0 : Int32))
abbrev rX10_undo : Room := { frames := 1, cells := 0, slots := 0, locals := 21 }
theorem arX10_undo : zAr yX10_undo RX10 0 := ⟨rfl, by decide, by decide, by decide +kernel⟩
set_option maxHeartbeats 4000000 in
theorem kX10_undo (l : Launch) {w : zWd} (hw : zIsM w) {M0 M' : zM} {r : Int32} (h : fX10_undo M0 = some (r, M')) : Met l yX10_undo (Cond.code yX10_undo cX10_undo 2 (some .int) :: zU) rX10_undo (zPre w M0 [.ref (za w 0)]) (zQ w (some (.int r)) M') 0 0 (zA w) := by
  refine z_metN (own := RX10) (lv := [(0, .ref (za w 0))]) hw.1 (by decide) (Nat.le_of_ble_eq_true rfl) rfl rfl ?_
  intro p e s m args below meth c G hr hlk hH ls hl
  unfold fX10_undo at h
  refine lv_aload_n G.x G.b dX10_undo_0 rfl (lv_at hl 0 rfl) ?_
  refine z_get (v := .int (M0.1 0 5)) (k := 0) G hH.1 (mM0 hw) vc10 inU10 5 (by decide) u772 rfl dX10_undo_1 ?_
  refine lv_if_ne (tgt := 14) G.x G.b dX10_undo_4 (by decide) (fun c1 => ?_) (fun c1 => ?_)
  · have h := z_ifn c1 h
    refine lv_iconst (v := (0 : Int32)) G.x G.b dX10_undo_14 (by decide) ?_
    refine lv_istore_n (lv' := [(1, .int (0 : Int32)), (0, .ref (za w 0))]) G.x G.b dX10_undo_15 rfl hl (Nat.le_of_ble_eq_true rfl) rfl (fun ls hl => ?_)
    obtain ⟨E40_3, hE40_3, h⟩ := z_j h
    have kE40_3 : ∀ (M2 : zM) (H : Heap) (locs : List Loc) (ls : Array Slot), E40_3 M2 = some (r, M') → zH w s M2 H locs → lv_has ls 2 [(0, .ref (za w 0))] → zGo p l e rX10_undo s m args below meth c (zQ w (some (.int r)) M') (zA w) H locs (F0 m 40 ls []) := by
      intro M2 H locs ls h hH hl
      rw [hE40_3] at h
      refine lv_aload_n G.x G.b dX10_undo_40 rfl (lv_at hl 0 rfl) ?_
      refine z_get (v := .ref (za w 1)) (k := 0) G hH.1 (mM0 hw) vc10 inU10 0 (by decide) u767 rfl dX10_undo_41 ?_
      refine lv_iconst (v := (1 : Int32)) G.x G.b dX10_undo_44 (by decide) ?_
      refine z_iald (k := 1) G hH.1 (mM1 hw) (by decide : zix (1 : Int32) 59 = some 1) dX10_undo_45 ?_
      exact z_retI G hr hlk hH h dX10_undo_46
    have n6 : ∀ (n : Nat) (M4 : zM) (x5 : Int32) (H : Heap) (locs : List Loc) (ls : Array Slot), zL2 (bX10_undo_16 E40_3) n M4 x5 = some (r, M') → zH w s M4 H locs → lv_has ls 2 [(0, .ref (za w 0)), (1, .int x5)] → zGo p l e rX10_undo s m args below meth c (zQ w (some (.int r)) M') (zA w) H locs (F0 m 16 ls []) := by
      intro n
      induction n with
      | zero => intro M4 x5 H locs ls h; exact (zL2_0 h).elim
      | succ n ih6 =>
        intro M4 x5 H locs ls h hH hl
        obtain ⟨rc6, hrc6, h⟩ := zL2_s h
        rw [← hrc6] at ih6
        unfold bX10_undo_16 at h
        refine lv_iload_n G.x G.b dX10_undo_16 rfl (lv_at hl 1 rfl) ?_
        refine lv_bipush (v := (59 : Int32)) G.x G.b dX10_undo_17 (by decide) ?_
        refine lv_icmp_ge (tgt := 40) G.x G.b dX10_undo_19 (by decide) (fun c7 => ?_) (fun c7 => ?_)
        · have h := z_if c7 h
          exact kE40_3 M4 H locs ls h hH (lv_sub hl [0] rfl)
        · have h := z_ifn c7 h
          refine lv_aload_n G.x G.b dX10_undo_22 rfl (lv_at hl 0 rfl) ?_
          refine z_get (v := .ref (za w 1)) (k := 0) G hH.1 (mM0 hw) vc10 inU10 0 (by decide) u767 rfl dX10_undo_23 ?_
          refine lv_iload_n G.x G.b dX10_undo_26 rfl (lv_at hl 1 rfl) ?_
          refine lv_aload_n G.x G.b dX10_undo_27 rfl (lv_at hl 0 rfl) ?_
          refine z_get (v := .ref (za w 2)) (k := 0) G hH.1 (mM0 hw) vc10 inU10 1 (by decide) u768 rfl dX10_undo_28 ?_
          refine lv_iload_n G.x G.b dX10_undo_31 rfl (lv_at hl 1 rfl) ?_
          obtain ⟨j8, ej8, h⟩ := z_bind h
          refine z_iald (k := 2) G hH.1 (mM2 hw) ej8 dX10_undo_32 ?_
          obtain ⟨j9, ej9, h⟩ := z_bind h
          obtain ⟨M10, eM10, h⟩ := z_let h
          refine z_iastN (k := 1) G hH (mM1 hw) ej9 dX10_undo_33 eM10 (fun H locs hH => ?_)
          obtain ⟨x11, ex11, h⟩ := z_let h
          refine lv_iinc (v := x11) (lv' := [(1, .int x11), (0, .ref (za w 0))]) G.x G.b dX10_undo_34 hl (k := 1) rfl (by rw [ex11]; rfl) (Nat.le_of_ble_eq_true rfl) rfl (fun ls hl => ?_)
          refine lv_goto (tgt := 16) G.x G.b dX10_undo_37 (by decide) ?_
          exact ih6 M10 x11 H locs ls h hH (lv_sub hl [1, 0] rfl)
    exact n6 zFuel M0 (0 : Int32) s.heap [] ls h hH (lv_sub hl [1, 0] rfl)
  · have h := z_if c1 h
    refine lv_aload_n G.x G.b dX10_undo_7 rfl (lv_at hl 0 rfl) ?_
    refine lv_ldc G.x G.b G.o (G.t u1051) dX10_undo_8 ?_
    obtain ⟨x12, M13, eM13, h⟩ := z_b2 h
    refine z_aftI (z_runV (k := 0) (As := [.int (-1000000004 : Int32)]) (rest := []) G hH hl.1 (kX10_finds l hw eM13) (mM0 hw) vc10 arX10_finds u834 u836 us16 u11 u837 rfl rfl rfl (Nat.le_of_ble_eq_true rfl) (Nat.le_of_ble_eq_true rfl) rfl (Nat.le_of_ble_eq_true rfl) dX10_undo_10) hH (fun H locs hH => ?_)
    exact z_retI G hr hlk hH h dX10_undo_13
def fX10_tear (M0 : zM) : Option (Int32 × zM) :=
  if (M0.1 0 5) = (0 : Int32) then ((some (zst M0 0 5 (0 : Int32))).bind fun M2 =>
  some ((0 : Int32), M2)) else ((some (zst M0 0 5 (0 : Int32))).bind fun M3 =>
  some ((1 : Int32), M3))
abbrev rX10_tear : Room := { frames := 0, cells := 0, slots := 0, locals := 0 }
theorem arX10_tear : zAr yX10_tear RX10 0 := ⟨rfl, by decide, by decide, by decide +kernel⟩
set_option maxHeartbeats 4000000 in
theorem kX10_tear (l : Launch) {w : zWd} (hw : zIsM w) {M0 M' : zM} {r : Int32} (h : fX10_tear M0 = some (r, M')) : Met l yX10_tear (Cond.code yX10_tear cX10_tear 2 (some .int) :: zU) rX10_tear (zPre w M0 [.ref (za w 0)]) (zQ w (some (.int r)) M') 0 0 (zA w) := by
  refine z_metN (own := RX10) (lv := [(0, .ref (za w 0))]) hw.1 (by decide) (Nat.le_of_ble_eq_true rfl) rfl rfl ?_
  intro p e s m args below meth c G hr hlk hH ls hl
  unfold fX10_tear at h
  refine lv_aload_n G.x G.b dX10_tear_0 rfl (lv_at hl 0 rfl) ?_
  refine z_get (v := .int (M0.1 0 5)) (k := 0) G hH.1 (mM0 hw) vc10 inU10 5 (by decide) u772 rfl dX10_tear_1 ?_
  refine lv_if_eq (tgt := 11) G.x G.b dX10_tear_4 (by decide) (fun c1 => ?_) (fun c1 => ?_)
  · have h := z_if c1 h
    refine lv_iconst (v := (0 : Int32)) G.x G.b dX10_tear_11 (by decide) ?_
    refine lv_istore_n (lv' := [(1, .int (0 : Int32)), (0, .ref (za w 0))]) G.x G.b dX10_tear_12 rfl hl (Nat.le_of_ble_eq_true rfl) rfl (fun ls hl => ?_)
    refine lv_aload_n G.x G.b dX10_tear_13 rfl (lv_at hl 1 rfl) ?_
    refine lv_iconst (v := (0 : Int32)) G.x G.b dX10_tear_14 (by decide) ?_
    obtain ⟨M2, eM2, h⟩ := z_let h
    refine z_putN (k := 0) G hH (mM0 hw) vc10 inU10 tyX10 tyX10_ok nmX10 5 (by decide) u772 rfl (ty := .boolean) rfl rfl rfl mP10_5 (Nat.le_of_ble_eq_true rfl) dX10_tear_15 eM2 (fun H locs hH => ?_)
    refine lv_iload_n G.x G.b dX10_tear_18 rfl (lv_at hl 0 rfl) ?_
    exact z_retI G hr hlk hH h dX10_tear_19
  · have h := z_ifn c1 h
    refine lv_iconst (v := (1 : Int32)) G.x G.b dX10_tear_7 (by decide) ?_
    refine lv_goto (tgt := 12) G.x G.b dX10_tear_8 (by decide) ?_
    refine lv_istore_n (lv' := [(1, .int (1 : Int32)), (0, .ref (za w 0))]) G.x G.b dX10_tear_12 rfl hl (Nat.le_of_ble_eq_true rfl) rfl (fun ls hl => ?_)
    refine lv_aload_n G.x G.b dX10_tear_13 rfl (lv_at hl 1 rfl) ?_
    refine lv_iconst (v := (0 : Int32)) G.x G.b dX10_tear_14 (by decide) ?_
    obtain ⟨M3, eM3, h⟩ := z_let h
    refine z_putN (k := 0) G hH (mM0 hw) vc10 inU10 tyX10 tyX10_ok nmX10 5 (by decide) u772 rfl (ty := .boolean) rfl rfl rfl mP10_5 (Nat.le_of_ble_eq_true rfl) dX10_tear_15 eM3 (fun H locs hH => ?_)
    refine lv_iload_n G.x G.b dX10_tear_18 rfl (lv_at hl 0 rfl) ?_
    exact z_retI G hr hlk hH h dX10_tear_19
def fX10_count (M0 : zM) (a1 : Int32) : Option (Int32 × zM) :=
  if a1 = (0 : Int32) then (some ((M0.1 1 1), M0)) else (if a1 = (1 : Int32) then (some ((M0.1 1 2), M0)) else (if a1 = (2 : Int32) then (some ((M0.1 0 7), M0)) else (if a1 = (3 : Int32) then ((fX10_hoards M0).bind fun x5 =>
  some (x5, M0)) else (zb2 (fX10_finds M0 (-1000000001 : Int32)) fun x6 M7 =>
  some (x6, M7)))))
abbrev rX10_count : Room := { frames := 3, cells := 0, slots := 0, locals := 65 }
theorem arX10_count : zAr yX10_count RX10 1 := ⟨rfl, by decide, by decide, by decide +kernel⟩
set_option maxHeartbeats 4000000 in
theorem kX10_count (l : Launch) {w : zWd} (hw : zIsM w) {M0 M' : zM} {a1 : Int32} {r : Int32} (h : fX10_count M0 a1 = some (r, M')) : Met l yX10_count (Cond.code yX10_count cX10_count 2 (some .int) :: zU) rX10_count (zPre w M0 [.ref (za w 0), .int a1]) (zQ w (some (.int r)) M') 0 0 (zA w) := by
  refine z_metN (own := RX10) (lv := [(0, .ref (za w 0)), (1, .int a1)]) hw.1 (by decide) (Nat.le_of_ble_eq_true rfl) rfl rfl ?_
  intro p e s m args below meth c G hr hlk hH ls hl
  unfold fX10_count at h
  refine lv_iload_n G.x G.b dX10_count_0 rfl (lv_at hl 1 rfl) ?_
  by_cases c1 : a1 = (0 : Int32)
  · have h := z_if c1 h
    refine z_tab (tgt := 32) G.x G.b dX10_count_1 c1 (by decide) (by decide) rfl (by decide) ?_
    refine lv_aload_n G.x G.b dX10_count_32 rfl (lv_at hl 0 rfl) ?_
    refine z_get (v := .ref (za w 1)) (k := 0) G hH.1 (mM0 hw) vc10 inU10 0 (by decide) u767 rfl dX10_count_33 ?_
    refine lv_iconst (v := (1 : Int32)) G.x G.b dX10_count_36 (by decide) ?_
    refine z_iald (k := 1) G hH.1 (mM1 hw) (by decide : zix (1 : Int32) 59 = some 1) dX10_count_37 ?_
    exact z_retI G hr hlk hH h dX10_count_38
  have h := z_ifn c1 h
  by_cases c2 : a1 = (1 : Int32)
  · have h := z_if c2 h
    refine z_tab (tgt := 39) G.x G.b dX10_count_1 c2 (by decide) (by decide) rfl (by decide) ?_
    refine lv_aload_n G.x G.b dX10_count_39 rfl (lv_at hl 0 rfl) ?_
    refine z_get (v := .ref (za w 1)) (k := 0) G hH.1 (mM0 hw) vc10 inU10 0 (by decide) u767 rfl dX10_count_40 ?_
    refine lv_iconst (v := (2 : Int32)) G.x G.b dX10_count_43 (by decide) ?_
    refine z_iald (k := 1) G hH.1 (mM1 hw) (by decide : zix (2 : Int32) 59 = some 2) dX10_count_44 ?_
    exact z_retI G hr hlk hH h dX10_count_45
  have h := z_ifn c2 h
  by_cases c3 : a1 = (2 : Int32)
  · have h := z_if c3 h
    refine z_tab (tgt := 46) G.x G.b dX10_count_1 c3 (by decide) (by decide) rfl (by decide) ?_
    refine lv_aload_n G.x G.b dX10_count_46 rfl (lv_at hl 0 rfl) ?_
    refine z_get (v := .int (M0.1 0 7)) (k := 0) G hH.1 (mM0 hw) vc10 inU10 7 (by decide) u774 rfl dX10_count_47 ?_
    exact z_retI G hr hlk hH h dX10_count_50
  have h := z_ifn c3 h
  by_cases c4 : a1 = (3 : Int32)
  · have h := z_if c4 h
    refine z_tab (tgt := 51) G.x G.b dX10_count_1 c4 (by decide) (by decide) rfl (by decide) ?_
    refine lv_aload_n G.x G.b dX10_count_51 rfl (lv_at hl 0 rfl) ?_
    obtain ⟨x5, ex5, h⟩ := z_bind h
    refine z_rdI (z_runV (k := 0) (As := []) (rest := []) G hH hl.1 (kX10_hoards l hw ex5) (mM0 hw) vc10 arX10_hoards u1247 u1249 us63 u11 u1250 rfl rfl rfl (Nat.le_of_ble_eq_true rfl) (Nat.le_of_ble_eq_true rfl) rfl (Nat.le_of_ble_eq_true rfl) dX10_count_52) ?_
    exact z_retI G hr hlk hH h dX10_count_55
  have h := z_ifn c4 h
  refine lv_tableOut (tgt := 56) G.x G.b dX10_count_1 (by have gc1 := lv_neT (a := 0) c1 (by decide); have gc2 := lv_neT (a := 1) c2 (by decide); have gc3 := lv_neT (a := 2) c3 (by decide); have gc4 := lv_neT (a := 3) c4 (by decide); omega) (by decide) ?_
  refine lv_aload_n G.x G.b dX10_count_56 rfl (lv_at hl 0 rfl) ?_
  refine lv_ldc G.x G.b G.o (G.t u833) dX10_count_57 ?_
  obtain ⟨x6, M7, eM7, h⟩ := z_b2 h
  refine z_aftI (z_runV (k := 0) (As := [.int (-1000000001 : Int32)]) (rest := []) G hH hl.1 (kX10_finds l hw eM7) (mM0 hw) vc10 arX10_finds u834 u836 us16 u11 u837 rfl rfl rfl (Nat.le_of_ble_eq_true rfl) (Nat.le_of_ble_eq_true rfl) rfl (Nat.le_of_ble_eq_true rfl) dX10_count_59) hH (fun H locs hH => ?_)
  exact z_retI G hr hlk hH h dX10_count_62
def bX10_status_25 (M0 : zM) (a1 : Int32) (E59_4 : Int32 → Option (Int32 × zM)) (rc7 : Int32 → Int32 → Option (Int32 × zM)) (x5 : Int32) (x6 : Int32) : Option (Int32 × zM) :=
  if (7 : Int32) ≤ x6 then (E59_4 x5) else (zj (fun (x9 : Int32) =>
  (some (x5 + x9)).bind fun x11 =>
  (some (x6 + (1 : Int32))).bind fun x12 =>
  rc7 x11 x12) fun J51_10 =>
  zj ((zix x6 7).bind fun j14 =>
  J51_10 (M0.1 5 j14)) fun J41_13 =>
  if a1 < (0 : Int32) then (J41_13) else (if x6 = a1 then (J41_13) else (J51_10 (0 : Int32))))
def lX10_status_25 (M0 : zM) (a1 : Int32) (E59_4 : Int32 → Option (Int32 × zM)) : Nat → Int32 → Int32 → Option (Int32 × zM) := zL2 (bX10_status_25 M0 a1 E59_4)
def fX10_status (M0 : zM) (a1 : Int32) : Option (Int32 × zM) :=
  (fX10_in a1.toInt64 (-1 : Int64) (6 : Int64)).bind fun x1 =>
  if x1 = (0 : Int32) then (zb2 (fX10_finds M0 (-1000000001 : Int32)) fun x17 M18 =>
  some (x17, M18)) else (zj (fun (x3 : Int32) =>
  some (x3, M0)) fun E59_4 =>
  lX10_status_25 M0 a1 E59_4 zFuel (0 : Int32) (0 : Int32))
abbrev rX10_status : Room := { frames := 1, cells := 0, slots := 0, locals := 25 }
theorem arX10_status : zAr yX10_status RX10 1 := ⟨rfl, by decide, by decide, by decide +kernel⟩
set_option maxHeartbeats 4000000 in
theorem kX10_status (l : Launch) {w : zWd} (hw : zIsM w) {M0 M' : zM} {a1 : Int32} {r : Int32} (h : fX10_status M0 a1 = some (r, M')) : Met l yX10_status (Cond.code yX10_status cX10_status 4 (some .int) :: zU) rX10_status (zPre w M0 [.ref (za w 0), .int a1]) (zQ w (some (.int r)) M') 0 0 (zA w) := by
  refine z_metN (own := RX10) (lv := [(0, .ref (za w 0)), (1, .int a1)]) hw.1 (by decide) (Nat.le_of_ble_eq_true rfl) rfl rfl ?_
  intro p e s m args below meth c G hr hlk hH ls hl
  unfold fX10_status at h
  refine lv_iload_n G.x G.b dX10_status_0 rfl (lv_at hl 1 rfl) ?_
  refine lv_i2l (v := a1.toInt64) G.x G.b dX10_status_1 rfl ?_
  refine lv_ldc2 G.x G.b G.o (G.t u1255) dX10_status_2 ?_
  refine lv_ldc2 G.x G.b G.o (G.t u1256) dX10_status_5 ?_
  obtain ⟨x1, ex1, h⟩ := z_bind h
  refine z_rdI (z_runS (As := [.long a1.toInt64, .long (-1 : Int64), .long (6 : Int64)]) (rest := []) G hH hl.1 (kX10_in l hw.1 ex1) arX10_in u824 u825 u11 u826 rfl rfl rfl (Nat.le_of_ble_eq_true rfl) (Nat.le_of_ble_eq_true rfl) rfl (Nat.le_of_ble_eq_true rfl) dX10_status_8) ?_
  refine lv_if_ne (tgt := 21) G.x G.b dX10_status_11 (by decide) (fun c2 => ?_) (fun c2 => ?_)
  · have h := z_ifn c2 h
    refine lv_iconst (v := (0 : Int32)) G.x G.b dX10_status_21 (by decide) ?_
    refine lv_istore_n (lv' := [(2, .int (0 : Int32)), (0, .ref (za w 0)), (1, .int a1)]) G.x G.b dX10_status_22 rfl hl (Nat.le_of_ble_eq_true rfl) rfl (fun ls hl => ?_)
    refine lv_iconst (v := (0 : Int32)) G.x G.b dX10_status_23 (by decide) ?_
    refine lv_istore_n (lv' := [(3, .int (0 : Int32)), (2, .int (0 : Int32)), (0, .ref (za w 0)), (1, .int a1)]) G.x G.b dX10_status_24 rfl hl (Nat.le_of_ble_eq_true rfl) rfl (fun ls hl => ?_)
    obtain ⟨E59_4, hE59_4, h⟩ := z_j h
    have kE59_4 : ∀ (x3 : Int32) (ls : Array Slot), E59_4 x3 = some (r, M') → lv_has ls 4 [(2, .int x3)] → zGo p l e rX10_status s m args below meth c (zQ w (some (.int r)) M') (zA w) s.heap [] (F0 m 59 ls []) := by
      intro x3 ls h hl
      rw [hE59_4] at h
      refine lv_iload_n G.x G.b dX10_status_59 rfl (lv_at hl 0 rfl) ?_
      exact z_retI G hr hlk hH h dX10_status_60
    have n7 : ∀ (n : Nat) (x5 : Int32) (x6 : Int32) (ls : Array Slot), zL2 (bX10_status_25 M0 a1 E59_4) n x5 x6 = some (r, M') → lv_has ls 4 [(0, .ref (za w 0)), (1, .int a1), (2, .int x5), (3, .int x6)] → zGo p l e rX10_status s m args below meth c (zQ w (some (.int r)) M') (zA w) s.heap [] (F0 m 25 ls []) := by
      intro n
      induction n with
      | zero => intro x5 x6 ls h; exact (zL2_0 h).elim
      | succ n ih7 =>
        intro x5 x6 ls h hl
        obtain ⟨rc7, hrc7, h⟩ := zL2_s h
        rw [← hrc7] at ih7
        unfold bX10_status_25 at h
        refine lv_iload_n G.x G.b dX10_status_25 rfl (lv_at hl 3 rfl) ?_
        refine lv_bipush (v := (7 : Int32)) G.x G.b dX10_status_26 (by decide) ?_
        refine lv_icmp_ge (tgt := 59) G.x G.b dX10_status_28 (by decide) (fun c8 => ?_) (fun c8 => ?_)
        · have h := z_if c8 h
          exact kE59_4 x5 ls h (lv_sub hl [2] rfl)
        · have h := z_ifn c8 h
          refine lv_iload_n G.x G.b dX10_status_31 rfl (lv_at hl 2 rfl) ?_
          refine lv_iload_n G.x G.b dX10_status_32 rfl (lv_at hl 1 rfl) ?_
          obtain ⟨J51_10, hJ51_10, h⟩ := z_j h
          have kJ51_10 : ∀ (x9 : Int32) (ls : Array Slot), J51_10 x9 = some (r, M') → lv_has ls 4 [(0, .ref (za w 0)), (1, .int a1), (3, .int x6)] → zGo p l e rX10_status s m args below meth c (zQ w (some (.int r)) M') (zA w) s.heap [] (F0 m 51 ls [.int x9, .int x5]) := by
            intro x9 ls h hl
            rw [hJ51_10] at h
            refine lv_iadd G.x G.b dX10_status_51 ?_
            obtain ⟨x11, ex11, h⟩ := z_let h
            refine z_nmI ex11 ?_
            refine lv_istore_n (lv' := [(2, .int x11), (0, .ref (za w 0)), (1, .int a1), (3, .int x6)]) G.x G.b dX10_status_52 rfl hl (Nat.le_of_ble_eq_true rfl) rfl (fun ls hl => ?_)
            obtain ⟨x12, ex12, h⟩ := z_let h
            refine lv_iinc (v := x12) (lv' := [(3, .int x12), (2, .int x11), (0, .ref (za w 0)), (1, .int a1)]) G.x G.b dX10_status_53 hl (k := 3) rfl (by rw [ex12]; rfl) (Nat.le_of_ble_eq_true rfl) rfl (fun ls hl => ?_)
            refine lv_goto (tgt := 25) G.x G.b dX10_status_56 (by decide) ?_
            exact ih7 x11 x12 ls h (lv_sub hl [2, 3, 1, 0] rfl)
          obtain ⟨J41_13, hJ41_13, h⟩ := z_j h
          have kJ41_13 : ∀ (ls : Array Slot), J41_13 = some (r, M') → lv_has ls 4 [(0, .ref (za w 0)), (1, .int a1), (3, .int x6)] → zGo p l e rX10_status s m args below meth c (zQ w (some (.int r)) M') (zA w) s.heap [] (F0 m 41 ls [.int x5]) := by
            intro ls h hl
            rw [hJ41_13] at h
            refine lv_aload_n G.x G.b dX10_status_41 rfl (lv_at hl 0 rfl) ?_
            refine z_get (v := .ref (za w 5)) (k := 0) G hH.1 (mM0 hw) vc10 inU10 4 (by decide) u771 rfl dX10_status_42 ?_
            refine lv_iload_n G.x G.b dX10_status_45 rfl (lv_at hl 2 rfl) ?_
            obtain ⟨j14, ej14, h⟩ := z_bind h
            refine z_iald (k := 5) G hH.1 (mM5 hw) ej14 dX10_status_46 ?_
            refine lv_goto (tgt := 51) G.x G.b dX10_status_47 (by decide) ?_
            exact kJ51_10 (M0.1 5 j14) ls h (lv_sub hl [0, 1, 2] rfl)
          refine lv_if_lt (tgt := 41) G.x G.b dX10_status_33 (by decide) (fun c15 => ?_) (fun c15 => ?_)
          · have h := z_if c15 h
            exact kJ41_13 ls h (lv_sub hl [0, 1, 3] rfl)
          · have h := z_ifn c15 h
            refine lv_iload_n G.x G.b dX10_status_36 rfl (lv_at hl 3 rfl) ?_
            refine lv_iload_n G.x G.b dX10_status_37 rfl (lv_at hl 1 rfl) ?_
            refine lv_icmp_ne (tgt := 50) G.x G.b dX10_status_38 (by decide) (fun c16 => ?_) (fun c16 => ?_)
            · have h := z_ifn c16 h
              refine lv_iconst (v := (0 : Int32)) G.x G.b dX10_status_50 (by decide) ?_
              exact kJ51_10 (0 : Int32) ls h (lv_sub hl [0, 1, 3] rfl)
            · have h := z_if c16 h
              exact kJ41_13 ls h (lv_sub hl [0, 1, 3] rfl)
    exact n7 zFuel (0 : Int32) (0 : Int32) ls h (lv_sub hl [2, 3, 1, 0] rfl)
  · have h := z_if c2 h
    refine lv_aload_n G.x G.b dX10_status_14 rfl (lv_at hl 0 rfl) ?_
    refine lv_ldc G.x G.b G.o (G.t u833) dX10_status_15 ?_
    obtain ⟨x17, M18, eM18, h⟩ := z_b2 h
    refine z_aftI (z_runV (k := 0) (As := [.int (-1000000001 : Int32)]) (rest := []) G hH hl.1 (kX10_finds l hw eM18) (mM0 hw) vc10 arX10_finds u834 u836 us16 u11 u837 rfl rfl rfl (Nat.le_of_ble_eq_true rfl) (Nat.le_of_ble_eq_true rfl) rfl (Nat.le_of_ble_eq_true rfl) dX10_status_17) hH (fun H locs hH => ?_)
    exact z_retI G hr hlk hH h dX10_status_20
