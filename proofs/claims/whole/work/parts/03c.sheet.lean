def bX5_layOut_12 (q : Nat) (E31_4 : zM → Option zM) (rc7 : zM → Int32 → Option zM) (M5 : zM) (x6 : Int32) : Option zM :=
  if (40 : Int32) ≤ x6 then (E31_4 M5) else ((zix x6 40).bind fun j9 =>
  (some (zstL M5 (q + 1) j9 (0 : Int64))).bind fun M10 =>
  (some (x6 + (1 : Int32))).bind fun x11 =>
  rc7 M10 x11)
def lX5_layOut_12 (q : Nat) (E31_4 : zM → Option zM) : Nat → zM → Int32 → Option zM := zL2 (bX5_layOut_12 q E31_4)
def fX5_layOut (M0 : zM) (q : Nat) (a1 : Int32) (a2 : Int32) : Option zM :=
  (some (zst M0 q 1 a1)).bind fun M1 =>
  (some (zst M1 q 2 a2)).bind fun M2 =>
  zj (fun (M3 : zM) =>
  some M3) fun E31_4 =>
  lX5_layOut_12 q E31_4 zFuel M2 (0 : Int32)
abbrev rX5_layOut : Room := { frames := 0, cells := 0, slots := 0, locals := 0 }
theorem arX5_layOut : zAr yX5_layOut RX5 2 := ⟨rfl, by decide, by decide, by decide +kernel⟩
set_option maxHeartbeats 4000000 in
theorem kX5_layOut (l : Launch) {w : zWd} (hw : zIsC w) {q : Nat} (hq : zS q) {M0 M' : zM} {a1 : Int32} {a2 : Int32} (h : fX5_layOut M0 q a1 a2 = some M') : Met l yX5_layOut (Cond.code yX5_layOut cX5_layOut 4 (none) :: zU) rX5_layOut (zPre w M0 [.ref (za w q), .int a1, .int a2]) (zQ w (none) M') 0 0 (zA w) := by
  refine z_metN (own := RX5) (lv := [(0, .ref (za w q)), (1, .int a1), (2, .int a2)]) hw.1 (by decide) (Nat.le_of_ble_eq_true rfl) rfl rfl ?_
  intro p e s m args below meth c G hr hlk hH ls hl
  unfold fX5_layOut at h
  refine lv_aload_n G.x G.b dX5_layOut_0 rfl (lv_at hl 0 rfl) ?_
  refine lv_iload_n G.x G.b dX5_layOut_1 rfl (lv_at hl 1 rfl) ?_
  obtain ⟨M1, eM1, h⟩ := z_let h
  refine z_putN (k := q) G hH (cCs hw hq) vc5 inU5 tyX5 tyX5_ok nmX5 1 (by decide) u178 rfl (ty := .int) rfl rfl rfl cP5_1 (Nat.le_of_ble_eq_true rfl) dX5_layOut_2 eM1 (fun H locs hH => ?_)
  refine lv_aload_n G.x G.b dX5_layOut_5 rfl (lv_at hl 0 rfl) ?_
  refine lv_iload_n G.x G.b dX5_layOut_6 rfl (lv_at hl 2 rfl) ?_
  obtain ⟨M2, eM2, h⟩ := z_let h
  refine z_putN (k := q) G hH (cCs hw hq) vc5 inU5 tyX5 tyX5_ok nmX5 2 (by decide) u180 rfl (ty := .int) rfl rfl rfl cP5_2 (Nat.le_of_ble_eq_true rfl) dX5_layOut_7 eM2 (fun H locs hH => ?_)
  refine lv_iconst (v := (0 : Int32)) G.x G.b dX5_layOut_10 (by decide) ?_
  refine lv_istore_n (lv' := [(3, .int (0 : Int32)), (0, .ref (za w q)), (1, .int a1), (2, .int a2)]) G.x G.b dX5_layOut_11 rfl hl (Nat.le_of_ble_eq_true rfl) rfl (fun ls hl => ?_)
  obtain ⟨E31_4, hE31_4, h⟩ := z_j h
  have kE31_4 : ∀ (M3 : zM) (H : Heap) (locs : List Loc) (ls : Array Slot), E31_4 M3 = some M' → zH w s M3 H locs → lv_has ls 4 [] → zGo p l e rX5_layOut s m args below meth c (zQ w (none) M') (zA w) H locs (F0 m 31 ls []) := by
    intro M3 H locs ls h hH hl
    rw [hE31_4] at h
    exact z_retV G hr hlk hH h dX5_layOut_31
  have n7 : ∀ (n : Nat) (M5 : zM) (x6 : Int32) (H : Heap) (locs : List Loc) (ls : Array Slot), zL2 (bX5_layOut_12 q E31_4) n M5 x6 = some M' → zH w s M5 H locs → lv_has ls 4 [(0, .ref (za w q)), (3, .int x6)] → zGo p l e rX5_layOut s m args below meth c (zQ w (none) M') (zA w) H locs (F0 m 12 ls []) := by
    intro n
    induction n with
    | zero => intro M5 x6 H locs ls h; exact (zL2_0 h).elim
    | succ n ih7 =>
      intro M5 x6 H locs ls h hH hl
      obtain ⟨rc7, hrc7, h⟩ := zL2_s h
      rw [← hrc7] at ih7
      unfold bX5_layOut_12 at h
      refine lv_iload_n G.x G.b dX5_layOut_12 rfl (lv_at hl 1 rfl) ?_
      refine lv_bipush (v := (40 : Int32)) G.x G.b dX5_layOut_13 (by decide) ?_
      refine lv_icmp_ge (tgt := 31) G.x G.b dX5_layOut_15 (by decide) (fun c8 => ?_) (fun c8 => ?_)
      · have h := z_if c8 h
        exact kE31_4 M5 H locs ls h hH (lv_sub hl [] rfl)
      · have h := z_ifn c8 h
        refine lv_aload_n G.x G.b dX5_layOut_18 rfl (lv_at hl 0 rfl) ?_
        refine z_get (v := .ref (za w (q + 1))) (k := q) G hH.1 (cCs hw hq) vc5 inU5 0 (by decide) u176 rfl dX5_layOut_19 ?_
        refine lv_iload_n G.x G.b dX5_layOut_22 rfl (lv_at hl 1 rfl) ?_
        refine lv_lconst (v := (0 : Int64)) G.x G.b dX5_layOut_23 (by decide) ?_
        obtain ⟨j9, ej9, h⟩ := z_bind h
        obtain ⟨M10, eM10, h⟩ := z_let h
        refine z_lastN (k := (q + 1)) G hH (cCs1 hw hq) ej9 dX5_layOut_24 eM10 (fun H locs hH => ?_)
        obtain ⟨x11, ex11, h⟩ := z_let h
        refine lv_iinc (v := x11) (lv' := [(3, .int x11), (0, .ref (za w q))]) G.x G.b dX5_layOut_25 hl (k := 1) rfl (by rw [ex11]; rfl) (Nat.le_of_ble_eq_true rfl) rfl (fun ls hl => ?_)
        refine lv_goto (tgt := 12) G.x G.b dX5_layOut_28 (by decide) ?_
        exact ih7 M10 x11 H locs ls h hH (lv_sub hl [1, 0] rfl)
  exact n7 zFuel M2 (0 : Int32) H locs ls h hH (lv_sub hl [1, 0] rfl)
def fX5_isMissing (M0 : zM) (q : Nat) : Option Int32 :=
  if (M0.1 q 1) = (0 : Int32) then (zbl (1 : Int32)) else (zbl (0 : Int32))
abbrev rX5_isMissing : Room := { frames := 0, cells := 0, slots := 0, locals := 0 }
theorem arX5_isMissing : zAr yX5_isMissing RX5 0 := ⟨rfl, by decide, by decide, by decide +kernel⟩
set_option maxHeartbeats 4000000 in
theorem kX5_isMissing (l : Launch) {w : zWd} (hw : zIsC w) {q : Nat} (hq : zS q) {M0 : zM} {r : Int32} (h : fX5_isMissing M0 q = some r) : Met l yX5_isMissing (Cond.code yX5_isMissing cX5_isMissing 1 (some .boolean) :: zU) rX5_isMissing (zPre w M0 [.ref (za w q)]) (zR (some (.int r))) 0 0 zNo := by
  refine z_metN (own := RX5) (lv := [(0, .ref (za w q))]) hw.1 (by decide) (Nat.le_of_ble_eq_true rfl) rfl rfl ?_
  intro p e s m args below meth c G hr hlk hH ls hl
  unfold fX5_isMissing at h
  refine lv_aload_n G.x G.b dX5_isMissing_0 rfl (lv_at hl 0 rfl) ?_
  refine z_get (v := .int (M0.1 q 1)) (k := q) G hH.1 (cCs hw hq) vc5 inU5 1 (by decide) u178 rfl dX5_isMissing_1 ?_
  refine lv_if_ne (tgt := 11) G.x G.b dX5_isMissing_4 (by decide) (fun c1 => ?_) (fun c1 => ?_)
  · have h := z_ifn c1 h
    refine lv_iconst (v := (0 : Int32)) G.x G.b dX5_isMissing_11 (by decide) ?_
    exact z_rtZ G hr hlk h dX5_isMissing_12
  · have h := z_if c1 h
    refine lv_iconst (v := (1 : Int32)) G.x G.b dX5_isMissing_7 (by decide) ?_
    refine lv_goto (tgt := 12) G.x G.b dX5_isMissing_8 (by decide) ?_
    exact z_rtZ G hr hlk h dX5_isMissing_12
def fX5_put (M0 : zM) (q : Nat) (a1 : Int32) (a2 : Int64) : Option zM :=
  if (M0.1 q 1) = (8 : Int32) then ((zix a1 40).bind fun j7 =>
  (some (zstL M0 (q + 1) j7 a2.toInt32.toInt8.toInt32.toInt64)).bind fun M8 =>
  some M8) else (if (M0.1 q 1) = (16 : Int32) then ((zix a1 40).bind fun j5 =>
  (some (zstL M0 (q + 1) j5 a2.toInt32.toInt16.toInt32.toInt64)).bind fun M6 =>
  some M6) else ((zix a1 40).bind fun j3 =>
  (some (zstL M0 (q + 1) j3 a2)).bind fun M4 =>
  some M4))
abbrev rX5_put : Room := { frames := 0, cells := 0, slots := 0, locals := 0 }
theorem arX5_put : zAr yX5_put RX5 2 := ⟨rfl, by decide, by decide, by decide +kernel⟩
set_option maxHeartbeats 4000000 in
theorem kX5_put (l : Launch) {w : zWd} (hw : zIsC w) {q : Nat} (hq : zS q) {M0 M' : zM} {a1 : Int32} {a2 : Int64} (h : fX5_put M0 q a1 a2 = some M') : Met l yX5_put (Cond.code yX5_put cX5_put 4 (none) :: zU) rX5_put (zPre w M0 [.ref (za w q), .int a1, .long a2]) (zQ w (none) M') 0 0 (zA w) := by
  refine z_metN (own := RX5) (lv := [(0, .ref (za w q)), (1, .int a1), (2, .long a2)]) hw.1 (by decide) (Nat.le_of_ble_eq_true rfl) rfl rfl ?_
  intro p e s m args below meth c G hr hlk hH ls hl
  unfold fX5_put at h
  refine lv_aload_n G.x G.b dX5_put_0 rfl (lv_at hl 0 rfl) ?_
  refine z_get (v := .int (M0.1 q 1)) (k := q) G hH.1 (cCs hw hq) vc5 inU5 1 (by decide) u178 rfl dX5_put_1 ?_
  refine lv_bipush (v := (8 : Int32)) G.x G.b dX5_put_4 (by decide) ?_
  refine lv_icmp_ne (tgt := 22) G.x G.b dX5_put_6 (by decide) (fun c1 => ?_) (fun c1 => ?_)
  · have h := z_ifn c1 h
    refine lv_aload_n G.x G.b dX5_put_22 rfl (lv_at hl 0 rfl) ?_
    refine z_get (v := .int (M0.1 q 1)) (k := q) G hH.1 (cCs hw hq) vc5 inU5 1 (by decide) u178 rfl dX5_put_23 ?_
    refine lv_bipush (v := (16 : Int32)) G.x G.b dX5_put_26 (by decide) ?_
    refine lv_icmp_ne (tgt := 44) G.x G.b dX5_put_28 (by decide) (fun c2 => ?_) (fun c2 => ?_)
    · have h := z_ifn c2 h
      refine lv_aload_n G.x G.b dX5_put_44 rfl (lv_at hl 0 rfl) ?_
      refine z_get (v := .ref (za w (q + 1))) (k := q) G hH.1 (cCs hw hq) vc5 inU5 0 (by decide) u176 rfl dX5_put_45 ?_
      refine lv_iload_n G.x G.b dX5_put_48 rfl (lv_at hl 1 rfl) ?_
      refine lv_lload_n G.x G.b dX5_put_49 rfl (lv_at hl 2 rfl) ?_
      obtain ⟨j3, ej3, h⟩ := z_bind h
      obtain ⟨M4, eM4, h⟩ := z_let h
      refine z_lastN (k := (q + 1)) G hH (cCs1 hw hq) ej3 dX5_put_50 eM4 (fun H locs hH => ?_)
      exact z_retV G hr hlk hH h dX5_put_51
    · have h := z_if c2 h
      refine lv_aload_n G.x G.b dX5_put_31 rfl (lv_at hl 0 rfl) ?_
      refine z_get (v := .ref (za w (q + 1))) (k := q) G hH.1 (cCs hw hq) vc5 inU5 0 (by decide) u176 rfl dX5_put_32 ?_
      refine lv_iload_n G.x G.b dX5_put_35 rfl (lv_at hl 1 rfl) ?_
      refine lv_lload_n G.x G.b dX5_put_36 rfl (lv_at hl 2 rfl) ?_
      refine lv_l2i (v := a2.toInt32) G.x G.b dX5_put_37 rfl ?_
      refine lv_i2s (v := a2.toInt32.toInt16.toInt32) G.x G.b dX5_put_38 rfl ?_
      refine lv_i2l (v := a2.toInt32.toInt16.toInt32.toInt64) G.x G.b dX5_put_39 rfl ?_
      obtain ⟨j5, ej5, h⟩ := z_bind h
      obtain ⟨M6, eM6, h⟩ := z_let h
      refine z_lastN (k := (q + 1)) G hH (cCs1 hw hq) ej5 dX5_put_40 eM6 (fun H locs hH => ?_)
      refine lv_goto (tgt := 51) G.x G.b dX5_put_41 (by decide) ?_
      exact z_retV G hr hlk hH h dX5_put_51
  · have h := z_if c1 h
    refine lv_aload_n G.x G.b dX5_put_9 rfl (lv_at hl 0 rfl) ?_
    refine z_get (v := .ref (za w (q + 1))) (k := q) G hH.1 (cCs hw hq) vc5 inU5 0 (by decide) u176 rfl dX5_put_10 ?_
    refine lv_iload_n G.x G.b dX5_put_13 rfl (lv_at hl 1 rfl) ?_
    refine lv_lload_n G.x G.b dX5_put_14 rfl (lv_at hl 2 rfl) ?_
    refine lv_l2i (v := a2.toInt32) G.x G.b dX5_put_15 rfl ?_
    refine lv_i2b (v := a2.toInt32.toInt8.toInt32) G.x G.b dX5_put_16 rfl ?_
    refine lv_i2l (v := a2.toInt32.toInt8.toInt32.toInt64) G.x G.b dX5_put_17 rfl ?_
    obtain ⟨j7, ej7, h⟩ := z_bind h
    obtain ⟨M8, eM8, h⟩ := z_let h
    refine z_lastN (k := (q + 1)) G hH (cCs1 hw hq) ej7 dX5_put_18 eM8 (fun H locs hH => ?_)
    refine lv_goto (tgt := 51) G.x G.b dX5_put_19 (by decide) ?_
    exact z_retV G hr hlk hH h dX5_put_51
def fX5_hasSpan (M0 : zM) (q : Nat) (a1 : Int32) (a2 : Int32) : Option Int32 :=
  if a1 < (0 : Int32) then (zbl (0 : Int32)) else (if a2 < (0 : Int32) then (zbl (0 : Int32)) else (if (M0.1 q 2) < a2 then (zbl (0 : Int32)) else (if ((M0.1 q 2) - a2) < a1 then (zbl (0 : Int32)) else (zbl (1 : Int32)))))
abbrev rX5_hasSpan : Room := { frames := 0, cells := 0, slots := 0, locals := 0 }
theorem arX5_hasSpan : zAr yX5_hasSpan RX5 2 := ⟨rfl, by decide, by decide, by decide +kernel⟩
set_option maxHeartbeats 4000000 in
theorem kX5_hasSpan (l : Launch) {w : zWd} (hw : zIsC w) {q : Nat} (hq : zS q) {M0 : zM} {a1 : Int32} {a2 : Int32} {r : Int32} (h : fX5_hasSpan M0 q a1 a2 = some r) : Met l yX5_hasSpan (Cond.code yX5_hasSpan cX5_hasSpan 3 (some .boolean) :: zU) rX5_hasSpan (zPre w M0 [.ref (za w q), .int a1, .int a2]) (zR (some (.int r))) 0 0 zNo := by
  refine z_metN (own := RX5) (lv := [(0, .ref (za w q)), (1, .int a1), (2, .int a2)]) hw.1 (by decide) (Nat.le_of_ble_eq_true rfl) rfl rfl ?_
  intro p e s m args below meth c G hr hlk hH ls hl
  unfold fX5_hasSpan at h
  refine lv_iload_n G.x G.b dX5_hasSpan_0 rfl (lv_at hl 1 rfl) ?_
  refine lv_if_lt (tgt := 30) G.x G.b dX5_hasSpan_1 (by decide) (fun c1 => ?_) (fun c1 => ?_)
  · have h := z_if c1 h
    refine lv_iconst (v := (0 : Int32)) G.x G.b dX5_hasSpan_30 (by decide) ?_
    exact z_rtZ G hr hlk h dX5_hasSpan_31
  · have h := z_ifn c1 h
    refine lv_iload_n G.x G.b dX5_hasSpan_4 rfl (lv_at hl 2 rfl) ?_
    refine lv_if_lt (tgt := 30) G.x G.b dX5_hasSpan_5 (by decide) (fun c2 => ?_) (fun c2 => ?_)
    · have h := z_if c2 h
      refine lv_iconst (v := (0 : Int32)) G.x G.b dX5_hasSpan_30 (by decide) ?_
      exact z_rtZ G hr hlk h dX5_hasSpan_31
    · have h := z_ifn c2 h
      refine lv_iload_n G.x G.b dX5_hasSpan_8 rfl (lv_at hl 2 rfl) ?_
      refine lv_aload_n G.x G.b dX5_hasSpan_9 rfl (lv_at hl 0 rfl) ?_
      refine z_get (v := .int (M0.1 q 2)) (k := q) G hH.1 (cCs hw hq) vc5 inU5 2 (by decide) u180 rfl dX5_hasSpan_10 ?_
      refine lv_icmp_gt (tgt := 30) G.x G.b dX5_hasSpan_13 (by decide) (fun c3 => ?_) (fun c3 => ?_)
      · have h := z_if c3 h
        refine lv_iconst (v := (0 : Int32)) G.x G.b dX5_hasSpan_30 (by decide) ?_
        exact z_rtZ G hr hlk h dX5_hasSpan_31
      · have h := z_ifn c3 h
        refine lv_iload_n G.x G.b dX5_hasSpan_16 rfl (lv_at hl 1 rfl) ?_
        refine lv_aload_n G.x G.b dX5_hasSpan_17 rfl (lv_at hl 0 rfl) ?_
        refine z_get (v := .int (M0.1 q 2)) (k := q) G hH.1 (cCs hw hq) vc5 inU5 2 (by decide) u180 rfl dX5_hasSpan_18 ?_
        refine lv_iload_n G.x G.b dX5_hasSpan_21 rfl (lv_at hl 2 rfl) ?_
        refine lv_isub G.x G.b dX5_hasSpan_22 ?_
        refine lv_icmp_gt (tgt := 30) G.x G.b dX5_hasSpan_23 (by decide) (fun c4 => ?_) (fun c4 => ?_)
        · have h := z_if c4 h
          refine lv_iconst (v := (0 : Int32)) G.x G.b dX5_hasSpan_30 (by decide) ?_
          exact z_rtZ G hr hlk h dX5_hasSpan_31
        · have h := z_ifn c4 h
          refine lv_iconst (v := (1 : Int32)) G.x G.b dX5_hasSpan_26 (by decide) ?_
          refine lv_goto (tgt := 31) G.x G.b dX5_hasSpan_27 (by decide) ?_
          exact z_rtZ G hr hlk h dX5_hasSpan_31
