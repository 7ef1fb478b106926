def fX10_in (a1 : Int64) (a2 : Int64) (a3 : Int64) : Option Int32 :=
  if (lg_cmp a1 a2) < (0 : Int32) then (zbl (0 : Int32)) else (if (0 : Int32) < (lg_cmp a1 a3) then (zbl (0 : Int32)) else (zbl (1 : Int32)))
abbrev rX10_in : Room := { frames := 0, cells := 0, slots := 0, locals := 0 }
theorem arX10_in : zAr yX10_in RX10 3 := ⟨rfl, by decide, by decide, by decide +kernel⟩
set_option maxHeartbeats 4000000 in
theorem kX10_in (l : Launch) {w : zWd} (ho : zOk w) {M0 : zM} {a1 : Int64} {a2 : Int64} {a3 : Int64} {r : Int32} (h : fX10_in a1 a2 a3 = some r) : Met l yX10_in (Cond.code yX10_in cX10_in 6 (some .boolean) :: zU) rX10_in (zPre w M0 [.long a1, .long a2, .long a3]) (zR (some (.int r))) 0 0 zNo := by
  refine z_metN (own := RX10) (lv := [(0, .long a1), (2, .long a2), (4, .long a3)]) ho (by decide) (Nat.le_of_ble_eq_true rfl) rfl rfl ?_
  intro p e s m args below meth c G hr hlk hH ls hl
  unfold fX10_in at h
  refine lv_lload_n G.x G.b dX10_in_0 rfl (lv_at hl 0 rfl) ?_
  refine lv_lload_n G.x G.b dX10_in_1 rfl (lv_at hl 1 rfl) ?_
  refine W.lcmp G.x G.b dX10_in_2 ?_
  refine lv_if_lt (tgt := 17) G.x G.b dX10_in_3 (by decide) (fun c1 => ?_) (fun c1 => ?_)
  · have h := z_if c1 h
    refine lv_iconst (v := (0 : Int32)) G.x G.b dX10_in_17 (by decide) ?_
    exact z_rtZ G hr hlk h dX10_in_18
  · have h := z_ifn c1 h
    refine lv_lload_n G.x G.b dX10_in_6 rfl (lv_at hl 0 rfl) ?_
    refine lv_lload G.x G.b dX10_in_7 (lv_at hl 2 rfl) ?_
    refine W.lcmp G.x G.b dX10_in_9 ?_
    refine lv_if_gt (tgt := 17) G.x G.b dX10_in_10 (by decide) (fun c2 => ?_) (fun c2 => ?_)
    · have h := z_if c2 h
      refine lv_iconst (v := (0 : Int32)) G.x G.b dX10_in_17 (by decide) ?_
      exact z_rtZ G hr hlk h dX10_in_18
    · have h := z_ifn c2 h
      refine lv_iconst (v := (1 : Int32)) G.x G.b dX10_in_13 (by decide) ?_
      refine lv_goto (tgt := 18) G.x G.b dX10_in_14 (by decide) ?_
      exact z_rtZ G hr hlk h dX10_in_18
def fX10_finds (M0 : zM) (a1 : Int32) : Option (Int32 × zM) :=
  (some ((-1000000001 : Int32) - a1)).bind fun x1 =>
  (zix x1 7).bind fun j2 =>
  (zix x1 7).bind fun j3 =>
  (some (zst M0 5 j3 ((M0.1 5 j2) + (1 : Int32)))).bind fun M4 =>
  some (a1, M4)
abbrev rX10_finds : Room := { frames := 0, cells := 0, slots := 0, locals := 0 }
theorem arX10_finds : zAr yX10_finds RX10 1 := ⟨rfl, by decide, by decide, by decide +kernel⟩
set_option maxHeartbeats 4000000 in
theorem kX10_finds (l : Launch) {w : zWd} (hw : zIsM w) {M0 M' : zM} {a1 : Int32} {r : Int32} (h : fX10_finds M0 a1 = some (r, M')) : Met l yX10_finds (Cond.code yX10_finds cX10_finds 2 (some .int) :: zU) rX10_finds (zPre w M0 [.ref (za w 0), .int a1]) (zQ w (some (.int r)) M') 0 0 (zA w) := by
  refine z_metN (own := RX10) (lv := [(0, .ref (za w 0)), (1, .int a1)]) hw.1 (by decide) (Nat.le_of_ble_eq_true rfl) rfl rfl ?_
  intro p e s m args below meth c G hr hlk hH ls hl
  unfold fX10_finds at h
  refine lv_aload_n G.x G.b dX10_finds_0 rfl (lv_at hl 0 rfl) ?_
  refine z_get (v := .ref (za w 5)) (k := 0) G hH.1 (mM0 hw) vc10 inU10 4 (by decide) u771 rfl dX10_finds_1 ?_
  refine lv_ldc G.x G.b G.o (G.t u833) dX10_finds_4 ?_
  refine lv_iload_n G.x G.b dX10_finds_6 rfl (lv_at hl 1 rfl) ?_
  refine lv_isub G.x G.b dX10_finds_7 ?_
  obtain ⟨x1, ex1, h⟩ := z_let h
  refine z_nmI ex1 ?_
  refine lv_dup2_11 G.x G.b dX10_finds_8 rfl rfl ?_
  obtain ⟨j2, ej2, h⟩ := z_bind h
  refine z_iald (k := 5) G hH.1 (mM5 hw) ej2 dX10_finds_9 ?_
  refine lv_iconst (v := (1 : Int32)) G.x G.b dX10_finds_10 (by decide) ?_
  refine lv_iadd G.x G.b dX10_finds_11 ?_
  obtain ⟨j3, ej3, h⟩ := z_bind h
  obtain ⟨M4, eM4, h⟩ := z_let h
  refine z_iastN (k := 5) G hH (mM5 hw) ej3 dX10_finds_12 eM4 (fun H locs hH => ?_)
  refine lv_iload_n G.x G.b dX10_finds_13 rfl (lv_at hl 1 rfl) ?_
  exact z_retI G hr hlk hH h dX10_finds_14
def bX10_saves_2 (E26_2 : zM → Option zM) (rc5 : zM → Int32 → Option zM) (M3 : zM) (x4 : Int32) : Option zM :=
  if (59 : Int32) ≤ x4 then (E26_2 M3) else ((zix x4 59).bind fun j7 =>
  (zix x4 59).bind fun j8 =>
  (some (zst M3 3 j8 (M3.1 1 j7))).bind fun M9 =>
  (some (x4 + (1 : Int32))).bind fun x10 =>
  rc5 M9 x10)
def lX10_saves_2 (E26_2 : zM → Option zM) : Nat → zM → Int32 → Option zM := zL2 (bX10_saves_2 E26_2)
def fX10_saves (M0 : zM) : Option zM :=
  zj (fun (M1 : zM) =>
  some M1) fun E26_2 =>
  lX10_saves_2 E26_2 zFuel M0 (0 : Int32)
abbrev rX10_saves : Room := { frames := 0, cells := 0, slots := 0, locals := 0 }
theorem arX10_saves : zAr yX10_saves RX10 0 := ⟨rfl, by decide, by decide, by decide +kernel⟩
set_option maxHeartbeats 4000000 in
theorem kX10_saves (l : Launch) {w : zWd} (hw : zIsM w) {M0 M' : zM} (h : fX10_saves M0 = some M') : Met l yX10_saves (Cond.code yX10_saves cX10_saves 2 (none) :: zU) rX10_saves (zPre w M0 [.ref (za w 0)]) (zQ w (none) M') 0 0 (zA w) := by
  refine z_metN (own := RX10) (lv := [(0, .ref (za w 0))]) hw.1 (by decide) (Nat.le_of_ble_eq_true rfl) rfl rfl ?_
  intro p e s m args below meth c G hr hlk hH ls hl
  unfold fX10_saves at h
  refine lv_iconst (v := (0 : Int32)) G.x G.b dX10_saves_0 (by decide) ?_
  refine lv_istore_n (lv' := [(1, .int (0 : Int32)), (0, .ref (za w 0))]) G.x G.b dX10_saves_1 rfl hl (Nat.le_of_ble_eq_true rfl) rfl (fun ls hl => ?_)
  obtain ⟨E26_2, hE26_2, h⟩ := z_j h
  have kE26_2 : ∀ (M1 : zM) (H : Heap) (locs : List Loc) (ls : Array Slot), E26_2 M1 = some M' → zH w s M1 H locs → lv_has ls 2 [] → zGo p l e rX10_saves s m args below meth c (zQ w (none) M') (zA w) H locs (F0 m 26 ls []) := by
    intro M1 H locs ls h hH hl
    rw [hE26_2] at h
    exact z_retV G hr hlk hH h dX10_saves_26
  have n5 : ∀ (n : Nat) (M3 : zM) (x4 : Int32) (H : Heap) (locs : List Loc) (ls : Array Slot), zL2 (bX10_saves_2 E26_2) n M3 x4 = some M' → zH w s M3 H locs → lv_has ls 2 [(0, .ref (za w 0)), (1, .int x4)] → zGo p l e rX10_saves s m args below meth c (zQ w (none) M') (zA w) H locs (F0 m 2 ls []) := by
    intro n
    induction n with
    | zero => intro M3 x4 H locs ls h; exact (zL2_0 h).elim
    | succ n ih5 =>
      intro M3 x4 H locs ls h hH hl
      obtain ⟨rc5, hrc5, h⟩ := zL2_s h
      rw [← hrc5] at ih5
      unfold bX10_saves_2 at h
      refine lv_iload_n G.x G.b dX10_saves_2 rfl (lv_at hl 1 rfl) ?_
      refine lv_bipush (v := (59 : Int32)) G.x G.b dX10_saves_3 (by decide) ?_
      refine lv_icmp_ge (tgt := 26) G.x G.b dX10_saves_5 (by decide) (fun c6 => ?_) (fun c6 => ?_)
      · have h := z_if c6 h
        exact kE26_2 M3 H locs ls h hH (lv_sub hl [] rfl)
      · have h := z_ifn c6 h
        refine lv_aload_n G.x G.b dX10_saves_8 rfl (lv_at hl 0 rfl) ?_
        refine z_get (v := .ref (za w 3)) (k := 0) G hH.1 (mM0 hw) vc10 inU10 2 (by decide) u769 rfl dX10_saves_9 ?_
        refine lv_iload_n G.x G.b dX10_saves_12 rfl (lv_at hl 1 rfl) ?_
        refine lv_aload_n G.x G.b dX10_saves_13 rfl (lv_at hl 0 rfl) ?_
        refine z_get (v := .ref (za w 1)) (k := 0) G hH.1 (mM0 hw) vc10 inU10 0 (by decide) u767 rfl dX10_saves_14 ?_
        refine lv_iload_n G.x G.b dX10_saves_17 rfl (lv_at hl 1 rfl) ?_
        obtain ⟨j7, ej7, h⟩ := z_bind h
        refine z_iald (k := 1) G hH.1 (mM1 hw) ej7 dX10_saves_18 ?_
        obtain ⟨j8, ej8, h⟩ := z_bind h
        obtain ⟨M9, eM9, h⟩ := z_let h
        refine z_iastN (k := 3) G hH (mM3 hw) ej8 dX10_saves_19 eM9 (fun H locs hH => ?_)
        obtain ⟨x10, ex10, h⟩ := z_let h
        refine lv_iinc (v := x10) (lv' := [(1, .int x10), (0, .ref (za w 0))]) G.x G.b dX10_saves_20 hl (k := 1) rfl (by rw [ex10]; rfl) (Nat.le_of_ble_eq_true rfl) rfl (fun ls hl => ?_)
        refine lv_goto (tgt := 2) G.x G.b dX10_saves_23 (by decide) ?_
        exact ih5 M9 x10 H locs ls h hH (lv_sub hl [1, 0] rfl)
  exact n5 zFuel M0 (0 : Int32) s.heap [] ls h hH (lv_sub hl [1, 0] rfl)
def bX10_putsBack_2 (E26_2 : zM → Option zM) (rc5 : zM → Int32 → Option zM) (M3 : zM) (x4 : Int32) : Option zM :=
  if (59 : Int32) ≤ x4 then (E26_2 M3) else ((zix x4 59).bind fun j7 =>
  (zix x4 59).bind fun j8 =>
  (some (zst M3 1 j8 (M3.1 3 j7))).bind fun M9 =>
  (some (x4 + (1 : Int32))).bind fun x10 =>
  rc5 M9 x10)
def lX10_putsBack_2 (E26_2 : zM → Option zM) : Nat → zM → Int32 → Option zM := zL2 (bX10_putsBack_2 E26_2)
def fX10_putsBack (M0 : zM) : Option zM :=
  zj (fun (M1 : zM) =>
  some M1) fun E26_2 =>
  lX10_putsBack_2 E26_2 zFuel M0 (0 : Int32)
abbrev rX10_putsBack : Room := { frames := 0, cells := 0, slots := 0, locals := 0 }
theorem arX10_putsBack : zAr yX10_putsBack RX10 0 := ⟨rfl, by decide, by decide, by decide +kernel⟩
set_option maxHeartbeats 4000000 in
theorem kX10_putsBack (l : Launch) {w : zWd} (hw : zIsM w) {M0 M' : zM} (h : fX10_putsBack M0 = some M') : Met l yX10_putsBack (Cond.code yX10_putsBack cX10_putsBack 2 (none) :: zU) rX10_putsBack (zPre w M0 [.ref (za w 0)]) (zQ w (none) M') 0 0 (zA w) := by
  refine z_metN (own := RX10) (lv := [(0, .ref (za w 0))]) hw.1 (by decide) (Nat.le_of_ble_eq_true rfl) rfl rfl ?_
  intro p e s m args below meth c G hr hlk hH ls hl
  unfold fX10_putsBack at h
  refine lv_iconst (v := (0 : Int32)) G.x G.b dX10_putsBack_0 (by decide) ?_
  refine lv_istore_n (lv' := [(1, .int (0 : Int32)), (0, .ref (za w 0))]) G.x G.b dX10_putsBack_1 rfl hl (Nat.le_of_ble_eq_true rfl) rfl (fun ls hl => ?_)
  obtain ⟨E26_2, hE26_2, h⟩ := z_j h
  have kE26_2 : ∀ (M1 : zM) (H : Heap) (locs : List Loc) (ls : Array Slot), E26_2 M1 = some M' → zH w s M1 H locs → lv_has ls 2 [] → zGo p l e rX10_putsBack s m args below meth c (zQ w (none) M') (zA w) H locs (F0 m 26 ls []) := by
    intro M1 H locs ls h hH hl
    rw [hE26_2] at h
    exact z_retV G hr hlk hH h dX10_putsBack_26
  have n5 : ∀ (n : Nat) (M3 : zM) (x4 : Int32) (H : Heap) (locs : List Loc) (ls : Array Slot), zL2 (bX10_putsBack_2 E26_2) n M3 x4 = some M' → zH w s M3 H locs → lv_has ls 2 [(0, .ref (za w 0)), (1, .int x4)] → zGo p l e rX10_putsBack s m args below meth c (zQ w (none) M') (zA w) H locs (F0 m 2 ls []) := by
    intro n
    induction n with
    | zero => intro M3 x4 H locs ls h; exact (zL2_0 h).elim
    | succ n ih5 =>
      intro M3 x4 H locs ls h hH hl
      obtain ⟨rc5, hrc5, h⟩ := zL2_s h
      rw [← hrc5] at ih5
      unfold bX10_putsBack_2 at h
      refine lv_iload_n G.x G.b dX10_putsBack_2 rfl (lv_at hl 1 rfl) ?_
      refine lv_bipush (v := (59 : Int32)) G.x G.b dX10_putsBack_3 (by decide) ?_
      refine lv_icmp_ge (tgt := 26) G.x G.b dX10_putsBack_5 (by decide) (fun c6 => ?_) (fun c6 => ?_)
      · have h := z_if c6 h
        exact kE26_2 M3 H locs ls h hH (lv_sub hl [] rfl)
      · have h := z_ifn c6 h
        refine lv_aload_n G.x G.b dX10_putsBack_8 rfl (lv_at hl 0 rfl) ?_
        refine z_get (v := .ref (za w 1)) (k := 0) G hH.1 (mM0 hw) vc10 inU10 0 (by decide) u767 rfl dX10_putsBack_9 ?_
        refine lv_iload_n G.x G.b dX10_putsBack_12 rfl (lv_at hl 1 rfl) ?_
        refine lv_aload_n G.x G.b dX10_putsBack_13 rfl (lv_at hl 0 rfl) ?_
        refine z_get (v := .ref (za w 3)) (k := 0) G hH.1 (mM0 hw) vc10 inU10 2 (by decide) u769 rfl dX10_putsBack_14 ?_
        refine lv_iload_n G.x G.b dX10_putsBack_17 rfl (lv_at hl 1 rfl) ?_
        obtain ⟨j7, ej7, h⟩ := z_bind h
        refine z_iald (k := 3) G hH.1 (mM3 hw) ej7 dX10_putsBack_18 ?_
        obtain ⟨j8, ej8, h⟩ := z_bind h
        obtain ⟨M9, eM9, h⟩ := z_let h
        refine z_iastN (k := 1) G hH (mM1 hw) ej8 dX10_putsBack_19 eM9 (fun H locs hH => ?_)
        obtain ⟨x10, ex10, h⟩ := z_let h
        refine lv_iinc (v := x10) (lv' := [(1, .int x10), (0, .ref (za w 0))]) G.x G.b dX10_putsBack_20 hl (k := 1) rfl (by rw [ex10]; rfl) (Nat.le_of_ble_eq_true rfl) rfl (fun ls hl => ?_)
        refine lv_goto (tgt := 2) G.x G.b dX10_putsBack_23 (by decide) ?_
        exact ih5 M9 x10 H locs ls h hH (lv_sub hl [1, 0] rfl)
  exact n5 zFuel M0 (0 : Int32) s.heap [] ls h hH (lv_sub hl [1, 0] rfl)
def bX10_laysAside_2 (E26_2 : zM → Option zM) (rc5 : zM → Int32 → Option zM) (M3 : zM) (x4 : Int32) : Option zM :=
  if (59 : Int32) ≤ x4 then (E26_2 M3) else ((zix x4 59).bind fun j7 =>
  (zix x4 59).bind fun j8 =>
  (some (zst M3 4 j8 (M3.1 1 j7))).bind fun M9 =>
  (some (x4 + (1 : Int32))).bind fun x10 =>
  rc5 M9 x10)
def lX10_laysAside_2 (E26_2 : zM → Option zM) : Nat → zM → Int32 → Option zM := zL2 (bX10_laysAside_2 E26_2)
def fX10_laysAside (M0 : zM) : Option zM :=
  zj (fun (M1 : zM) =>
  some M1) fun E26_2 =>
  lX10_laysAside_2 E26_2 zFuel M0 (0 : Int32)
abbrev rX10_laysAside : Room := { frames := 0, cells := 0, slots := 0, locals := 0 }
theorem arX10_laysAside : zAr yX10_laysAside RX10 0 := ⟨rfl, by decide, by decide, by decide +kernel⟩
set_option maxHeartbeats 4000000 in
theorem kX10_laysAside (l : Launch) {w : zWd} (hw : zIsM w) {M0 M' : zM} (h : fX10_laysAside M0 = some M') : Met l yX10_laysAside (Cond.code yX10_laysAside cX10_laysAside 2 (none) :: zU) rX10_laysAside (zPre w M0 [.ref (za w 0)]) (zQ w (none) M') 0 0 (zA w) := by
  refine z_metN (own := RX10) (lv := [(0, .ref (za w 0))]) hw.1 (by decide) (Nat.le_of_ble_eq_true rfl) rfl rfl ?_
  intro p e s m args below meth c G hr hlk hH ls hl
  unfold fX10_laysAside at h
  refine lv_iconst (v := (0 : Int32)) G.x G.b dX10_laysAside_0 (by decide) ?_
  refine lv_istore_n (lv' := [(1, .int (0 : Int32)), (0, .ref (za w 0))]) G.x G.b dX10_laysAside_1 rfl hl (Nat.le_of_ble_eq_true rfl) rfl (fun ls hl => ?_)
  obtain ⟨E26_2, hE26_2, h⟩ := z_j h
  have kE26_2 : ∀ (M1 : zM) (H : Heap) (locs : List Loc) (ls : Array Slot), E26_2 M1 = some M' → zH w s M1 H locs → lv_has ls 2 [] → zGo p l e rX10_laysAside s m args below meth c (zQ w (none) M') (zA w) H locs (F0 m 26 ls []) := by
    intro M1 H locs ls h hH hl
    rw [hE26_2] at h
    exact z_retV G hr hlk hH h dX10_laysAside_26
  have n5 : ∀ (n : Nat) (M3 : zM) (x4 : Int32) (H : Heap) (locs : List Loc) (ls : Array Slot), zL2 (bX10_laysAside_2 E26_2) n M3 x4 = some M' → zH w s M3 H locs → lv_has ls 2 [(0, .ref (za w 0)), (1, .int x4)] → zGo p l e rX10_laysAside s m args below meth c (zQ w (none) M') (zA w) H locs (F0 m 2 ls []) := by
    intro n
    induction n with
    | zero => intro M3 x4 H locs ls h; exact (zL2_0 h).elim
    | succ n ih5 =>
      intro M3 x4 H locs ls h hH hl
      obtain ⟨rc5, hrc5, h⟩ := zL2_s h
      rw [← hrc5] at ih5
      unfold bX10_laysAside_2 at h
      refine lv_iload_n G.x G.b dX10_laysAside_2 rfl (lv_at hl 1 rfl) ?_
      refine lv_bipush (v := (59 : Int32)) G.x G.b dX10_laysAside_3 (by decide) ?_
      refine lv_icmp_ge (tgt := 26) G.x G.b dX10_laysAside_5 (by decide) (fun c6 => ?_) (fun c6 => ?_)
      · have h := z_if c6 h
        exact kE26_2 M3 H locs ls h hH (lv_sub hl [] rfl)
      · have h := z_ifn c6 h
        refine lv_aload_n G.x G.b dX10_laysAside_8 rfl (lv_at hl 0 rfl) ?_
        refine z_get (v := .ref (za w 4)) (k := 0) G hH.1 (mM0 hw) vc10 inU10 3 (by decide) u770 rfl dX10_laysAside_9 ?_
        refine lv_iload_n G.x G.b dX10_laysAside_12 rfl (lv_at hl 1 rfl) ?_
        refine lv_aload_n G.x G.b dX10_laysAside_13 rfl (lv_at hl 0 rfl) ?_
        refine z_get (v := .ref (za w 1)) (k := 0) G hH.1 (mM0 hw) vc10 inU10 0 (by decide) u767 rfl dX10_laysAside_14 ?_
        refine lv_iload_n G.x G.b dX10_laysAside_17 rfl (lv_at hl 1 rfl) ?_
        obtain ⟨j7, ej7, h⟩ := z_bind h
        refine z_iald (k := 1) G hH.1 (mM1 hw) ej7 dX10_laysAside_18 ?_
        obtain ⟨j8, ej8, h⟩ := z_bind h
        obtain ⟨M9, eM9, h⟩ := z_let h
        refine z_iastN (k := 4) G hH (mM4 hw) ej8 dX10_laysAside_19 eM9 (fun H locs hH => ?_)
        obtain ⟨x10, ex10, h⟩ := z_let h
        refine lv_iinc (v := x10) (lv' := [(1, .int x10), (0, .ref (za w 0))]) G.x G.b dX10_laysAside_20 hl (k := 1) rfl (by rw [ex10]; rfl) (Nat.le_of_ble_eq_true rfl) rfl (fun ls hl => ?_)
        refine lv_goto (tgt := 2) G.x G.b dX10_laysAside_23 (by decide) ?_
        exact ih5 M9 x10 H locs ls h hH (lv_sub hl [1, 0] rfl)
  exact n5 zFuel M0 (0 : Int32) s.heap [] ls h hH (lv_sub hl [1, 0] rfl)
def bX10_takesBack_2 (E26_2 : zM → Option (Int32 × zM)) (rc5 : zM → Int32 → Option (Int32 × zM)) (M3 : zM) (x4 : Int32) : Option (Int32 × zM) :=
  if (59 : Int32) ≤ x4 then (E26_2 M3) else ((zix x4 59).bind fun j7 =>
  (zix x4 59).bind fun j8 =>
  (some (zst M3 1 j8 (M3.1 4 j7))).bind fun M9 =>
  (some (x4 + (1 : Int32))).bind fun x10 =>
  rc5 M9 x10)
def lX10_takesBack_2 (E26_2 : zM → Option (Int32 × zM)) : Nat → zM → Int32 → Option (Int32 × zM) := zL2 (bX10_takesBack_2 E26_2)
def fX10_takesBack (M0 : zM) (a1 : Int32) : Option (Int32 × zM) :=
  zj (fun (M1 : zM) =>
  some (a1, M1)) fun E26_2 =>
  lX10_takesBack_2 E26_2 zFuel M0 (0 : Int32)
abbrev rX10_takesBack : Room := { frames := 0, cells := 0, slots := 0, locals := 0 }
theorem arX10_takesBack : zAr yX10_takesBack RX10 1 := ⟨rfl, by decide, by decide, by decide +kernel⟩
set_option maxHeartbeats 4000000 in
theorem kX10_takesBack (l : Launch) {w : zWd} (hw : zIsM w) {M0 M' : zM} {a1 : Int32} {r : Int32} (h : fX10_takesBack M0 a1 = some (r, M')) : Met l yX10_takesBack (Cond.code yX10_takesBack cX10_takesBack 3 (some .int) :: zU) rX10_takesBack (zPre w M0 [.ref (za w 0), .int a1]) (zQ w (some (.int r)) M') 0 0 (zA w) := by
  refine z_metN (own := RX10) (lv := [(0, .ref (za w 0)), (1, .int a1)]) hw.1 (by decide) (Nat.le_of_ble_eq_true rfl) rfl rfl ?_
  intro p e s m args below meth c G hr hlk hH ls hl
  unfold fX10_takesBack at h
  refine lv_iconst (v := (0 : Int32)) G.x G.b dX10_takesBack_0 (by decide) ?_
  refine lv_istore_n (lv' := [(2, .int (0 : Int32)), (0, .ref (za w 0)), (1, .int a1)]) G.x G.b dX10_takesBack_1 rfl hl (Nat.le_of_ble_eq_true rfl) rfl (fun ls hl => ?_)
  obtain ⟨E26_2, hE26_2, h⟩ := z_j h
  have kE26_2 : ∀ (M1 : zM) (H : Heap) (locs : List Loc) (ls : Array Slot), E26_2 M1 = some (r, M') → zH w s M1 H locs → lv_has ls 3 [(1, .int a1)] → zGo p l e rX10_takesBack s m args below meth c (zQ w (some (.int r)) M') (zA w) H locs (F0 m 26 ls []) := by
    intro M1 H locs ls h hH hl
    rw [hE26_2] at h
    refine lv_iload_n G.x G.b dX10_takesBack_26 rfl (lv_at hl 0 rfl) ?_
    exact z_retI G hr hlk hH h dX10_takesBack_27
  have n5 : ∀ (n : Nat) (M3 : zM) (x4 : Int32) (H : Heap) (locs : List Loc) (ls : Array Slot), zL2 (bX10_takesBack_2 E26_2) n M3 x4 = some (r, M') → zH w s M3 H locs → lv_has ls 3 [(0, .ref (za w 0)), (1, .int a1), (2, .int x4)] → zGo p l e rX10_takesBack s m args below meth c (zQ w (some (.int r)) M') (zA w) H locs (F0 m 2 ls []) := by
    intro n
    induction n with
    | zero => intro M3 x4 H locs ls h; exact (zL2_0 h).elim
    | succ n ih5 =>
      intro M3 x4 H locs ls h hH hl
      obtain ⟨rc5, hrc5, h⟩ := zL2_s h
      rw [← hrc5] at ih5
      unfold bX10_takesBack_2 at h
      refine lv_iload_n G.x G.b dX10_takesBack_2 rfl (lv_at hl 2 rfl) ?_
      refine lv_bipush (v := (59 : Int32)) G.x G.b dX10_takesBack_3 (by decide) ?_
      refine lv_icmp_ge (tgt := 26) G.x G.b dX10_takesBack_5 (by decide) (fun c6 => ?_) (fun c6 => ?_)
      · have h := z_if c6 h
        exact kE26_2 M3 H locs ls h hH (lv_sub hl [1] rfl)
      · have h := z_ifn c6 h
        refine lv_aload_n G.x G.b dX10_takesBack_8 rfl (lv_at hl 0 rfl) ?_
        refine z_get (v := .ref (za w 1)) (k := 0) G hH.1 (mM0 hw) vc10 inU10 0 (by decide) u767 rfl dX10_takesBack_9 ?_
        refine lv_iload_n G.x G.b dX10_takesBack_12 rfl (lv_at hl 2 rfl) ?_
        refine lv_aload_n G.x G.b dX10_takesBack_13 rfl (lv_at hl 0 rfl) ?_
        refine z_get (v := .ref (za w 4)) (k := 0) G hH.1 (mM0 hw) vc10 inU10 3 (by decide) u770 rfl dX10_takesBack_14 ?_
        refine lv_iload_n G.x G.b dX10_takesBack_17 rfl (lv_at hl 2 rfl) ?_
        obtain ⟨j7, ej7, h⟩ := z_bind h
        refine z_iald (k := 4) G hH.1 (mM4 hw) ej7 dX10_takesBack_18 ?_
        obtain ⟨j8, ej8, h⟩ := z_bind h
        obtain ⟨M9, eM9, h⟩ := z_let h
        refine z_iastN (k := 1) G hH (mM1 hw) ej8 dX10_takesBack_19 eM9 (fun H locs hH => ?_)
        obtain ⟨x10, ex10, h⟩ := z_let h
        refine lv_iinc (v := x10) (lv' := [(2, .int x10), (0, .ref (za w 0)), (1, .int a1)]) G.x G.b dX10_takesBack_20 hl (k := 2) rfl (by rw [ex10]; rfl) (Nat.le_of_ble_eq_true rfl) rfl (fun ls hl => ?_)
        refine lv_goto (tgt := 2) G.x G.b dX10_takesBack_23 (by decide) ?_
        exact ih5 M9 x10 H locs ls h hH (lv_sub hl [1, 2, 0] rfl)
  exact n5 zFuel M0 (0 : Int32) s.heap [] ls h hH (lv_sub hl [1, 2, 0] rfl)
def fX10_becomes (M0 : zM) (a1 : Int32) (a2 : Int32) : Option (Int32 × zM) :=
  (zix a1 59).bind fun j1 =>
  (some (M0.1 1 j1)).bind fun x2 =>
  (zix a1 59).bind fun j3 =>
  (some (zst M0 1 j3 a2)).bind fun M4 =>
  some (x2, M4)
abbrev rX10_becomes : Room := { frames := 0, cells := 0, slots := 0, locals := 0 }
theorem arX10_becomes : zAr yX10_becomes RX10 2 := ⟨rfl, by decide, by decide, by decide +kernel⟩
set_option maxHeartbeats 4000000 in
theorem kX10_becomes (l : Launch) {w : zWd} (hw : zIsM w) {M0 M' : zM} {a1 : Int32} {a2 : Int32} {r : Int32} (h : fX10_becomes M0 a1 a2 = some (r, M')) : Met l yX10_becomes (Cond.code yX10_becomes cX10_becomes 4 (some .int) :: zU) rX10_becomes (zPre w M0 [.ref (za w 0), .int a1, .int a2]) (zQ w (some (.int r)) M') 0 0 (zA w) := by
  refine z_metN (own := RX10) (lv := [(0, .ref (za w 0)), (1, .int a1), (2, .int a2)]) hw.1 (by decide) (Nat.le_of_ble_eq_true rfl) rfl rfl ?_
  intro p e s m args below meth c G hr hlk hH ls hl
  unfold fX10_becomes at h
  refine lv_aload_n G.x G.b dX10_becomes_0 rfl (lv_at hl 0 rfl) ?_
  refine z_get (v := .ref (za w 1)) (k := 0) G hH.1 (mM0 hw) vc10 inU10 0 (by decide) u767 rfl dX10_becomes_1 ?_
  refine lv_iload_n G.x G.b dX10_becomes_4 rfl (lv_at hl 1 rfl) ?_
  obtain ⟨j1, ej1, h⟩ := z_bind h
  refine z_iald (k := 1) G hH.1 (mM1 hw) ej1 dX10_becomes_5 ?_
  obtain ⟨x2, ex2, h⟩ := z_let h
  refine z_nmI ex2 ?_
  refine lv_istore_n (lv' := [(3, .int x2), (0, .ref (za w 0)), (1, .int a1), (2, .int a2)]) G.x G.b dX10_becomes_6 rfl hl (Nat.le_of_ble_eq_true rfl) rfl (fun ls hl => ?_)
  refine lv_aload_n G.x G.b dX10_becomes_7 rfl (lv_at hl 1 rfl) ?_
  refine z_get (v := .ref (za w 1)) (k := 0) G hH.1 (mM0 hw) vc10 inU10 0 (by decide) u767 rfl dX10_becomes_8 ?_
  refine lv_iload_n G.x G.b dX10_becomes_11 rfl (lv_at hl 2 rfl) ?_
  refine lv_iload_n G.x G.b dX10_becomes_12 rfl (lv_at hl 3 rfl) ?_
  obtain ⟨j3, ej3, h⟩ := z_bind h
  obtain ⟨M4, eM4, h⟩ := z_let h
  refine z_iastN (k := 1) G hH (mM1 hw) ej3 dX10_becomes_13 eM4 (fun H locs hH => ?_)
  refine lv_iload_n G.x G.b dX10_becomes_14 rfl (lv_at hl 0 rfl) ?_
  exact z_retI G hr hlk hH h dX10_becomes_15
def fX10_houseSpot (a1 : Int32) (a2 : Int32) : Option Int32 :=
  some (((3 : Int32) + ((2 : Int32) * a1)) + a2)
abbrev rX10_houseSpot : Room := { frames := 0, cells := 0, slots := 0, locals := 0 }
theorem arX10_houseSpot : zAr yX10_houseSpot RX10 2 := ⟨rfl, by decide, by decide, by decide +kernel⟩
set_option maxHeartbeats 4000000 in
theorem kX10_houseSpot (l : Launch) {w : zWd} (ho : zOk w) {M0 : zM} {a1 : Int32} {a2 : Int32} {r : Int32} (h : fX10_houseSpot a1 a2 = some r) : Met l yX10_houseSpot (Cond.code yX10_houseSpot cX10_houseSpot 2 (some .int) :: zU) rX10_houseSpot (zPre w M0 [.int a1, .int a2]) (zR (some (.int r))) 0 0 zNo := by
  refine z_metN (own := RX10) (lv := [(0, .int a1), (1, .int a2)]) ho (by decide) (Nat.le_of_ble_eq_true rfl) rfl rfl ?_
  intro p e s m args below meth c G hr hlk hH ls hl
  unfold fX10_houseSpot at h
  refine lv_iconst (v := (3 : Int32)) G.x G.b dX10_houseSpot_0 (by decide) ?_
  refine lv_iconst (v := (2 : Int32)) G.x G.b dX10_houseSpot_1 (by decide) ?_
  refine lv_iload_n G.x G.b dX10_houseSpot_2 rfl (lv_at hl 0 rfl) ?_
  refine lv_imul G.x G.b dX10_houseSpot_3 ?_
  refine lv_iadd G.x G.b dX10_houseSpot_4 ?_
  refine lv_iload_n G.x G.b dX10_houseSpot_5 rfl (lv_at hl 1 rfl) ?_
  refine lv_iadd G.x G.b dX10_houseSpot_6 ?_
  exact z_rtI G hr hlk h dX10_houseSpot_7
def fX10_beardSpot (a1 : Int32) (a2 : Int32) : Option Int32 :=
  some (((15 : Int32) + ((4 : Int32) * a1)) + a2)
abbrev rX10_beardSpot : Room := { frames := 0, cells := 0, slots := 0, locals := 0 }
theorem arX10_beardSpot : zAr yX10_beardSpot RX10 2 := ⟨rfl, by decide, by decide, by decide +kernel⟩
set_option maxHeartbeats 4000000 in
theorem kX10_beardSpot (l : Launch) {w : zWd} (ho : zOk w) {M0 : zM} {a1 : Int32} {a2 : Int32} {r : Int32} (h : fX10_beardSpot a1 a2 = some r) : Met l yX10_beardSpot (Cond.code yX10_beardSpot cX10_beardSpot 2 (some .int) :: zU) rX10_beardSpot (zPre w M0 [.int a1, .int a2]) (zR (some (.int r))) 0 0 zNo := by
  refine z_metN (own := RX10) (lv := [(0, .int a1), (1, .int a2)]) ho (by decide) (Nat.le_of_ble_eq_true rfl) rfl rfl ?_
  intro p e s m args below meth c G hr hlk hH ls hl
  unfold fX10_beardSpot at h
  refine lv_bipush (v := (15 : Int32)) G.x G.b dX10_beardSpot_0 (by decide) ?_
  refine lv_iconst (v := (4 : Int32)) G.x G.b dX10_beardSpot_2 (by decide) ?_
  refine lv_iload_n G.x G.b dX10_beardSpot_3 rfl (lv_at hl 0 rfl) ?_
  refine lv_imul G.x G.b dX10_beardSpot_4 ?_
  refine lv_iadd G.x G.b dX10_beardSpot_5 ?_
  refine lv_iload_n G.x G.b dX10_beardSpot_6 rfl (lv_at hl 1 rfl) ?_
  refine lv_iadd G.x G.b dX10_beardSpot_7 ?_
  exact z_rtI G hr hlk h dX10_beardSpot_8
def fX10_wearerSpot (a1 : Int32) (a2 : Int32) : Option Int32 :=
  some (((47 : Int32) + ((2 : Int32) * a1)) + a2)
abbrev rX10_wearerSpot : Room := { frames := 0, cells := 0, slots := 0, locals := 0 }
theorem arX10_wearerSpot : zAr yX10_wearerSpot RX10 2 := ⟨rfl, by decide, by decide, by decide +kernel⟩
set_option maxHeartbeats 4000000 in
theorem kX10_wearerSpot (l : Launch) {w : zWd} (ho : zOk w) {M0 : zM} {a1 : Int32} {a2 : Int32} {r : Int32} (h : fX10_wearerSpot a1 a2 = some r) : Met l yX10_wearerSpot (Cond.code yX10_wearerSpot cX10_wearerSpot 2 (some .int) :: zU) rX10_wearerSpot (zPre w M0 [.int a1, .int a2]) (zR (some (.int r))) 0 0 zNo := by
  refine z_metN (own := RX10) (lv := [(0, .int a1), (1, .int a2)]) ho (by decide) (Nat.le_of_ble_eq_true rfl) rfl rfl ?_
  intro p e s m args below meth c G hr hlk hH ls hl
  unfold fX10_wearerSpot at h
  refine lv_bipush (v := (47 : Int32)) G.x G.b dX10_wearerSpot_0 (by decide) ?_
  refine lv_iconst (v := (2 : Int32)) G.x G.b dX10_wearerSpot_2 (by decide) ?_
  refine lv_iload_n G.x G.b dX10_wearerSpot_3 rfl (lv_at hl 0 rfl) ?_
  refine lv_imul G.x G.b dX10_wearerSpot_4 ?_
  refine lv_iadd G.x G.b dX10_wearerSpot_5 ?_
  refine lv_iload_n G.x G.b dX10_wearerSpot_6 rfl (lv_at hl 1 rfl) ?_
  refine lv_iadd G.x G.b dX10_wearerSpot_7 ?_
  exact z_rtI G hr hlk h dX10_wearerSpot_8
def fX10_house (M0 : zM) (a1 : Int32) (a2 : Int32) : Option Int32 :=
  (fX10_houseSpot a1 a2).bind fun x1 =>
  (zix x1 59).bind fun j2 =>
  some (M0.1 1 j2)
abbrev rX10_house : Room := { frames := 1, cells := 0, slots := 0, locals := 21 }
theorem arX10_house : zAr yX10_house RX10 2 := ⟨rfl, by decide, by decide, by decide +kernel⟩
set_option maxHeartbeats 4000000 in
theorem kX10_house (l : Launch) {w : zWd} (hw : zIsM w) {M0 : zM} {a1 : Int32} {a2 : Int32} {r : Int32} (h : fX10_house M0 a1 a2 = some r) : Met l yX10_house (Cond.code yX10_house cX10_house 3 (some .int) :: zU) rX10_house (zPre w M0 [.ref (za w 0), .int a1, .int a2]) (zR (some (.int r))) 0 0 zNo := by
  refine z_metN (own := RX10) (lv := [(0, .ref (za w 0)), (1, .int a1), (2, .int a2)]) hw.1 (by decide) (Nat.le_of_ble_eq_true rfl) rfl rfl ?_
  intro p e s m args below meth c G hr hlk hH ls hl
  unfold fX10_house at h
  refine lv_aload_n G.x G.b dX10_house_0 rfl (lv_at hl 0 rfl) ?_
  refine z_get (v := .ref (za w 1)) (k := 0) G hH.1 (mM0 hw) vc10 inU10 0 (by decide) u767 rfl dX10_house_1 ?_
  refine lv_iload_n G.x G.b dX10_house_4 rfl (lv_at hl 1 rfl) ?_
  refine lv_iload_n G.x G.b dX10_house_5 rfl (lv_at hl 2 rfl) ?_
  obtain ⟨x1, ex1, h⟩ := z_bind h
  refine z_rdI (z_runS (As := [.int a1, .int a2]) (rest := [.ref (za w 1)]) G hH hl.1 (kX10_houseSpot l hw.1 ex1) arX10_houseSpot u764 u765 u11 u766 rfl rfl rfl (Nat.le_of_ble_eq_true rfl) (Nat.le_of_ble_eq_true rfl) rfl (Nat.le_of_ble_eq_true rfl) dX10_house_6) ?_
  obtain ⟨j2, ej2, h⟩ := z_bind h
  refine z_iald (k := 1) G hH.1 (mM1 hw) ej2 dX10_house_9 ?_
  exact z_rtI G hr hlk h dX10_house_10
def fX10_its (M0 : zM) (a1 : Int32) (a2 : Int32) : Option Int32 :=
  (fX10_beardSpot a1 a2).bind fun x1 =>
  (zix x1 59).bind fun j2 =>
  some (M0.1 1 j2)
abbrev rX10_its : Room := { frames := 1, cells := 0, slots := 0, locals := 21 }
theorem arX10_its : zAr yX10_its RX10 2 := ⟨rfl, by decide, by decide, by decide +kernel⟩
set_option maxHeartbeats 4000000 in
theorem kX10_its (l : Launch) {w : zWd} (hw : zIsM w) {M0 : zM} {a1 : Int32} {a2 : Int32} {r : Int32} (h : fX10_its M0 a1 a2 = some r) : Met l yX10_its (Cond.code yX10_its cX10_its 3 (some .int) :: zU) rX10_its (zPre w M0 [.ref (za w 0), .int a1, .int a2]) (zR (some (.int r))) 0 0 zNo := by
  refine z_metN (own := RX10) (lv := [(0, .ref (za w 0)), (1, .int a1), (2, .int a2)]) hw.1 (by decide) (Nat.le_of_ble_eq_true rfl) rfl rfl ?_
  intro p e s m args below meth c G hr hlk hH ls hl
  unfold fX10_its at h
  refine lv_aload_n G.x G.b dX10_its_0 rfl (lv_at hl 0 rfl) ?_
  refine z_get (v := .ref (za w 1)) (k := 0) G hH.1 (mM0 hw) vc10 inU10 0 (by decide) u767 rfl dX10_its_1 ?_
  refine lv_iload_n G.x G.b dX10_its_4 rfl (lv_at hl 1 rfl) ?_
  refine lv_iload_n G.x G.b dX10_its_5 rfl (lv_at hl 2 rfl) ?_
  obtain ⟨x1, ex1, h⟩ := z_bind h
  refine z_rdI (z_runS (As := [.int a1, .int a2]) (rest := [.ref (za w 1)]) G hH hl.1 (kX10_beardSpot l hw.1 ex1) arX10_beardSpot u886 u887 u11 u888 rfl rfl rfl (Nat.le_of_ble_eq_true rfl) (Nat.le_of_ble_eq_true rfl) rfl (Nat.le_of_ble_eq_true rfl) dX10_its_6) ?_
  obtain ⟨j2, ej2, h⟩ := z_bind h
  refine z_iald (k := 1) G hH.1 (mM1 hw) ej2 dX10_its_9 ?_
  exact z_rtI G hr hlk h dX10_its_10
def fX10_theirs (M0 : zM) (a1 : Int32) (a2 : Int32) : Option Int32 :=
  (fX10_wearerSpot a1 a2).bind fun x1 =>
  (zix x1 59).bind fun j2 =>
  some (M0.1 1 j2)
abbrev rX10_theirs : Room := { frames := 1, cells := 0, slots := 0, locals := 21 }
theorem arX10_theirs : zAr yX10_theirs RX10 2 := ⟨rfl, by decide, by decide, by decide +kernel⟩
set_option maxHeartbeats 4000000 in
theorem kX10_theirs (l : Launch) {w : zWd} (hw : zIsM w) {M0 : zM} {a1 : Int32} {a2 : Int32} {r : Int32} (h : fX10_theirs M0 a1 a2 = some r) : Met l yX10_theirs (Cond.code yX10_theirs cX10_theirs 3 (some .int) :: zU) rX10_theirs (zPre w M0 [.ref (za w 0), .int a1, .int a2]) (zR (some (.int r))) 0 0 zNo := by
  refine z_metN (own := RX10) (lv := [(0, .ref (za w 0)), (1, .int a1), (2, .int a2)]) hw.1 (by decide) (Nat.le_of_ble_eq_true rfl) rfl rfl ?_
  intro p e s m args below meth c G hr hlk hH ls hl
  unfold fX10_theirs at h
  refine lv_aload_n G.x G.b dX10_theirs_0 rfl (lv_at hl 0 rfl) ?_
  refine z_get (v := .ref (za w 1)) (k := 0) G hH.1 (mM0 hw) vc10 inU10 0 (by decide) u767 rfl dX10_theirs_1 ?_
  refine lv_iload_n G.x G.b dX10_theirs_4 rfl (lv_at hl 1 rfl) ?_
  refine lv_iload_n G.x G.b dX10_theirs_5 rfl (lv_at hl 2 rfl) ?_
  obtain ⟨x1, ex1, h⟩ := z_bind h
  refine z_rdI (z_runS (As := [.int a1, .int a2]) (rest := [.ref (za w 1)]) G hH hl.1 (kX10_wearerSpot l hw.1 ex1) arX10_wearerSpot u867 u868 u11 u869 rfl rfl rfl (Nat.le_of_ble_eq_true rfl) (Nat.le_of_ble_eq_true rfl) rfl (Nat.le_of_ble_eq_true rfl) dX10_theirs_6) ?_
  obtain ⟨j2, ej2, h⟩ := z_bind h
  refine z_iald (k := 1) G hH.1 (mM1 hw) ej2 dX10_theirs_9 ?_
  exact z_rtI G hr hlk h dX10_theirs_10
def fX10_isHouse (a1 : Int32) : Option Int32 :=
  (fX10_in a1.toInt64 (0 : Int64) (5 : Int64)).bind fun x1 =>
  zbl x1
abbrev rX10_isHouse : Room := { frames := 1, cells := 0, slots := 0, locals := 25 }
theorem arX10_isHouse : zAr yX10_isHouse RX10 1 := ⟨rfl, by decide, by decide, by decide +kernel⟩
set_option maxHeartbeats 4000000 in
theorem kX10_isHouse (l : Launch) {w : zWd} (ho : zOk w) {M0 : zM} {a1 : Int32} {r : Int32} (h : fX10_isHouse a1 = some r) : Met l yX10_isHouse (Cond.code yX10_isHouse cX10_isHouse 1 (some .boolean) :: zU) rX10_isHouse (zPre w M0 [.int a1]) (zR (some (.int r))) 0 0 zNo := by
  refine z_metN (own := RX10) (lv := [(0, .int a1)]) ho (by decide) (Nat.le_of_ble_eq_true rfl) rfl rfl ?_
  intro p e s m args below meth c G hr hlk hH ls hl
  unfold fX10_isHouse at h
  refine lv_iload_n G.x G.b dX10_isHouse_0 rfl (lv_at hl 0 rfl) ?_
  refine lv_i2l (v := a1.toInt64) G.x G.b dX10_isHouse_1 rfl ?_
  refine lv_lconst (v := (0 : Int64)) G.x G.b dX10_isHouse_2 (by decide) ?_
  refine lv_ldc2 G.x G.b G.o (G.t u823) dX10_isHouse_3 ?_
  obtain ⟨x1, ex1, h⟩ := z_bind h
  refine z_rdI (z_runS (As := [.long a1.toInt64, .long (0 : Int64), .long (5 : Int64)]) (rest := []) G hH hl.1 (kX10_in l ho ex1) arX10_in u824 u825 u11 u826 rfl rfl rfl (Nat.le_of_ble_eq_true rfl) (Nat.le_of_ble_eq_true rfl) rfl (Nat.le_of_ble_eq_true rfl) dX10_isHouse_6) ?_
  exact z_rtZ G hr hlk h dX10_isHouse_9
def fX10_isBeard (M0 : zM) (a1 : Int32) : Option Int32 :=
  (fX10_in a1.toInt64 (0 : Int64) (((M0.1 1 1) - (1 : Int32)).toInt64)).bind fun x1 =>
  zbl x1
abbrev rX10_isBeard : Room := { frames := 1, cells := 0, slots := 0, locals := 25 }
theorem arX10_isBeard : zAr yX10_isBeard RX10 1 := ⟨rfl, by decide, by decide, by decide +kernel⟩
set_option maxHeartbeats 4000000 in
theorem kX10_isBeard (l : Launch) {w : zWd} (hw : zIsM w) {M0 : zM} {a1 : Int32} {r : Int32} (h : fX10_isBeard M0 a1 = some r) : Met l yX10_isBeard (Cond.code yX10_isBeard cX10_isBeard 2 (some .boolean) :: zU) rX10_isBeard (zPre w M0 [.ref (za w 0), .int a1]) (zR (some (.int r))) 0 0 zNo := by
  refine z_metN (own := RX10) (lv := [(0, .ref (za w 0)), (1, .int a1)]) hw.1 (by decide) (Nat.le_of_ble_eq_true rfl) rfl rfl ?_
  intro p e s m args below meth c G hr hlk hH ls hl
  unfold fX10_isBeard at h
  refine lv_iload_n G.x G.b dX10_isBeard_0 rfl (lv_at hl 1 rfl) ?_
  refine lv_i2l (v := a1.toInt64) G.x G.b dX10_isBeard_1 rfl ?_
  refine lv_lconst (v := (0 : Int64)) G.x G.b dX10_isBeard_2 (by decide) ?_
  refine lv_aload_n G.x G.b dX10_isBeard_3 rfl (lv_at hl 0 rfl) ?_
  refine z_get (v := .ref (za w 1)) (k := 0) G hH.1 (mM0 hw) vc10 inU10 0 (by decide) u767 rfl dX10_isBeard_4 ?_
  refine lv_iconst (v := (1 : Int32)) G.x G.b dX10_isBeard_7 (by decide) ?_
  refine z_iald (k := 1) G hH.1 (mM1 hw) (by decide : zix (1 : Int32) 59 = some 1) dX10_isBeard_8 ?_
  refine lv_iconst (v := (1 : Int32)) G.x G.b dX10_isBeard_9 (by decide) ?_
  refine lv_isub G.x G.b dX10_isBeard_10 ?_
  refine lv_i2l (v := ((M0.1 1 1) - (1 : Int32)).toInt64) G.x G.b dX10_isBeard_11 rfl ?_
  obtain ⟨x1, ex1, h⟩ := z_bind h
  refine z_rdI (z_runS (As := [.long a1.toInt64, .long (0 : Int64), .long (((M0.1 1 1) - (1 : Int32)).toInt64)]) (rest := []) G hH hl.1 (kX10_in l hw.1 ex1) arX10_in u824 u825 u11 u826 rfl rfl rfl (Nat.le_of_ble_eq_true rfl) (Nat.le_of_ble_eq_true rfl) rfl (Nat.le_of_ble_eq_true rfl) dX10_isBeard_12) ?_
  exact z_rtZ G hr hlk h dX10_isBeard_15
def fX10_isWearer (M0 : zM) (a1 : Int32) : Option Int32 :=
  (fX10_in a1.toInt64 (0 : Int64) (((M0.1 1 2) - (1 : Int32)).toInt64)).bind fun x1 =>
  zbl x1
abbrev rX10_isWearer : Room := { frames := 1, cells := 0, slots := 0, locals := 25 }
theorem arX10_isWearer : zAr yX10_isWearer RX10 1 := ⟨rfl, by decide, by decide, by decide +kernel⟩
set_option maxHeartbeats 4000000 in
theorem kX10_isWearer (l : Launch) {w : zWd} (hw : zIsM w) {M0 : zM} {a1 : Int32} {r : Int32} (h : fX10_isWearer M0 a1 = some r) : Met l yX10_isWearer (Cond.code yX10_isWearer cX10_isWearer 2 (some .boolean) :: zU) rX10_isWearer (zPre w M0 [.ref (za w 0), .int a1]) (zR (some (.int r))) 0 0 zNo := by
  refine z_metN (own := RX10) (lv := [(0, .ref (za w 0)), (1, .int a1)]) hw.1 (by decide) (Nat.le_of_ble_eq_true rfl) rfl rfl ?_
  intro p e s m args below meth c G hr hlk hH ls hl
  unfold fX10_isWearer at h
  refine lv_iload_n G.x G.b dX10_isWearer_0 rfl (lv_at hl 1 rfl) ?_
  refine lv_i2l (v := a1.toInt64) G.x G.b dX10_isWearer_1 rfl ?_
  refine lv_lconst (v := (0 : Int64)) G.x G.b dX10_isWearer_2 (by decide) ?_
  refine lv_aload_n G.x G.b dX10_isWearer_3 rfl (lv_at hl 0 rfl) ?_
  refine z_get (v := .ref (za w 1)) (k := 0) G hH.1 (mM0 hw) vc10 inU10 0 (by decide) u767 rfl dX10_isWearer_4 ?_
  refine lv_iconst (v := (2 : Int32)) G.x G.b dX10_isWearer_7 (by decide) ?_
  refine z_iald (k := 1) G hH.1 (mM1 hw) (by decide : zix (2 : Int32) 59 = some 2) dX10_isWearer_8 ?_
  refine lv_iconst (v := (1 : Int32)) G.x G.b dX10_isWearer_9 (by decide) ?_
  refine lv_isub G.x G.b dX10_isWearer_10 ?_
  refine lv_i2l (v := ((M0.1 1 2) - (1 : Int32)).toInt64) G.x G.b dX10_isWearer_11 rfl ?_
  obtain ⟨x1, ex1, h⟩ := z_bind h
  refine z_rdI (z_runS (As := [.long a1.toInt64, .long (0 : Int64), .long (((M0.1 1 2) - (1 : Int32)).toInt64)]) (rest := []) G hH hl.1 (kX10_in l hw.1 ex1) arX10_in u824 u825 u11 u826 rfl rfl rfl (Nat.le_of_ble_eq_true rfl) (Nat.le_of_ble_eq_true rfl) rfl (Nat.le_of_ble_eq_true rfl) dX10_isWearer_12) ?_
  exact z_rtZ G hr hlk h dX10_isWearer_15
def fX10_isKind (a1 : Int32) : Option Int32 :=
  (fX10_in a1.toInt64 (0 : Int64) (5 : Int64)).bind fun x1 =>
  zbl x1
abbrev rX10_isKind : Room := { frames := 1, cells := 0, slots := 0, locals := 25 }
theorem arX10_isKind : zAr yX10_isKind RX10 1 := ⟨rfl, by decide, by decide, by decide +kernel⟩
set_option maxHeartbeats 4000000 in
theorem kX10_isKind (l : Launch) {w : zWd} (ho : zOk w) {M0 : zM} {a1 : Int32} {r : Int32} (h : fX10_isKind a1 = some r) : Met l yX10_isKind (Cond.code yX10_isKind cX10_isKind 1 (some .boolean) :: zU) rX10_isKind (zPre w M0 [.int a1]) (zR (some (.int r))) 0 0 zNo := by
  refine z_metN (own := RX10) (lv := [(0, .int a1)]) ho (by decide) (Nat.le_of_ble_eq_true rfl) rfl rfl ?_
  intro p e s m args below meth c G hr hlk hH ls hl
  unfold fX10_isKind at h
  refine lv_iload_n G.x G.b dX10_isKind_0 rfl (lv_at hl 0 rfl) ?_
  refine lv_i2l (v := a1.toInt64) G.x G.b dX10_isKind_1 rfl ?_
  refine lv_lconst (v := (0 : Int64)) G.x G.b dX10_isKind_2 (by decide) ?_
  refine lv_ldc2 G.x G.b G.o (G.t u823) dX10_isKind_3 ?_
  obtain ⟨x1, ex1, h⟩ := z_bind h
  refine z_rdI (z_runS (As := [.long a1.toInt64, .long (0 : Int64), .long (5 : Int64)]) (rest := []) G hH hl.1 (kX10_in l ho ex1) arX10_in u824 u825 u11 u826 rfl rfl rfl (Nat.le_of_ble_eq_true rfl) (Nat.le_of_ble_eq_true rfl) rfl (Nat.le_of_ble_eq_true rfl) dX10_isKind_6) ?_
  exact z_rtZ G hr hlk h dX10_isKind_9
def fX10_held (a1 : Int32) (a2 : Int32) (a3 : Int32) : Option Int32 :=
  if a2 ≤ a1 then (if a1 ≤ a3 then (some a1) else (some a3)) else (some a2)
abbrev rX10_held : Room := { frames := 0, cells := 0, slots := 0, locals := 0 }
theorem arX10_held : zAr yX10_held RX10 3 := ⟨rfl, by decide, by decide, by decide +kernel⟩
set_option maxHeartbeats 4000000 in
theorem kX10_held (l : Launch) {w : zWd} (ho : zOk w) {M0 : zM} {a1 : Int32} {a2 : Int32} {a3 : Int32} {r : Int32} (h : fX10_held a1 a2 a3 = some r) : Met l yX10_held (Cond.code yX10_held cX10_held 3 (some .int) :: zU) rX10_held (zPre w M0 [.int a1, .int a2, .int a3]) (zR (some (.int r))) 0 0 zNo := by
  refine z_metN (own := RX10) (lv := [(0, .int a1), (1, .int a2), (2, .int a3)]) ho (by decide) (Nat.le_of_ble_eq_true rfl) rfl rfl ?_
  intro p e s m args below meth c G hr hlk hH ls hl
  unfold fX10_held at h
  refine lv_iload_n G.x G.b dX10_held_0 rfl (lv_at hl 0 rfl) ?_
  refine lv_iload_n G.x G.b dX10_held_1 rfl (lv_at hl 1 rfl) ?_
  refine lv_icmp_ge (tgt := 9) G.x G.b dX10_held_2 (by decide) (fun c1 => ?_) (fun c1 => ?_)
  · have h := z_if c1 h
    refine lv_iload_n G.x G.b dX10_held_9 rfl (lv_at hl 0 rfl) ?_
    refine lv_iload_n G.x G.b dX10_held_10 rfl (lv_at hl 2 rfl) ?_
    refine lv_icmp_le (tgt := 18) G.x G.b dX10_held_11 (by decide) (fun c2 => ?_) (fun c2 => ?_)
    · have h := z_if c2 h
      refine lv_iload_n G.x G.b dX10_held_18 rfl (lv_at hl 0 rfl) ?_
      exact z_rtI G hr hlk h dX10_held_19
    · have h := z_ifn c2 h
      refine lv_iload_n G.x G.b dX10_held_14 rfl (lv_at hl 2 rfl) ?_
      refine lv_goto (tgt := 19) G.x G.b dX10_held_15 (by decide) ?_
      exact z_rtI G hr hlk h dX10_held_19
  · have h := z_ifn c1 h
    refine lv_iload_n G.x G.b dX10_held_5 rfl (lv_at hl 1 rfl) ?_
    refine lv_goto (tgt := 19) G.x G.b dX10_held_6 (by decide) ?_
    exact z_rtI G hr hlk h dX10_held_19
def fX10_isMonday (M0 : zM) : Option Int32 :=
  if (zrem (M0.1 1 0) (7 : Int32)) = (0 : Int32) then (zbl (1 : Int32)) else (zbl (0 : Int32))
abbrev rX10_isMonday : Room := { frames := 0, cells := 0, slots := 0, locals := 0 }
theorem arX10_isMonday : zAr yX10_isMonday RX10 0 := ⟨rfl, by decide, by decide, by decide +kernel⟩
set_option maxHeartbeats 4000000 in
theorem kX10_isMonday (l : Launch) {w : zWd} (hw : zIsM w) {M0 : zM} {r : Int32} (h : fX10_isMonday M0 = some r) : Met l yX10_isMonday (Cond.code yX10_isMonday cX10_isMonday 1 (some .boolean) :: zU) rX10_isMonday (zPre w M0 [.ref (za w 0)]) (zR (some (.int r))) 0 0 zNo := by
  refine z_metN (own := RX10) (lv := [(0, .ref (za w 0))]) hw.1 (by decide) (Nat.le_of_ble_eq_true rfl) rfl rfl ?_
  intro p e s m args below meth c G hr hlk hH ls hl
  unfold fX10_isMonday at h
  refine lv_aload_n G.x G.b dX10_isMonday_0 rfl (lv_at hl 0 rfl) ?_
  refine z_get (v := .ref (za w 1)) (k := 0) G hH.1 (mM0 hw) vc10 inU10 0 (by decide) u767 rfl dX10_isMonday_1 ?_
  refine lv_iconst (v := (0 : Int32)) G.x G.b dX10_isMonday_4 (by decide) ?_
  refine z_iald (k := 1) G hH.1 (mM1 hw) (by decide : zix (0 : Int32) 59 = some 0) dX10_isMonday_5 ?_
  refine lv_bipush (v := (7 : Int32)) G.x G.b dX10_isMonday_6 (by decide) ?_
  refine z_irem G dX10_isMonday_8 (by decide) ?_
  refine lv_if_ne (tgt := 16) G.x G.b dX10_isMonday_9 (by decide) (fun c1 => ?_) (fun c1 => ?_)
  · have h := z_ifn c1 h
    refine lv_iconst (v := (0 : Int32)) G.x G.b dX10_isMonday_16 (by decide) ?_
    exact z_rtZ G hr hlk h dX10_isMonday_17
  · have h := z_if c1 h
    refine lv_iconst (v := (1 : Int32)) G.x G.b dX10_isMonday_12 (by decide) ?_
    refine lv_goto (tgt := 17) G.x G.b dX10_isMonday_13 (by decide) ?_
    exact z_rtZ G hr hlk h dX10_isMonday_17
def fX10_placeOf (M0 : zM) (a1 : Int32) : Option Int32 :=
  (fX10_theirs M0 a1 (1 : Int32)).bind fun x1 =>
  some (zrem ((M0.1 1 0) + x1) (6 : Int32))
abbrev rX10_placeOf : Room := { frames := 2, cells := 0, slots := 0, locals := 43 }
theorem arX10_placeOf : zAr yX10_placeOf RX10 1 := ⟨rfl, by decide, by decide, by decide +kernel⟩
set_option maxHeartbeats 4000000 in
theorem kX10_placeOf (l : Launch) {w : zWd} (hw : zIsM w) {M0 : zM} {a1 : Int32} {r : Int32} (h : fX10_placeOf M0 a1 = some r) : Met l yX10_placeOf (Cond.code yX10_placeOf cX10_placeOf 2 (some .int) :: zU) rX10_placeOf (zPre w M0 [.ref (za w 0), .int a1]) (zR (some (.int r))) 0 0 zNo := by
  refine z_metN (own := RX10) (lv := [(0, .ref (za w 0)), (1, .int a1)]) hw.1 (by decide) (Nat.le_of_ble_eq_true rfl) rfl rfl ?_
  intro p e s m args below meth c G hr hlk hH ls hl
  unfold fX10_placeOf at h
  refine lv_aload_n G.x G.b dX10_placeOf_0 rfl (lv_at hl 0 rfl) ?_
  refine z_get (v := .ref (za w 1)) (k := 0) G hH.1 (mM0 hw) vc10 inU10 0 (by decide) u767 rfl dX10_placeOf_1 ?_
  refine lv_iconst (v := (0 : Int32)) G.x G.b dX10_placeOf_4 (by decide) ?_
  refine z_iald (k := 1) G hH.1 (mM1 hw) (by decide : zix (0 : Int32) 59 = some 0) dX10_placeOf_5 ?_
  refine lv_aload_n G.x G.b dX10_placeOf_6 rfl (lv_at hl 0 rfl) ?_
  refine lv_iload_n G.x G.b dX10_placeOf_7 rfl (lv_at hl 1 rfl) ?_
  refine lv_iconst (v := (1 : Int32)) G.x G.b dX10_placeOf_8 (by decide) ?_
  obtain ⟨x1, ex1, h⟩ := z_bind h
  refine z_rdI (z_runV (k := 0) (As := [.int a1, .int (1 : Int32)]) (rest := [.int (M0.1 1 0)]) G hH hl.1 (kX10_theirs l hw ex1) (mM0 hw) vc10 arX10_theirs u863 u865 us21 u11 u866 rfl rfl rfl (Nat.le_of_ble_eq_true rfl) (Nat.le_of_ble_eq_true rfl) rfl (Nat.le_of_ble_eq_true rfl) dX10_placeOf_9) ?_
  refine lv_iadd G.x G.b dX10_placeOf_12 ?_
  refine lv_bipush (v := (6 : Int32)) G.x G.b dX10_placeOf_13 (by decide) ?_
  refine z_irem G dX10_placeOf_15 (by decide) ?_
  exact z_rtI G hr hlk h dX10_placeOf_16
def bX10_wornBy_4 (M0 : zM) (a1 : Int32) (E36_2 : Int32 → Option Int32) (rc5 : Int32 → Int32 → Option Int32) (x3 : Int32) (x4 : Int32) : Option Int32 :=
  if (M0.1 1 1) ≤ x4 then (E36_2 x3) else ((fX10_its M0 x4 (3 : Int32)).bind fun x7 =>
  zj (fun (x8 : Int32) =>
  (some (x4 + (1 : Int32))).bind fun x10 =>
  rc5 x8 x10) fun J29_9 =>
  if x7 = a1 then (J29_9 x4) else (J29_9 x3))
def lX10_wornBy_4 (M0 : zM) (a1 : Int32) (E36_2 : Int32 → Option Int32) : Nat → Int32 → Int32 → Option Int32 := zL2 (bX10_wornBy_4 M0 a1 E36_2)
def fX10_wornBy (M0 : zM) (a1 : Int32) : Option Int32 :=
  zj (fun (x1 : Int32) =>
  some x1) fun E36_2 =>
  lX10_wornBy_4 M0 a1 E36_2 zFuel (-1 : Int32) (0 : Int32)
abbrev rX10_wornBy : Room := { frames := 2, cells := 0, slots := 0, locals := 43 }
theorem arX10_wornBy : zAr yX10_wornBy RX10 1 := ⟨rfl, by decide, by decide, by decide +kernel⟩
set_option maxHeartbeats 4000000 in
theorem kX10_wornBy (l : Launch) {w : zWd} (hw : zIsM w) {M0 : zM} {a1 : Int32} {r : Int32} (h : fX10_wornBy M0 a1 = some r) : Met l yX10_wornBy (Cond.code yX10_wornBy cX10_wornBy 4 (some .int) :: zU) rX10_wornBy (zPre w M0 [.ref (za w 0), .int a1]) (zR (some (.int r))) 0 0 zNo := by
  refine z_metN (own := RX10) (lv := [(0, .ref (za w 0)), (1, .int a1)]) hw.1 (by decide) (Nat.le_of_ble_eq_true rfl) rfl rfl ?_
  intro p e s m args below meth c G hr hlk hH ls hl
  unfold fX10_wornBy at h
  refine lv_iconst (v := (-1 : Int32)) G.x G.b dX10_wornBy_0 (by decide) ?_
  refine lv_istore_n (lv' := [(2, .int (-1 : Int32)), (0, .ref (za w 0)), (1, .int a1)]) G.x G.b dX10_wornBy_1 rfl hl (Nat.le_of_ble_eq_true rfl) rfl (fun ls hl => ?_)
  refine lv_iconst (v := (0 : Int32)) G.x G.b dX10_wornBy_2 (by decide) ?_
  refine lv_istore_n (lv' := [(3, .int (0 : Int32)), (2, .int (-1 : Int32)), (0, .ref (za w 0)), (1, .int a1)]) G.x G.b dX10_wornBy_3 rfl hl (Nat.le_of_ble_eq_true rfl) rfl (fun ls hl => ?_)
  obtain ⟨E36_2, hE36_2, h⟩ := z_j h
  have kE36_2 : ∀ (x1 : Int32) (ls : Array Slot), E36_2 x1 = some r → lv_has ls 4 [(2, .int x1)] → zGo p l e rX10_wornBy s m args below meth c (zR (some (.int r))) zNo s.heap [] (F0 m 36 ls []) := by
    intro x1 ls h hl
    rw [hE36_2] at h
    refine lv_iload_n G.x G.b dX10_wornBy_36 rfl (lv_at hl 0 rfl) ?_
    exact z_rtI G hr hlk h dX10_wornBy_37
  have n5 : ∀ (n : Nat) (x3 : Int32) (x4 : Int32) (ls : Array Slot), zL2 (bX10_wornBy_4 M0 a1 E36_2) n x3 x4 = some r → lv_has ls 4 [(0, .ref (za w 0)), (1, .int a1), (2, .int x3), (3, .int x4)] → zGo p l e rX10_wornBy s m args below meth c (zR (some (.int r))) zNo s.heap [] (F0 m 4 ls []) := by
    intro n
    induction n with
    | zero => intro x3 x4 ls h; exact (zL2_0 h).elim
    | succ n ih5 =>
      intro x3 x4 ls h hl
      obtain ⟨rc5, hrc5, h⟩ := zL2_s h
      rw [← hrc5] at ih5
      unfold bX10_wornBy_4 at h
      refine lv_iload_n G.x G.b dX10_wornBy_4 rfl (lv_at hl 3 rfl) ?_
      refine lv_aload_n G.x G.b dX10_wornBy_5 rfl (lv_at hl 0 rfl) ?_
      refine z_get (v := .ref (za w 1)) (k := 0) G hH.1 (mM0 hw) vc10 inU10 0 (by decide) u767 rfl dX10_wornBy_6 ?_
      refine lv_iconst (v := (1 : Int32)) G.x G.b dX10_wornBy_9 (by decide) ?_
      refine z_iald (k := 1) G hH.1 (mM1 hw) (by decide : zix (1 : Int32) 59 = some 1) dX10_wornBy_10 ?_
      refine lv_icmp_ge (tgt := 36) G.x G.b dX10_wornBy_11 (by decide) (fun c6 => ?_) (fun c6 => ?_)
      · have h := z_if c6 h
        exact kE36_2 x3 ls h (lv_sub hl [2] rfl)
      · have h := z_ifn c6 h
        refine lv_aload_n G.x G.b dX10_wornBy_14 rfl (lv_at hl 0 rfl) ?_
        refine lv_iload_n G.x G.b dX10_wornBy_15 rfl (lv_at hl 3 rfl) ?_
        refine lv_iconst (v := (3 : Int32)) G.x G.b dX10_wornBy_16 (by decide) ?_
        obtain ⟨x7, ex7, h⟩ := z_bind h
        refine z_rdI (z_runV (k := 0) (As := [.int x4, .int (3 : Int32)]) (rest := []) G hH hl.1 (kX10_its l hw ex7) (mM0 hw) vc10 arX10_its u882 u884 us24 u11 u885 rfl rfl rfl (Nat.le_of_ble_eq_true rfl) (Nat.le_of_ble_eq_true rfl) rfl (Nat.le_of_ble_eq_true rfl) dX10_wornBy_17) ?_
        refine lv_iload_n G.x G.b dX10_wornBy_20 rfl (lv_at hl 1 rfl) ?_
        obtain ⟨J29_9, hJ29_9, h⟩ := z_j h
        have kJ29_9 : ∀ (x8 : Int32) (ls : Array Slot), J29_9 x8 = some r → lv_has ls 4 [(0, .ref (za w 0)), (1, .int a1), (3, .int x4)] → zGo p l e rX10_wornBy s m args below meth c (zR (some (.int r))) zNo s.heap [] (F0 m 29 ls [.int x8]) := by
          intro x8 ls h hl
          rw [hJ29_9] at h
          refine lv_istore_n (lv' := [(2, .int x8), (0, .ref (za w 0)), (1, .int a1), (3, .int x4)]) G.x G.b dX10_wornBy_29 rfl hl (Nat.le_of_ble_eq_true rfl) rfl (fun ls hl => ?_)
          obtain ⟨x10, ex10, h⟩ := z_let h
          refine lv_iinc (v := x10) (lv' := [(3, .int x10), (2, .int x8), (0, .ref (za w 0)), (1, .int a1)]) G.x G.b dX10_wornBy_30 hl (k := 3) rfl (by rw [ex10]; rfl) (Nat.le_of_ble_eq_true rfl) rfl (fun ls hl => ?_)
          refine lv_goto (tgt := 4) G.x G.b dX10_wornBy_33 (by decide) ?_
          exact ih5 x8 x10 ls h (lv_sub hl [2, 3, 1, 0] rfl)
        refine lv_icmp_ne (tgt := 28) G.x G.b dX10_wornBy_21 (by decide) (fun c11 => ?_) (fun c11 => ?_)
        · have h := z_ifn c11 h
          refine lv_iload_n G.x G.b dX10_wornBy_28 rfl (lv_at hl 2 rfl) ?_
          exact kJ29_9 x3 ls h (lv_sub hl [0, 1, 3] rfl)
        · have h := z_if c11 h
          refine lv_iload_n G.x G.b dX10_wornBy_24 rfl (lv_at hl 3 rfl) ?_
          refine lv_goto (tgt := 29) G.x G.b dX10_wornBy_25 (by decide) ?_
          exact kJ29_9 x4 ls h (lv_sub hl [0, 1, 3] rfl)
  exact n5 zFuel (-1 : Int32) (0 : Int32) ls h (lv_sub hl [2, 3, 1, 0] rfl)
def fX10_mood (M0 : zM) (a1 : Int32) (a2 : Int32) : Option (Int32 × zM) :=
  (fX10_isHouse a1).bind fun x1 =>
  if x1 = (0 : Int32) then (zb2 (fX10_finds M0 (-1000000001 : Int32)) fun x3 M4 =>
  some (x3, M4)) else ((fX10_in a2.toInt64 (-50 : Int64) (50 : Int64)).bind fun x5 =>
  if x5 = (0 : Int32) then (zb2 (fX10_finds M0 (-1000000001 : Int32)) fun x7 M8 =>
  some (x7, M8)) else ((fX10_houseSpot a1 (1 : Int32)).bind fun x9 =>
  zb2 (fX10_becomes M0 x9 a2) fun x10 M11 =>
  some (x10, M11)))
abbrev rX10_mood : Room := { frames := 2, cells := 0, slots := 0, locals := 45 }
theorem arX10_mood : zAr yX10_mood RX10 2 := ⟨rfl, by decide, by decide, by decide +kernel⟩
set_option maxHeartbeats 4000000 in
theorem kX10_mood (l : Launch) {w : zWd} (hw : zIsM w) {M0 M' : zM} {a1 : Int32} {a2 : Int32} {r : Int32} (h : fX10_mood M0 a1 a2 = some (r, M')) : Met l yX10_mood (Cond.code yX10_mood cX10_mood 3 (some .int) :: zU) rX10_mood (zPre w M0 [.ref (za w 0), .int a1, .int a2]) (zQ w (some (.int r)) M') 0 0 (zA w) := by
  refine z_metN (own := RX10) (lv := [(0, .ref (za w 0)), (1, .int a1), (2, .int a2)]) hw.1 (by decide) (Nat.le_of_ble_eq_true rfl) rfl rfl ?_
  intro p e s m args below meth c G hr hlk hH ls hl
  unfold fX10_mood at h
  refine lv_iload_n G.x G.b dX10_mood_0 rfl (lv_at hl 1 rfl) ?_
  obtain ⟨x1, ex1, h⟩ := z_bind h
  refine z_rdI (z_runS (As := [.int a1]) (rest := []) G hH hl.1 (kX10_isHouse l hw.1 ex1) arX10_isHouse u820 u821 u11 u822 rfl rfl rfl (Nat.le_of_ble_eq_true rfl) (Nat.le_of_ble_eq_true rfl) rfl (Nat.le_of_ble_eq_true rfl) dX10_mood_1) ?_
  refine lv_if_eq (tgt := 34) G.x G.b dX10_mood_4 (by decide) (fun c2 => ?_) (fun c2 => ?_)
  · have h := z_if c2 h
    refine lv_aload_n G.x G.b dX10_mood_34 rfl (lv_at hl 0 rfl) ?_
    refine lv_ldc G.x G.b G.o (G.t u833) dX10_mood_35 ?_
    obtain ⟨x3, M4, eM4, h⟩ := z_b2 h
    refine z_aftI (z_runV (k := 0) (As := [.int (-1000000001 : Int32)]) (rest := []) G hH hl.1 (kX10_finds l hw eM4) (mM0 hw) vc10 arX10_finds u834 u836 us16 u11 u837 rfl rfl rfl (Nat.le_of_ble_eq_true rfl) (Nat.le_of_ble_eq_true rfl) rfl (Nat.le_of_ble_eq_true rfl) dX10_mood_37) hH (fun H locs hH => ?_)
    exact z_retI G hr hlk hH h dX10_mood_40
  · have h := z_ifn c2 h
    refine lv_iload_n G.x G.b dX10_mood_7 rfl (lv_at hl 2 rfl) ?_
    refine lv_i2l (v := a2.toInt64) G.x G.b dX10_mood_8 rfl ?_
    refine lv_ldc2 G.x G.b G.o (G.t u827) dX10_mood_9 ?_
    refine lv_ldc2 G.x G.b G.o (G.t u828) dX10_mood_12 ?_
    obtain ⟨x5, ex5, h⟩ := z_bind h
    refine z_rdI (z_runS (As := [.long a2.toInt64, .long (-50 : Int64), .long (50 : Int64)]) (rest := []) G hH hl.1 (kX10_in l hw.1 ex5) arX10_in u824 u825 u11 u826 rfl rfl rfl (Nat.le_of_ble_eq_true rfl) (Nat.le_of_ble_eq_true rfl) rfl (Nat.le_of_ble_eq_true rfl) dX10_mood_15) ?_
    refine lv_if_eq (tgt := 34) G.x G.b dX10_mood_18 (by decide) (fun c6 => ?_) (fun c6 => ?_)
    · have h := z_if c6 h
      refine lv_aload_n G.x G.b dX10_mood_34 rfl (lv_at hl 0 rfl) ?_
      refine lv_ldc G.x G.b G.o (G.t u833) dX10_mood_35 ?_
      obtain ⟨x7, M8, eM8, h⟩ := z_b2 h
      refine z_aftI (z_runV (k := 0) (As := [.int (-1000000001 : Int32)]) (rest := []) G hH hl.1 (kX10_finds l hw eM8) (mM0 hw) vc10 arX10_finds u834 u836 us16 u11 u837 rfl rfl rfl (Nat.le_of_ble_eq_true rfl) (Nat.le_of_ble_eq_true rfl) rfl (Nat.le_of_ble_eq_true rfl) dX10_mood_37) hH (fun H locs hH => ?_)
      exact z_retI G hr hlk hH h dX10_mood_40
    · have h := z_ifn c6 h
      refine lv_aload_n G.x G.b dX10_mood_21 rfl (lv_at hl 0 rfl) ?_
      refine lv_iload_n G.x G.b dX10_mood_22 rfl (lv_at hl 1 rfl) ?_
      refine lv_iconst (v := (1 : Int32)) G.x G.b dX10_mood_23 (by decide) ?_
      obtain ⟨x9, ex9, h⟩ := z_bind h
      refine z_rdI (z_runS (As := [.int a1, .int (1 : Int32)]) (rest := [.ref (za w 0)]) G hH hl.1 (kX10_houseSpot l hw.1 ex9) arX10_houseSpot u764 u765 u11 u766 rfl rfl rfl (Nat.le_of_ble_eq_true rfl) (Nat.le_of_ble_eq_true rfl) rfl (Nat.le_of_ble_eq_true rfl) dX10_mood_24) ?_
      refine lv_iload_n G.x G.b dX10_mood_27 rfl (lv_at hl 2 rfl) ?_
      obtain ⟨x10, M11, eM11, h⟩ := z_b2 h
      refine z_aftI (z_runV (k := 0) (As := [.int x9, .int a2]) (rest := []) G hH hl.1 (kX10_becomes l hw eM11) (mM0 hw) vc10 arX10_becomes u829 u831 us15 u11 u832 rfl rfl rfl (Nat.le_of_ble_eq_true rfl) (Nat.le_of_ble_eq_true rfl) rfl (Nat.le_of_ble_eq_true rfl) dX10_mood_28) hH (fun H locs hH => ?_)
      refine lv_goto (tgt := 40) G.x G.b dX10_mood_31 (by decide) ?_
      exact z_retI G hr hlk hH h dX10_mood_40
def fX10_recall (M0 : zM) (a1 : Int32) (a2 : Int32) : Option (Int32 × zM) :=
  zj (fun (x1 : Int32) =>
  (fX10_isHouse a1).bind fun x3 =>
  if x3 = (0 : Int32) then (zb2 (fX10_finds M0 (-1000000001 : Int32)) fun x5 M6 =>
  some (x5, M6)) else (if x1 = (0 : Int32) then (zb2 (fX10_finds M0 (-1000000001 : Int32)) fun x8 M9 =>
  some (x8, M9)) else ((fX10_houseSpot a1 (0 : Int32)).bind fun x10 =>
  zb2 (fX10_becomes M0 x10 a2) fun x11 M12 =>
  some (x11, M12)))) fun J18_2 =>
  zj (J18_2 (1 : Int32)) fun J13_13 =>
  if a2 = (-1 : Int32) then (J13_13) else ((fX10_isBeard M0 a2).bind fun x15 =>
  if x15 = (0 : Int32) then (J18_2 (0 : Int32)) else (J13_13))
abbrev rX10_recall : Room := { frames := 2, cells := 0, slots := 0, locals := 46 }
theorem arX10_recall : zAr yX10_recall RX10 2 := ⟨rfl, by decide, by decide, by decide +kernel⟩
set_option maxHeartbeats 4000000 in
theorem kX10_recall (l : Launch) {w : zWd} (hw : zIsM w) {M0 M' : zM} {a1 : Int32} {a2 : Int32} {r : Int32} (h : fX10_recall M0 a1 a2 = some (r, M')) : Met l yX10_recall (Cond.code yX10_recall cX10_recall 4 (some .int) :: zU) rX10_recall (zPre w M0 [.ref (za w 0), .int a1, .int a2]) (zQ w (some (.int r)) M') 0 0 (zA w) := by
  refine z_metN (own := RX10) (lv := [(0, .ref (za w 0)), (1, .int a1), (2, .int a2)]) hw.1 (by decide) (Nat.le_of_ble_eq_true rfl) rfl rfl ?_
  intro p e s m args below meth c G hr hlk hH ls hl
  unfold fX10_recall at h
  refine lv_iload_n G.x G.b dX10_recall_0 rfl (lv_at hl 2 rfl) ?_
  refine lv_iconst (v := (-1 : Int32)) G.x G.b dX10_recall_1 (by decide) ?_
  obtain ⟨J18_2, hJ18_2, h⟩ := z_j h
  have kJ18_2 : ∀ (x1 : Int32) (ls : Array Slot), J18_2 x1 = some (r, M') → lv_has ls 4 [(0, .ref (za w 0)), (1, .int a1), (2, .int a2)] → zGo p l e rX10_recall s m args below meth c (zQ w (some (.int r)) M') (zA w) s.heap [] (F0 m 18 ls [.int x1]) := by
    intro x1 ls h hl
    rw [hJ18_2] at h
    refine lv_istore_n (lv' := [(3, .int x1), (0, .ref (za w 0)), (1, .int a1), (2, .int a2)]) G.x G.b dX10_recall_18 rfl hl (Nat.le_of_ble_eq_true rfl) rfl (fun ls hl => ?_)
    refine lv_iload_n G.x G.b dX10_recall_19 rfl (lv_at hl 2 rfl) ?_
    obtain ⟨x3, ex3, h⟩ := z_bind h
    refine z_rdI (z_runS (As := [.int a1]) (rest := []) G hH hl.1 (kX10_isHouse l hw.1 ex3) arX10_isHouse u820 u821 u11 u822 rfl rfl rfl (Nat.le_of_ble_eq_true rfl) (Nat.le_of_ble_eq_true rfl) rfl (Nat.le_of_ble_eq_true rfl) dX10_recall_20) ?_
    refine lv_if_eq (tgt := 43) G.x G.b dX10_recall_23 (by decide) (fun c4 => ?_) (fun c4 => ?_)
    · have h := z_if c4 h
      refine lv_aload_n G.x G.b dX10_recall_43 rfl (lv_at hl 1 rfl) ?_
      refine lv_ldc G.x G.b G.o (G.t u833) dX10_recall_44 ?_
      obtain ⟨x5, M6, eM6, h⟩ := z_b2 h
      refine z_aftI (z_runV (k := 0) (As := [.int (-1000000001 : Int32)]) (rest := []) G hH hl.1 (kX10_finds l hw eM6) (mM0 hw) vc10 arX10_finds u834 u836 us16 u11 u837 rfl rfl rfl (Nat.le_of_ble_eq_true rfl) (Nat.le_of_ble_eq_true rfl) rfl (Nat.le_of_ble_eq_true rfl) dX10_recall_46) hH (fun H locs hH => ?_)
      exact z_retI G hr hlk hH h dX10_recall_49
    · have h := z_ifn c4 h
      refine lv_iload_n G.x G.b dX10_recall_26 rfl (lv_at hl 0 rfl) ?_
      refine lv_if_eq (tgt := 43) G.x G.b dX10_recall_27 (by decide) (fun c7 => ?_) (fun c7 => ?_)
      · have h := z_if c7 h
        refine lv_aload_n G.x G.b dX10_recall_43 rfl (lv_at hl 1 rfl) ?_
        refine lv_ldc G.x G.b G.o (G.t u833) dX10_recall_44 ?_
        obtain ⟨x8, M9, eM9, h⟩ := z_b2 h
        refine z_aftI (z_runV (k := 0) (As := [.int (-1000000001 : Int32)]) (rest := []) G hH hl.1 (kX10_finds l hw eM9) (mM0 hw) vc10 arX10_finds u834 u836 us16 u11 u837 rfl rfl rfl (Nat.le_of_ble_eq_true rfl) (Nat.le_of_ble_eq_true rfl) rfl (Nat.le_of_ble_eq_true rfl) dX10_recall_46) hH (fun H locs hH => ?_)
        exact z_retI G hr hlk hH h dX10_recall_49
      · have h := z_ifn c7 h
        refine lv_aload_n G.x G.b dX10_recall_30 rfl (lv_at hl 1 rfl) ?_
        refine lv_iload_n G.x G.b dX10_recall_31 rfl (lv_at hl 2 rfl) ?_
        refine lv_iconst (v := (0 : Int32)) G.x G.b dX10_recall_32 (by decide) ?_
        obtain ⟨x10, ex10, h⟩ := z_bind h
        refine z_rdI (z_runS (As := [.int a1, .int (0 : Int32)]) (rest := [.ref (za w 0)]) G hH hl.1 (kX10_houseSpot l hw.1 ex10) arX10_houseSpot u764 u765 u11 u766 rfl rfl rfl (Nat.le_of_ble_eq_true rfl) (Nat.le_of_ble_eq_true rfl) rfl (Nat.le_of_ble_eq_true rfl) dX10_recall_33) ?_
        refine lv_iload_n G.x G.b dX10_recall_36 rfl (lv_at hl 3 rfl) ?_
        obtain ⟨x11, M12, eM12, h⟩ := z_b2 h
        refine z_aftI (z_runV (k := 0) (As := [.int x10, .int a2]) (rest := []) G hH hl.1 (kX10_becomes l hw eM12) (mM0 hw) vc10 arX10_becomes u829 u831 us15 u11 u832 rfl rfl rfl (Nat.le_of_ble_eq_true rfl) (Nat.le_of_ble_eq_true rfl) rfl (Nat.le_of_ble_eq_true rfl) dX10_recall_37) hH (fun H locs hH => ?_)
        refine lv_goto (tgt := 49) G.x G.b dX10_recall_40 (by decide) ?_
        exact z_retI G hr hlk hH h dX10_recall_49
  obtain ⟨J13_13, hJ13_13, h⟩ := z_j h
  have kJ13_13 : ∀ (ls : Array Slot), J13_13 = some (r, M') → lv_has ls 4 [(0, .ref (za w 0)), (1, .int a1), (2, .int a2)] → zGo p l e rX10_recall s m args below meth c (zQ w (some (.int r)) M') (zA w) s.heap [] (F0 m 13 ls []) := by
    intro ls h hl
    rw [hJ13_13] at h
    refine lv_iconst (v := (1 : Int32)) G.x G.b dX10_recall_13 (by decide) ?_
    refine lv_goto (tgt := 18) G.x G.b dX10_recall_14 (by decide) ?_
    exact kJ18_2 (1 : Int32) ls h (lv_sub hl [0, 1, 2] rfl)
  refine lv_icmp_eq (tgt := 13) G.x G.b dX10_recall_2 (by decide) (fun c14 => ?_) (fun c14 => ?_)
  · have h := z_if c14 h
    exact kJ13_13 ls h (lv_sub hl [0, 1, 2] rfl)
  · have h := z_ifn c14 h
    refine lv_aload_n G.x G.b dX10_recall_5 rfl (lv_at hl 0 rfl) ?_
    refine lv_iload_n G.x G.b dX10_recall_6 rfl (lv_at hl 2 rfl) ?_
    obtain ⟨x15, ex15, h⟩ := z_bind h
    refine z_rdI (z_runV (k := 0) (As := [.int a2]) (rest := []) G hH hl.1 (kX10_isBeard l hw ex15) (mM0 hw) vc10 arX10_isBeard u842 u844 us17 u11 u845 rfl rfl rfl (Nat.le_of_ble_eq_true rfl) (Nat.le_of_ble_eq_true rfl) rfl (Nat.le_of_ble_eq_true rfl) dX10_recall_7) ?_
    refine lv_if_eq (tgt := 17) G.x G.b dX10_recall_10 (by decide) (fun c16 => ?_) (fun c16 => ?_)
    · have h := z_if c16 h
      refine lv_iconst (v := (0 : Int32)) G.x G.b dX10_recall_17 (by decide) ?_
      exact kJ18_2 (0 : Int32) ls h (lv_sub hl [0, 1, 2] rfl)
    · have h := z_ifn c16 h
      exact kJ13_13 ls h (lv_sub hl [0, 1, 2] rfl)
def bX10_goers_4 (M0 : zM) (a1 : Int32) (E39_2 : Int32 → Option Int32) (rc5 : Int32 → Int32 → Option Int32) (x3 : Int32) (x4 : Int32) : Option Int32 :=
  if (M0.1 1 2) ≤ x4 then (E39_2 x3) else ((fX10_placeOf M0 x4).bind fun x7 =>
  zj (fun (x8 : Int32) =>
  (some (x3 ||| x8)).bind fun x10 =>
  (some (x4 + (1 : Int32))).bind fun x11 =>
  rc5 x10 x11) fun J31_9 =>
  if x7 = a1 then (J31_9 ((1 : Int32) <<< (x4 &&& 31))) else (J31_9 (0 : Int32)))
def lX10_goers_4 (M0 : zM) (a1 : Int32) (E39_2 : Int32 → Option Int32) : Nat → Int32 → Int32 → Option Int32 := zL2 (bX10_goers_4 M0 a1 E39_2)
def fX10_goers (M0 : zM) (a1 : Int32) : Option Int32 :=
  zj (fun (x1 : Int32) =>
  some x1) fun E39_2 =>
  lX10_goers_4 M0 a1 E39_2 zFuel (0 : Int32) (0 : Int32)
abbrev rX10_goers : Room := { frames := 3, cells := 0, slots := 0, locals := 64 }
theorem arX10_goers : zAr yX10_goers RX10 1 := ⟨rfl, by decide, by decide, by decide +kernel⟩
set_option maxHeartbeats 4000000 in
theorem kX10_goers (l : Launch) {w : zWd} (hw : zIsM w) {M0 : zM} {a1 : Int32} {r : Int32} (h : fX10_goers M0 a1 = some r) : Met l yX10_goers (Cond.code yX10_goers cX10_goers 4 (some .int) :: zU) rX10_goers (zPre w M0 [.ref (za w 0), .int a1]) (zR (some (.int r))) 0 0 zNo := by
  refine z_metN (own := RX10) (lv := [(0, .ref (za w 0)), (1, .int a1)]) hw.1 (by decide) (Nat.le_of_ble_eq_true rfl) rfl rfl ?_
  intro p e s m args below meth c G hr hlk hH ls hl
  unfold fX10_goers at h
  refine lv_iconst (v := (0 : Int32)) G.x G.b dX10_goers_0 (by decide) ?_
  refine lv_istore_n (lv' := [(2, .int (0 : Int32)), (0, .ref (za w 0)), (1, .int a1)]) G.x G.b dX10_goers_1 rfl hl (Nat.le_of_ble_eq_true rfl) rfl (fun ls hl => ?_)
  refine lv_iconst (v := (0 : Int32)) G.x G.b dX10_goers_2 (by decide) ?_
  refine lv_istore_n (lv' := [(3, .int (0 : Int32)), (2, .int (0 : Int32)), (0, .ref (za w 0)), (1, .int a1)]) G.x G.b dX10_goers_3 rfl hl (Nat.le_of_ble_eq_true rfl) rfl (fun ls hl => ?_)
  obtain ⟨E39_2, hE39_2, h⟩ := z_j h
  have kE39_2 : ∀ (x1 : Int32) (ls : Array Slot), E39_2 x1 = some r → lv_has ls 4 [(2, .int x1)] → zGo p l e rX10_goers s m args below meth c (zR (some (.int r))) zNo s.heap [] (F0 m 39 ls []) := by
    intro x1 ls h hl
    rw [hE39_2] at h
    refine lv_iload_n G.x G.b dX10_goers_39 rfl (lv_at hl 0 rfl) ?_
    exact z_rtI G hr hlk h dX10_goers_40
  have n5 : ∀ (n : Nat) (x3 : Int32) (x4 : Int32) (ls : Array Slot), zL2 (bX10_goers_4 M0 a1 E39_2) n x3 x4 = some r → lv_has ls 4 [(0, .ref (za w 0)), (1, .int a1), (2, .int x3), (3, .int x4)] → zGo p l e rX10_goers s m args below meth c (zR (some (.int r))) zNo s.heap [] (F0 m 4 ls []) := by
    intro n
    induction n with
    | zero => intro x3 x4 ls h; exact (zL2_0 h).elim
    | succ n ih5 =>
      intro x3 x4 ls h hl
      obtain ⟨rc5, hrc5, h⟩ := zL2_s h
      rw [← hrc5] at ih5
      unfold bX10_goers_4 at h
      refine lv_iload_n G.x G.b dX10_goers_4 rfl (lv_at hl 3 rfl) ?_
      refine lv_aload_n G.x G.b dX10_goers_5 rfl (lv_at hl 0 rfl) ?_
      refine z_get (v := .ref (za w 1)) (k := 0) G hH.1 (mM0 hw) vc10 inU10 0 (by decide) u767 rfl dX10_goers_6 ?_
      refine lv_iconst (v := (2 : Int32)) G.x G.b dX10_goers_9 (by decide) ?_
      refine z_iald (k := 1) G hH.1 (mM1 hw) (by decide : zix (2 : Int32) 59 = some 2) dX10_goers_10 ?_
      refine lv_icmp_ge (tgt := 39) G.x G.b dX10_goers_11 (by decide) (fun c6 => ?_) (fun c6 => ?_)
      · have h := z_if c6 h
        exact kE39_2 x3 ls h (lv_sub hl [2] rfl)
      · have h := z_ifn c6 h
        refine lv_iload_n G.x G.b dX10_goers_14 rfl (lv_at hl 2 rfl) ?_
        refine lv_aload_n G.x G.b dX10_goers_15 rfl (lv_at hl 0 rfl) ?_
        refine lv_iload_n G.x G.b dX10_goers_16 rfl (lv_at hl 3 rfl) ?_
        obtain ⟨x7, ex7, h⟩ := z_bind h
        refine z_rdI (z_runV (k := 0) (As := [.int x4]) (rest := [.int x3]) G hH hl.1 (kX10_placeOf l hw ex7) (mM0 hw) vc10 arX10_placeOf u859 u861 us20 u11 u862 rfl rfl rfl (Nat.le_of_ble_eq_true rfl) (Nat.le_of_ble_eq_true rfl) rfl (Nat.le_of_ble_eq_true rfl) dX10_goers_17) ?_
        refine lv_iload_n G.x G.b dX10_goers_20 rfl (lv_at hl 1 rfl) ?_
        obtain ⟨J31_9, hJ31_9, h⟩ := z_j h
        have kJ31_9 : ∀ (x8 : Int32) (ls : Array Slot), J31_9 x8 = some r → lv_has ls 4 [(0, .ref (za w 0)), (1, .int a1), (3, .int x4)] → zGo p l e rX10_goers s m args below meth c (zR (some (.int r))) zNo s.heap [] (F0 m 31 ls [.int x8, .int x3]) := by
          intro x8 ls h hl
          rw [hJ31_9] at h
          refine lv_ior G.x G.b dX10_goers_31 ?_
          obtain ⟨x10, ex10, h⟩ := z_let h
          refine z_nmI ex10 ?_
          refine lv_istore_n (lv' := [(2, .int x10), (0, .ref (za w 0)), (1, .int a1), (3, .int x4)]) G.x G.b dX10_goers_32 rfl hl (Nat.le_of_ble_eq_true rfl) rfl (fun ls hl => ?_)
          obtain ⟨x11, ex11, h⟩ := z_let h
          refine lv_iinc (v := x11) (lv' := [(3, .int x11), (2, .int x10), (0, .ref (za w 0)), (1, .int a1)]) G.x G.b dX10_goers_33 hl (k := 3) rfl (by rw [ex11]; rfl) (Nat.le_of_ble_eq_true rfl) rfl (fun ls hl => ?_)
          refine lv_goto (tgt := 4) G.x G.b dX10_goers_36 (by decide) ?_
          exact ih5 x10 x11 ls h (lv_sub hl [2, 3, 1, 0] rfl)
        refine lv_icmp_ne (tgt := 30) G.x G.b dX10_goers_21 (by decide) (fun c12 => ?_) (fun c12 => ?_)
        · have h := z_ifn c12 h
          refine lv_iconst (v := (0 : Int32)) G.x G.b dX10_goers_30 (by decide) ?_
          exact kJ31_9 (0 : Int32) ls h (lv_sub hl [0, 1, 3] rfl)
        · have h := z_if c12 h
          refine lv_iconst (v := (1 : Int32)) G.x G.b dX10_goers_24 (by decide) ?_
          refine lv_iload_n G.x G.b dX10_goers_25 rfl (lv_at hl 3 rfl) ?_
          refine lv_ishl G.x G.b dX10_goers_26 ?_
          refine lv_goto (tgt := 31) G.x G.b dX10_goers_27 (by decide) ?_
          exact kJ31_9 ((1 : Int32) <<< (x4 &&& 31)) ls h (lv_sub hl [0, 1, 3] rfl)
  exact n5 zFuel (0 : Int32) (0 : Int32) ls h (lv_sub hl [2, 3, 1, 0] rfl)
def fX10_houseOf (M0 : zM) (a1 : Int32) (a2 : Int32) : Option (Int32 × zM) :=
  (fX10_isHouse a1).bind fun x1 =>
  if x1 = (0 : Int32) then (zb2 (fX10_finds M0 (-1000000001 : Int32)) fun x3 M4 =>
  some (x3, M4)) else ((fX10_in a2.toInt64 (0 : Int64) (2 : Int64)).bind fun x5 =>
  if x5 = (0 : Int32) then (zb2 (fX10_finds M0 (-1000000001 : Int32)) fun x12 M13 =>
  some (x12, M13)) else (if a2 = (0 : Int32) then ((fX10_house M0 a1 (1 : Int32)).bind fun x11 =>
  some (((100 : Int32) + x11), M0)) else (if a2 = (1 : Int32) then ((fX10_house M0 a1 (0 : Int32)).bind fun x10 =>
  some (x10, M0)) else ((fX10_goers M0 a1).bind fun x9 =>
  some (x9, M0)))))
abbrev rX10_houseOf : Room := { frames := 4, cells := 0, slots := 0, locals := 87 }
theorem arX10_houseOf : zAr yX10_houseOf RX10 2 := ⟨rfl, by decide, by decide, by decide +kernel⟩
set_option maxHeartbeats 4000000 in
theorem kX10_houseOf (l : Launch) {w : zWd} (hw : zIsM w) {M0 M' : zM} {a1 : Int32} {a2 : Int32} {r : Int32} (h : fX10_houseOf M0 a1 a2 = some (r, M')) : Met l yX10_houseOf (Cond.code yX10_houseOf cX10_houseOf 3 (some .int) :: zU) rX10_houseOf (zPre w M0 [.ref (za w 0), .int a1, .int a2]) (zQ w (some (.int r)) M') 0 0 (zA w) := by
  refine z_metN (own := RX10) (lv := [(0, .ref (za w 0)), (1, .int a1), (2, .int a2)]) hw.1 (by decide) (Nat.le_of_ble_eq_true rfl) rfl rfl ?_
  intro p e s m args below meth c G hr hlk hH ls hl
  unfold fX10_houseOf at h
  refine lv_iload_n G.x G.b dX10_houseOf_0 rfl (lv_at hl 1 rfl) ?_
  obtain ⟨x1, ex1, h⟩ := z_bind h
  refine z_rdI (z_runS (As := [.int a1]) (rest := []) G hH hl.1 (kX10_isHouse l hw.1 ex1) arX10_isHouse u820 u821 u11 u822 rfl rfl rfl (Nat.le_of_ble_eq_true rfl) (Nat.le_of_ble_eq_true rfl) rfl (Nat.le_of_ble_eq_true rfl) dX10_houseOf_1) ?_
  refine lv_if_eq (tgt := 19) G.x G.b dX10_houseOf_4 (by decide) (fun c2 => ?_) (fun c2 => ?_)
  · have h := z_if c2 h
    refine lv_aload_n G.x G.b dX10_houseOf_19 rfl (lv_at hl 0 rfl) ?_
    refine lv_ldc G.x G.b G.o (G.t u833) dX10_houseOf_20 ?_
    obtain ⟨x3, M4, eM4, h⟩ := z_b2 h
    refine z_aftI (z_runV (k := 0) (As := [.int (-1000000001 : Int32)]) (rest := []) G hH hl.1 (kX10_finds l hw eM4) (mM0 hw) vc10 arX10_finds u834 u836 us16 u11 u837 rfl rfl rfl (Nat.le_of_ble_eq_true rfl) (Nat.le_of_ble_eq_true rfl) rfl (Nat.le_of_ble_eq_true rfl) dX10_houseOf_22) hH (fun H locs hH => ?_)
    exact z_retI G hr hlk hH h dX10_houseOf_25
  · have h := z_ifn c2 h
    refine lv_iload_n G.x G.b dX10_houseOf_7 rfl (lv_at hl 2 rfl) ?_
    refine lv_i2l (v := a2.toInt64) G.x G.b dX10_houseOf_8 rfl ?_
    refine lv_lconst (v := (0 : Int64)) G.x G.b dX10_houseOf_9 (by decide) ?_
    refine lv_ldc2 G.x G.b G.o (G.t u850) dX10_houseOf_10 ?_
    obtain ⟨x5, ex5, h⟩ := z_bind h
    refine z_rdI (z_runS (As := [.long a2.toInt64, .long (0 : Int64), .long (2 : Int64)]) (rest := []) G hH hl.1 (kX10_in l hw.1 ex5) arX10_in u824 u825 u11 u826 rfl rfl rfl (Nat.le_of_ble_eq_true rfl) (Nat.le_of_ble_eq_true rfl) rfl (Nat.le_of_ble_eq_true rfl) dX10_houseOf_13) ?_
    refine lv_if_ne (tgt := 26) G.x G.b dX10_houseOf_16 (by decide) (fun c6 => ?_) (fun c6 => ?_)
    · have h := z_ifn c6 h
      refine lv_iload_n G.x G.b dX10_houseOf_26 rfl (lv_at hl 2 rfl) ?_
      refine lv_if_ne (tgt := 42) G.x G.b dX10_houseOf_27 (by decide) (fun c7 => ?_) (fun c7 => ?_)
      · have h := z_ifn c7 h
        refine lv_iload_n G.x G.b dX10_houseOf_42 rfl (lv_at hl 2 rfl) ?_
        refine lv_iconst (v := (1 : Int32)) G.x G.b dX10_houseOf_43 (by decide) ?_
        refine lv_icmp_ne (tgt := 56) G.x G.b dX10_houseOf_44 (by decide) (fun c8 => ?_) (fun c8 => ?_)
        · have h := z_ifn c8 h
          refine lv_aload_n G.x G.b dX10_houseOf_56 rfl (lv_at hl 0 rfl) ?_
          refine lv_iload_n G.x G.b dX10_houseOf_57 rfl (lv_at hl 1 rfl) ?_
          obtain ⟨x9, ex9, h⟩ := z_bind h
          refine z_rdI (z_runV (k := 0) (As := [.int a1]) (rest := []) G hH hl.1 (kX10_goers l hw ex9) (mM0 hw) vc10 arX10_goers u855 u857 us19 u11 u858 rfl rfl rfl (Nat.le_of_ble_eq_true rfl) (Nat.le_of_ble_eq_true rfl) rfl (Nat.le_of_ble_eq_true rfl) dX10_houseOf_58) ?_
          exact z_retI G hr hlk hH h dX10_houseOf_61
        · have h := z_if c8 h
          refine lv_aload_n G.x G.b dX10_houseOf_47 rfl (lv_at hl 0 rfl) ?_
          refine lv_iload_n G.x G.b dX10_houseOf_48 rfl (lv_at hl 1 rfl) ?_
          refine lv_iconst (v := (0 : Int32)) G.x G.b dX10_houseOf_49 (by decide) ?_
          obtain ⟨x10, ex10, h⟩ := z_bind h
          refine z_rdI (z_runV (k := 0) (As := [.int a1, .int (0 : Int32)]) (rest := []) G hH hl.1 (kX10_house l hw ex10) (mM0 hw) vc10 arX10_house u851 u853 us18 u11 u854 rfl rfl rfl (Nat.le_of_ble_eq_true rfl) (Nat.le_of_ble_eq_true rfl) rfl (Nat.le_of_ble_eq_true rfl) dX10_houseOf_50) ?_
          refine lv_goto (tgt := 61) G.x G.b dX10_houseOf_53 (by decide) ?_
          exact z_retI G hr hlk hH h dX10_houseOf_61
      · have h := z_if c7 h
        refine lv_bipush (v := (100 : Int32)) G.x G.b dX10_houseOf_30 (by decide) ?_
        refine lv_aload_n G.x G.b dX10_houseOf_32 rfl (lv_at hl 0 rfl) ?_
        refine lv_iload_n G.x G.b dX10_houseOf_33 rfl (lv_at hl 1 rfl) ?_
        refine lv_iconst (v := (1 : Int32)) G.x G.b dX10_houseOf_34 (by decide) ?_
        obtain ⟨x11, ex11, h⟩ := z_bind h
        refine z_rdI (z_runV (k := 0) (As := [.int a1, .int (1 : Int32)]) (rest := [.int (100 : Int32)]) G hH hl.1 (kX10_house l hw ex11) (mM0 hw) vc10 arX10_house u851 u853 us18 u11 u854 rfl rfl rfl (Nat.le_of_ble_eq_true rfl) (Nat.le_of_ble_eq_true rfl) rfl (Nat.le_of_ble_eq_true rfl) dX10_houseOf_35) ?_
        refine lv_iadd G.x G.b dX10_houseOf_38 ?_
        refine lv_goto (tgt := 61) G.x G.b dX10_houseOf_39 (by decide) ?_
        exact z_retI G hr hlk hH h dX10_houseOf_61
    · have h := z_if c6 h
      refine lv_aload_n G.x G.b dX10_houseOf_19 rfl (lv_at hl 0 rfl) ?_
      refine lv_ldc G.x G.b G.o (G.t u833) dX10_houseOf_20 ?_
      obtain ⟨x12, M13, eM13, h⟩ := z_b2 h
      refine z_aftI (z_runV (k := 0) (As := [.int (-1000000001 : Int32)]) (rest := []) G hH hl.1 (kX10_finds l hw eM13) (mM0 hw) vc10 arX10_finds u834 u836 us16 u11 u837 rfl rfl rfl (Nat.le_of_ble_eq_true rfl) (Nat.le_of_ble_eq_true rfl) rfl (Nat.le_of_ble_eq_true rfl) dX10_houseOf_22) hH (fun H locs hH => ?_)
      exact z_retI G hr hlk hH h dX10_houseOf_25
def bX10_inShop_4 (M0 : zM) (E40_2 : Int32 → Option Int32) (rc5 : Int32 → Int32 → Option Int32) (x3 : Int32) (x4 : Int32) : Option Int32 :=
  if (M0.1 1 1) ≤ x4 then (E40_2 x3) else ((fX10_its M0 x4 (3 : Int32)).bind fun x7 =>
  zj (fun (x8 : Int32) =>
  (some (x3 ||| x8)).bind fun x10 =>
  (some (x4 + (1 : Int32))).bind fun x11 =>
  rc5 x10 x11) fun J32_9 =>
  if x7 = (-1 : Int32) then (J32_9 ((1 : Int32) <<< (x4 &&& 31))) else (J32_9 (0 : Int32)))
def lX10_inShop_4 (M0 : zM) (E40_2 : Int32 → Option Int32) : Nat → Int32 → Int32 → Option Int32 := zL2 (bX10_inShop_4 M0 E40_2)
def fX10_inShop (M0 : zM) : Option Int32 :=
  zj (fun (x1 : Int32) =>
  some x1) fun E40_2 =>
  lX10_inShop_4 M0 E40_2 zFuel (0 : Int32) (0 : Int32)
abbrev rX10_inShop : Room := { frames := 2, cells := 0, slots := 0, locals := 43 }
theorem arX10_inShop : zAr yX10_inShop RX10 0 := ⟨rfl, by decide, by decide, by decide +kernel⟩
set_option maxHeartbeats 4000000 in
theorem kX10_inShop (l : Launch) {w : zWd} (hw : zIsM w) {M0 : zM} {r : Int32} (h : fX10_inShop M0 = some r) : Met l yX10_inShop (Cond.code yX10_inShop cX10_inShop 3 (some .int) :: zU) rX10_inShop (zPre w M0 [.ref (za w 0)]) (zR (some (.int r))) 0 0 zNo := by
  refine z_metN (own := RX10) (lv := [(0, .ref (za w 0))]) hw.1 (by decide) (Nat.le_of_ble_eq_true rfl) rfl rfl ?_
  intro p e s m args below meth c G hr hlk hH ls hl
  unfold fX10_inShop at h
  refine lv_iconst (v := (0 : Int32)) G.x G.b dX10_inShop_0 (by decide) ?_
  refine lv_istore_n (lv' := [(1, .int (0 : Int32)), (0, .ref (za w 0))]) G.x G.b dX10_inShop_1 rfl hl (Nat.le_of_ble_eq_true rfl) rfl (fun ls hl => ?_)
  refine lv_iconst (v := (0 : Int32)) G.x G.b dX10_inShop_2 (by decide) ?_
  refine lv_istore_n (lv' := [(2, .int (0 : Int32)), (1, .int (0 : Int32)), (0, .ref (za w 0))]) G.x G.b dX10_inShop_3 rfl hl (Nat.le_of_ble_eq_true rfl) rfl (fun ls hl => ?_)
  obtain ⟨E40_2, hE40_2, h⟩ := z_j h
  have kE40_2 : ∀ (x1 : Int32) (ls : Array Slot), E40_2 x1 = some r → lv_has ls 3 [(1, .int x1)] → zGo p l e rX10_inShop s m args below meth c (zR (some (.int r))) zNo s.heap [] (F0 m 40 ls []) := by
    intro x1 ls h hl
    rw [hE40_2] at h
    refine lv_iload_n G.x G.b dX10_inShop_40 rfl (lv_at hl 0 rfl) ?_
    exact z_rtI G hr hlk h dX10_inShop_41
  have n5 : ∀ (n : Nat) (x3 : Int32) (x4 : Int32) (ls : Array Slot), zL2 (bX10_inShop_4 M0 E40_2) n x3 x4 = some r → lv_has ls 3 [(0, .ref (za w 0)), (1, .int x3), (2, .int x4)] → zGo p l e rX10_inShop s m args below meth c (zR (some (.int r))) zNo s.heap [] (F0 m 4 ls []) := by
    intro n
    induction n with
    | zero => intro x3 x4 ls h; exact (zL2_0 h).elim
    | succ n ih5 =>
      intro x3 x4 ls h hl
      obtain ⟨rc5, hrc5, h⟩ := zL2_s h
      rw [← hrc5] at ih5
      unfold bX10_inShop_4 at h
      refine lv_iload_n G.x G.b dX10_inShop_4 rfl (lv_at hl 2 rfl) ?_
      refine lv_aload_n G.x G.b dX10_inShop_5 rfl (lv_at hl 0 rfl) ?_
      refine z_get (v := .ref (za w 1)) (k := 0) G hH.1 (mM0 hw) vc10 inU10 0 (by decide) u767 rfl dX10_inShop_6 ?_
      refine lv_iconst (v := (1 : Int32)) G.x G.b dX10_inShop_9 (by decide) ?_
      refine z_iald (k := 1) G hH.1 (mM1 hw) (by decide : zix (1 : Int32) 59 = some 1) dX10_inShop_10 ?_
      refine lv_icmp_ge (tgt := 40) G.x G.b dX10_inShop_11 (by decide) (fun c6 => ?_) (fun c6 => ?_)
      · have h := z_if c6 h
        exact kE40_2 x3 ls h (lv_sub hl [1] rfl)
      · have h := z_ifn c6 h
        refine lv_iload_n G.x G.b dX10_inShop_14 rfl (lv_at hl 1 rfl) ?_
        refine lv_aload_n G.x G.b dX10_inShop_15 rfl (lv_at hl 0 rfl) ?_
        refine lv_iload_n G.x G.b dX10_inShop_16 rfl (lv_at hl 2 rfl) ?_
        refine lv_iconst (v := (3 : Int32)) G.x G.b dX10_inShop_17 (by decide) ?_
        obtain ⟨x7, ex7, h⟩ := z_bind h
        refine z_rdI (z_runV (k := 0) (As := [.int x4, .int (3 : Int32)]) (rest := [.int x3]) G hH hl.1 (kX10_its l hw ex7) (mM0 hw) vc10 arX10_its u882 u884 us24 u11 u885 rfl rfl rfl (Nat.le_of_ble_eq_true rfl) (Nat.le_of_ble_eq_true rfl) rfl (Nat.le_of_ble_eq_true rfl) dX10_inShop_18) ?_
        refine lv_iconst (v := (-1 : Int32)) G.x G.b dX10_inShop_21 (by decide) ?_
        obtain ⟨J32_9, hJ32_9, h⟩ := z_j h
        have kJ32_9 : ∀ (x8 : Int32) (ls : Array Slot), J32_9 x8 = some r → lv_has ls 3 [(0, .ref (za w 0)), (2, .int x4)] → zGo p l e rX10_inShop s m args below meth c (zR (some (.int r))) zNo s.heap [] (F0 m 32 ls [.int x8, .int x3]) := by
          intro x8 ls h hl
          rw [hJ32_9] at h
          refine lv_ior G.x G.b dX10_inShop_32 ?_
          obtain ⟨x10, ex10, h⟩ := z_let h
          refine z_nmI ex10 ?_
          refine lv_istore_n (lv' := [(1, .int x10), (0, .ref (za w 0)), (2, .int x4)]) G.x G.b dX10_inShop_33 rfl hl (Nat.le_of_ble_eq_true rfl) rfl (fun ls hl => ?_)
          obtain ⟨x11, ex11, h⟩ := z_let h
          refine lv_iinc (v := x11) (lv' := [(2, .int x11), (1, .int x10), (0, .ref (za w 0))]) G.x G.b dX10_inShop_34 hl (k := 2) rfl (by rw [ex11]; rfl) (Nat.le_of_ble_eq_true rfl) rfl (fun ls hl => ?_)
          refine lv_goto (tgt := 4) G.x G.b dX10_inShop_37 (by decide) ?_
          exact ih5 x10 x11 ls h (lv_sub hl [2, 1, 0] rfl)
        refine lv_icmp_ne (tgt := 31) G.x G.b dX10_inShop_22 (by decide) (fun c12 => ?_) (fun c12 => ?_)
        · have h := z_ifn c12 h
          refine lv_iconst (v := (0 : Int32)) G.x G.b dX10_inShop_31 (by decide) ?_
          exact kJ32_9 (0 : Int32) ls h (lv_sub hl [0, 2] rfl)
        · have h := z_if c12 h
          refine lv_iconst (v := (1 : Int32)) G.x G.b dX10_inShop_25 (by decide) ?_
          refine lv_iload_n G.x G.b dX10_inShop_26 rfl (lv_at hl 2 rfl) ?_
          refine lv_ishl G.x G.b dX10_inShop_27 ?_
          refine lv_goto (tgt := 32) G.x G.b dX10_inShop_28 (by decide) ?_
          exact kJ32_9 ((1 : Int32) <<< (x4 &&& 31)) ls h (lv_sub hl [0, 2] rfl)
  exact n5 zFuel (0 : Int32) (0 : Int32) ls h (lv_sub hl [2, 1, 0] rfl)
def bX10_bearded_4 (M0 : zM) (E45_2 : Int32 → Option Int32) (rc5 : Int32 → Int32 → Option Int32) (x3 : Int32) (x4 : Int32) : Option Int32 :=
  if (M0.1 1 1) ≤ x4 then (E45_2 x3) else ((fX10_its M0 x4 (3 : Int32)).bind fun x7 =>
  zj (fun (x8 : Int32) =>
  (some (x3 ||| x8)).bind fun x10 =>
  (some (x4 + (1 : Int32))).bind fun x11 =>
  rc5 x10 x11) fun J37_9 =>
  if x7 = (-1 : Int32) then (J37_9 (0 : Int32)) else ((fX10_its M0 x4 (3 : Int32)).bind fun x13 =>
  J37_9 ((1 : Int32) <<< (x13 &&& 31))))
def lX10_bearded_4 (M0 : zM) (E45_2 : Int32 → Option Int32) : Nat → Int32 → Int32 → Option Int32 := zL2 (bX10_bearded_4 M0 E45_2)
def fX10_bearded (M0 : zM) : Option Int32 :=
  zj (fun (x1 : Int32) =>
  some x1) fun E45_2 =>
  lX10_bearded_4 M0 E45_2 zFuel (0 : Int32) (0 : Int32)
abbrev rX10_bearded : Room := { frames := 2, cells := 0, slots := 0, locals := 43 }
theorem arX10_bearded : zAr yX10_bearded RX10 0 := ⟨rfl, by decide, by decide, by decide +kernel⟩
set_option maxHeartbeats 4000000 in
theorem kX10_bearded (l : Launch) {w : zWd} (hw : zIsM w) {M0 : zM} {r : Int32} (h : fX10_bearded M0 = some r) : Met l yX10_bearded (Cond.code yX10_bearded cX10_bearded 3 (some .int) :: zU) rX10_bearded (zPre w M0 [.ref (za w 0)]) (zR (some (.int r))) 0 0 zNo := by
  refine z_metN (own := RX10) (lv := [(0, .ref (za w 0))]) hw.1 (by decide) (Nat.le_of_ble_eq_true rfl) rfl rfl ?_
  intro p e s m args below meth c G hr hlk hH ls hl
  unfold fX10_bearded at h
  refine lv_iconst (v := (0 : Int32)) G.x G.b dX10_bearded_0 (by decide) ?_
  refine lv_istore_n (lv' := [(1, .int (0 : Int32)), (0, .ref (za w 0))]) G.x G.b dX10_bearded_1 rfl hl (Nat.le_of_ble_eq_true rfl) rfl (fun ls hl => ?_)
  refine lv_iconst (v := (0 : Int32)) G.x G.b dX10_bearded_2 (by decide) ?_
  refine lv_istore_n (lv' := [(2, .int (0 : Int32)), (1, .int (0 : Int32)), (0, .ref (za w 0))]) G.x G.b dX10_bearded_3 rfl hl (Nat.le_of_ble_eq_true rfl) rfl (fun ls hl => ?_)
  obtain ⟨E45_2, hE45_2, h⟩ := z_j h
  have kE45_2 : ∀ (x1 : Int32) (ls : Array Slot), E45_2 x1 = some r → lv_has ls 3 [(1, .int x1)] → zGo p l e rX10_bearded s m args below meth c (zR (some (.int r))) zNo s.heap [] (F0 m 45 ls []) := by
    intro x1 ls h hl
    rw [hE45_2] at h
    refine lv_iload_n G.x G.b dX10_bearded_45 rfl (lv_at hl 0 rfl) ?_
    exact z_rtI G hr hlk h dX10_bearded_46
  have n5 : ∀ (n : Nat) (x3 : Int32) (x4 : Int32) (ls : Array Slot), zL2 (bX10_bearded_4 M0 E45_2) n x3 x4 = some r → lv_has ls 3 [(0, .ref (za w 0)), (1, .int x3), (2, .int x4)] → zGo p l e rX10_bearded s m args below meth c (zR (some (.int r))) zNo s.heap [] (F0 m 4 ls []) := by
    intro n
    induction n with
    | zero => intro x3 x4 ls h; exact (zL2_0 h).elim
    | succ n ih5 =>
      intro x3 x4 ls h hl
      obtain ⟨rc5, hrc5, h⟩ := zL2_s h
      rw [← hrc5] at ih5
      unfold bX10_bearded_4 at h
      refine lv_iload_n G.x G.b dX10_bearded_4 rfl (lv_at hl 2 rfl) ?_
      refine lv_aload_n G.x G.b dX10_bearded_5 rfl (lv_at hl 0 rfl) ?_
      refine z_get (v := .ref (za w 1)) (k := 0) G hH.1 (mM0 hw) vc10 inU10 0 (by decide) u767 rfl dX10_bearded_6 ?_
      refine lv_iconst (v := (1 : Int32)) G.x G.b dX10_bearded_9 (by decide) ?_
      refine z_iald (k := 1) G hH.1 (mM1 hw) (by decide : zix (1 : Int32) 59 = some 1) dX10_bearded_10 ?_
      refine lv_icmp_ge (tgt := 45) G.x G.b dX10_bearded_11 (by decide) (fun c6 => ?_) (fun c6 => ?_)
      · have h := z_if c6 h
        exact kE45_2 x3 ls h (lv_sub hl [1] rfl)
      · have h := z_ifn c6 h
        refine lv_iload_n G.x G.b dX10_bearded_14 rfl (lv_at hl 1 rfl) ?_
        refine lv_aload_n G.x G.b dX10_bearded_15 rfl (lv_at hl 0 rfl) ?_
        refine lv_iload_n G.x G.b dX10_bearded_16 rfl (lv_at hl 2 rfl) ?_
        refine lv_iconst (v := (3 : Int32)) G.x G.b dX10_bearded_17 (by decide) ?_
        obtain ⟨x7, ex7, h⟩ := z_bind h
        refine z_rdI (z_runV (k := 0) (As := [.int x4, .int (3 : Int32)]) (rest := [.int x3]) G hH hl.1 (kX10_its l hw ex7) (mM0 hw) vc10 arX10_its u882 u884 us24 u11 u885 rfl rfl rfl (Nat.le_of_ble_eq_true rfl) (Nat.le_of_ble_eq_true rfl) rfl (Nat.le_of_ble_eq_true rfl) dX10_bearded_18) ?_
        refine lv_iconst (v := (-1 : Int32)) G.x G.b dX10_bearded_21 (by decide) ?_
        obtain ⟨J37_9, hJ37_9, h⟩ := z_j h
        have kJ37_9 : ∀ (x8 : Int32) (ls : Array Slot), J37_9 x8 = some r → lv_has ls 3 [(0, .ref (za w 0)), (2, .int x4)] → zGo p l e rX10_bearded s m args below meth c (zR (some (.int r))) zNo s.heap [] (F0 m 37 ls [.int x8, .int x3]) := by
          intro x8 ls h hl
          rw [hJ37_9] at h
          refine lv_ior G.x G.b dX10_bearded_37 ?_
          obtain ⟨x10, ex10, h⟩ := z_let h
          refine z_nmI ex10 ?_
          refine lv_istore_n (lv' := [(1, .int x10), (0, .ref (za w 0)), (2, .int x4)]) G.x G.b dX10_bearded_38 rfl hl (Nat.le_of_ble_eq_true rfl) rfl (fun ls hl => ?_)
          obtain ⟨x11, ex11, h⟩ := z_let h
          refine lv_iinc (v := x11) (lv' := [(2, .int x11), (1, .int x10), (0, .ref (za w 0))]) G.x G.b dX10_bearded_39 hl (k := 2) rfl (by rw [ex11]; rfl) (Nat.le_of_ble_eq_true rfl) rfl (fun ls hl => ?_)
          refine lv_goto (tgt := 4) G.x G.b dX10_bearded_42 (by decide) ?_
          exact ih5 x10 x11 ls h (lv_sub hl [2, 1, 0] rfl)
        refine lv_icmp_ne (tgt := 29) G.x G.b dX10_bearded_22 (by decide) (fun c12 => ?_) (fun c12 => ?_)
        · have h := z_ifn c12 h
          refine lv_iconst (v := (1 : Int32)) G.x G.b dX10_bearded_29 (by decide) ?_
          refine lv_aload_n G.x G.b dX10_bearded_30 rfl (lv_at hl 0 rfl) ?_
          refine lv_iload_n G.x G.b dX10_bearded_31 rfl (lv_at hl 2 rfl) ?_
          refine lv_iconst (v := (3 : Int32)) G.x G.b dX10_bearded_32 (by decide) ?_
          obtain ⟨x13, ex13, h⟩ := z_bind h
          refine z_rdI (z_runV (k := 0) (As := [.int x4, .int (3 : Int32)]) (rest := [.int (1 : Int32), .int x3]) G hH hl.1 (kX10_its l hw ex13) (mM0 hw) vc10 arX10_its u882 u884 us24 u11 u885 rfl rfl rfl (Nat.le_of_ble_eq_true rfl) (Nat.le_of_ble_eq_true rfl) rfl (Nat.le_of_ble_eq_true rfl) dX10_bearded_33) ?_
          refine lv_ishl G.x G.b dX10_bearded_36 ?_
          exact kJ37_9 ((1 : Int32) <<< (x13 &&& 31)) ls h (lv_sub hl [0, 2] rfl)
        · have h := z_if c12 h
          refine lv_iconst (v := (0 : Int32)) G.x G.b dX10_bearded_25 (by decide) ?_
          refine lv_goto (tgt := 37) G.x G.b dX10_bearded_26 (by decide) ?_
          exact kJ37_9 (0 : Int32) ls h (lv_sub hl [0, 2] rfl)
  exact n5 zFuel (0 : Int32) (0 : Int32) ls h (lv_sub hl [2, 1, 0] rfl)
def bX10_purses_4 (M0 : zM) (E29_2 : Int32 → Option Int32) (rc5 : Int32 → Int32 → Option Int32) (x3 : Int32) (x4 : Int32) : Option Int32 :=
  if (M0.1 1 2) ≤ x4 then (E29_2 x3) else ((fX10_theirs M0 x4 (0 : Int32)).bind fun x7 =>
  (some (x3 + x7)).bind fun x8 =>
  (some (x4 + (1 : Int32))).bind fun x9 =>
  rc5 x8 x9)
def lX10_purses_4 (M0 : zM) (E29_2 : Int32 → Option Int32) : Nat → Int32 → Int32 → Option Int32 := zL2 (bX10_purses_4 M0 E29_2)
def fX10_purses (M0 : zM) : Option Int32 :=
  zj (fun (x1 : Int32) =>
  some x1) fun E29_2 =>
  lX10_purses_4 M0 E29_2 zFuel (0 : Int32) (0 : Int32)
abbrev rX10_purses : Room := { frames := 2, cells := 0, slots := 0, locals := 43 }
theorem arX10_purses : zAr yX10_purses RX10 0 := ⟨rfl, by decide, by decide, by decide +kernel⟩
set_option maxHeartbeats 4000000 in
theorem kX10_purses (l : Launch) {w : zWd} (hw : zIsM w) {M0 : zM} {r : Int32} (h : fX10_purses M0 = some r) : Met l yX10_purses (Cond.code yX10_purses cX10_purses 3 (some .int) :: zU) rX10_purses (zPre w M0 [.ref (za w 0)]) (zR (some (.int r))) 0 0 zNo := by
  refine z_metN (own := RX10) (lv := [(0, .ref (za w 0))]) hw.1 (by decide) (Nat.le_of_ble_eq_true rfl) rfl rfl ?_
  intro p e s m args below meth c G hr hlk hH ls hl
  unfold fX10_purses at h
  refine lv_iconst (v := (0 : Int32)) G.x G.b dX10_purses_0 (by decide) ?_
  refine lv_istore_n (lv' := [(1, .int (0 : Int32)), (0, .ref (za w 0))]) G.x G.b dX10_purses_1 rfl hl (Nat.le_of_ble_eq_true rfl) rfl (fun ls hl => ?_)
  refine lv_iconst (v := (0 : Int32)) G.x G.b dX10_purses_2 (by decide) ?_
  refine lv_istore_n (lv' := [(2, .int (0 : Int32)), (1, .int (0 : Int32)), (0, .ref (za w 0))]) G.x G.b dX10_purses_3 rfl hl (Nat.le_of_ble_eq_true rfl) rfl (fun ls hl => ?_)
  obtain ⟨E29_2, hE29_2, h⟩ := z_j h
  have kE29_2 : ∀ (x1 : Int32) (ls : Array Slot), E29_2 x1 = some r → lv_has ls 3 [(1, .int x1)] → zGo p l e rX10_purses s m args below meth c (zR (some (.int r))) zNo s.heap [] (F0 m 29 ls []) := by
    intro x1 ls h hl
    rw [hE29_2] at h
    refine lv_iload_n G.x G.b dX10_purses_29 rfl (lv_at hl 0 rfl) ?_
    exact z_rtI G hr hlk h dX10_purses_30
  have n5 : ∀ (n : Nat) (x3 : Int32) (x4 : Int32) (ls : Array Slot), zL2 (bX10_purses_4 M0 E29_2) n x3 x4 = some r → lv_has ls 3 [(0, .ref (za w 0)), (1, .int x3), (2, .int x4)] → zGo p l e rX10_purses s m args below meth c (zR (some (.int r))) zNo s.heap [] (F0 m 4 ls []) := by
    intro n
    induction n with
    | zero => intro x3 x4 ls h; exact (zL2_0 h).elim
    | succ n ih5 =>
      intro x3 x4 ls h hl
      obtain ⟨rc5, hrc5, h⟩ := zL2_s h
      rw [← hrc5] at ih5
      unfold bX10_purses_4 at h
      refine lv_iload_n G.x G.b dX10_purses_4 rfl (lv_at hl 2 rfl) ?_
      refine lv_aload_n G.x G.b dX10_purses_5 rfl (lv_at hl 0 rfl) ?_
      refine z_get (v := .ref (za w 1)) (k := 0) G hH.1 (mM0 hw) vc10 inU10 0 (by decide) u767 rfl dX10_purses_6 ?_
      refine lv_iconst (v := (2 : Int32)) G.x G.b dX10_purses_9 (by decide) ?_
      refine z_iald (k := 1) G hH.1 (mM1 hw) (by decide : zix (2 : Int32) 59 = some 2) dX10_purses_10 ?_
      refine lv_icmp_ge (tgt := 29) G.x G.b dX10_purses_11 (by decide) (fun c6 => ?_) (fun c6 => ?_)
      · have h := z_if c6 h
        exact kE29_2 x3 ls h (lv_sub hl [1] rfl)
      · have h := z_ifn c6 h
        refine lv_iload_n G.x G.b dX10_purses_14 rfl (lv_at hl 1 rfl) ?_
        refine lv_aload_n G.x G.b dX10_purses_15 rfl (lv_at hl 0 rfl) ?_
        refine lv_iload_n G.x G.b dX10_purses_16 rfl (lv_at hl 2 rfl) ?_
        refine lv_iconst (v := (0 : Int32)) G.x G.b dX10_purses_17 (by decide) ?_
        obtain ⟨x7, ex7, h⟩ := z_bind h
        refine z_rdI (z_runV (k := 0) (As := [.int x4, .int (0 : Int32)]) (rest := [.int x3]) G hH hl.1 (kX10_theirs l hw ex7) (mM0 hw) vc10 arX10_theirs u863 u865 us21 u11 u866 rfl rfl rfl (Nat.le_of_ble_eq_true rfl) (Nat.le_of_ble_eq_true rfl) rfl (Nat.le_of_ble_eq_true rfl) dX10_purses_18) ?_
        refine lv_iadd G.x G.b dX10_purses_21 ?_
        obtain ⟨x8, ex8, h⟩ := z_let h
        refine z_nmI ex8 ?_
        refine lv_istore_n (lv' := [(1, .int x8), (0, .ref (za w 0)), (2, .int x4)]) G.x G.b dX10_purses_22 rfl hl (Nat.le_of_ble_eq_true rfl) rfl (fun ls hl => ?_)
        obtain ⟨x9, ex9, h⟩ := z_let h
        refine lv_iinc (v := x9) (lv' := [(2, .int x9), (1, .int x8), (0, .ref (za w 0))]) G.x G.b dX10_purses_23 hl (k := 2) rfl (by rw [ex9]; rfl) (Nat.le_of_ble_eq_true rfl) rfl (fun ls hl => ?_)
        refine lv_goto (tgt := 4) G.x G.b dX10_purses_26 (by decide) ?_
        exact ih5 x8 x9 ls h (lv_sub hl [2, 1, 0] rfl)
  exact n5 zFuel (0 : Int32) (0 : Int32) ls h (lv_sub hl [2, 1, 0] rfl)
def bX10_hoards_4 (M0 : zM) (E29_2 : Int32 → Option Int32) (rc5 : Int32 → Int32 → Option Int32) (x3 : Int32) (x4 : Int32) : Option Int32 :=
  if (M0.1 1 1) ≤ x4 then (E29_2 x3) else ((fX10_its M0 x4 (2 : Int32)).bind fun x7 =>
  (some (x3 + x7)).bind fun x8 =>
  (some (x4 + (1 : Int32))).bind fun x9 =>
  rc5 x8 x9)
def lX10_hoards_4 (M0 : zM) (E29_2 : Int32 → Option Int32) : Nat → Int32 → Int32 → Option Int32 := zL2 (bX10_hoards_4 M0 E29_2)
def fX10_hoards (M0 : zM) : Option Int32 :=
  zj (fun (x1 : Int32) =>
  some x1) fun E29_2 =>
  lX10_hoards_4 M0 E29_2 zFuel (0 : Int32) (0 : Int32)
abbrev rX10_hoards : Room := { frames := 2, cells := 0, slots := 0, locals := 43 }
theorem arX10_hoards : zAr yX10_hoards RX10 0 := ⟨rfl, by decide, by decide, by decide +kernel⟩
set_option maxHeartbeats 4000000 in
theorem kX10_hoards (l : Launch) {w : zWd} (hw : zIsM w) {M0 : zM} {r : Int32} (h : fX10_hoards M0 = some r) : Met l yX10_hoards (Cond.code yX10_hoards cX10_hoards 3 (some .int) :: zU) rX10_hoards (zPre w M0 [.ref (za w 0)]) (zR (some (.int r))) 0 0 zNo := by
  refine z_metN (own := RX10) (lv := [(0, .ref (za w 0))]) hw.1 (by decide) (Nat.le_of_ble_eq_true rfl) rfl rfl ?_
  intro p e s m args below meth c G hr hlk hH ls hl
  unfold fX10_hoards at h
  refine lv_iconst (v := (0 : Int32)) G.x G.b dX10_hoards_0 (by decide) ?_
  refine lv_istore_n (lv' := [(1, .int (0 : Int32)), (0, .ref (za w 0))]) G.x G.b dX10_hoards_1 rfl hl (Nat.le_of_ble_eq_true rfl) rfl (fun ls hl => ?_)
  refine lv_iconst (v := (0 : Int32)) G.x G.b dX10_hoards_2 (by decide) ?_
  refine lv_istore_n (lv' := [(2, .int (0 : Int32)), (1, .int (0 : Int32)), (0, .ref (za w 0))]) G.x G.b dX10_hoards_3 rfl hl (Nat.le_of_ble_eq_true rfl) rfl (fun ls hl => ?_)
  obtain ⟨E29_2, hE29_2, h⟩ := z_j h
  have kE29_2 : ∀ (x1 : Int32) (ls : Array Slot), E29_2 x1 = some r → lv_has ls 3 [(1, .int x1)] → zGo p l e rX10_hoards s m args below meth c (zR (some (.int r))) zNo s.heap [] (F0 m 29 ls []) := by
    intro x1 ls h hl
    rw [hE29_2] at h
    refine lv_iload_n G.x G.b dX10_hoards_29 rfl (lv_at hl 0 rfl) ?_
    exact z_rtI G hr hlk h dX10_hoards_30
  have n5 : ∀ (n : Nat) (x3 : Int32) (x4 : Int32) (ls : Array Slot), zL2 (bX10_hoards_4 M0 E29_2) n x3 x4 = some r → lv_has ls 3 [(0, .ref (za w 0)), (1, .int x3), (2, .int x4)] → zGo p l e rX10_hoards s m args below meth c (zR (some (.int r))) zNo s.heap [] (F0 m 4 ls []) := by
    intro n
    induction n with
    | zero => intro x3 x4 ls h; exact (zL2_0 h).elim
    | succ n ih5 =>
      intro x3 x4 ls h hl
      obtain ⟨rc5, hrc5, h⟩ := zL2_s h
      rw [← hrc5] at ih5
      unfold bX10_hoards_4 at h
      refine lv_iload_n G.x G.b dX10_hoards_4 rfl (lv_at hl 2 rfl) ?_
      refine lv_aload_n G.x G.b dX10_hoards_5 rfl (lv_at hl 0 rfl) ?_
      refine z_get (v := .ref (za w 1)) (k := 0) G hH.1 (mM0 hw) vc10 inU10 0 (by decide) u767 rfl dX10_hoards_6 ?_
      refine lv_iconst (v := (1 : Int32)) G.x G.b dX10_hoards_9 (by decide) ?_
      refine z_iald (k := 1) G hH.1 (mM1 hw) (by decide : zix (1 : Int32) 59 = some 1) dX10_hoards_10 ?_
      refine lv_icmp_ge (tgt := 29) G.x G.b dX10_hoards_11 (by decide) (fun c6 => ?_) (fun c6 => ?_)
      · have h := z_if c6 h
        exact kE29_2 x3 ls h (lv_sub hl [1] rfl)
      · have h := z_ifn c6 h
        refine lv_iload_n G.x G.b dX10_hoards_14 rfl (lv_at hl 1 rfl) ?_
        refine lv_aload_n G.x G.b dX10_hoards_15 rfl (lv_at hl 0 rfl) ?_
        refine lv_iload_n G.x G.b dX10_hoards_16 rfl (lv_at hl 2 rfl) ?_
        refine lv_iconst (v := (2 : Int32)) G.x G.b dX10_hoards_17 (by decide) ?_
        obtain ⟨x7, ex7, h⟩ := z_bind h
        refine z_rdI (z_runV (k := 0) (As := [.int x4, .int (2 : Int32)]) (rest := [.int x3]) G hH hl.1 (kX10_its l hw ex7) (mM0 hw) vc10 arX10_its u882 u884 us24 u11 u885 rfl rfl rfl (Nat.le_of_ble_eq_true rfl) (Nat.le_of_ble_eq_true rfl) rfl (Nat.le_of_ble_eq_true rfl) dX10_hoards_18) ?_
        refine lv_iadd G.x G.b dX10_hoards_21 ?_
        obtain ⟨x8, ex8, h⟩ := z_let h
        refine z_nmI ex8 ?_
        refine lv_istore_n (lv' := [(1, .int x8), (0, .ref (za w 0)), (2, .int x4)]) G.x G.b dX10_hoards_22 rfl hl (Nat.le_of_ble_eq_true rfl) rfl (fun ls hl => ?_)
        obtain ⟨x9, ex9, h⟩ := z_let h
        refine lv_iinc (v := x9) (lv' := [(2, .int x9), (1, .int x8), (0, .ref (za w 0))]) G.x G.b dX10_hoards_23 hl (k := 2) rfl (by rw [ex9]; rfl) (Nat.le_of_ble_eq_true rfl) rfl (fun ls hl => ?_)
        refine lv_goto (tgt := 4) G.x G.b dX10_hoards_26 (by decide) ?_
        exact ih5 x8 x9 ls h (lv_sub hl [2, 1, 0] rfl)
  exact n5 zFuel (0 : Int32) (0 : Int32) ls h (lv_sub hl [2, 1, 0] rfl)
def fX10_now (M0 : zM) (a1 : Int32) : Option (Int32 × zM) :=
  if a1 = (0 : Int32) then (some ((M0.1 1 0), M0)) else (if a1 = (1 : Int32) then ((fX10_isMonday M0).bind fun x3 =>
  if x3 = (0 : Int32) then (some ((0 : Int32), M0)) else (some ((1 : Int32), M0))) else (if a1 = (2 : Int32) then ((fX10_inShop M0).bind fun x6 =>
  some (x6, M0)) else (if a1 = (3 : Int32) then ((fX10_bearded M0).bind fun x8 =>
  some (x8, M0)) else (if a1 = (4 : Int32) then ((fX10_purses M0).bind fun x10 =>
  some (x10, M0)) else (zb2 (fX10_finds M0 (-1000000001 : Int32)) fun x11 M12 =>
  some (x11, M12))))))
abbrev rX10_now : Room := { frames := 3, cells := 0, slots := 0, locals := 65 }
theorem arX10_now : zAr yX10_now RX10 1 := ⟨rfl, by decide, by decide, by decide +kernel⟩
set_option maxHeartbeats 4000000 in
theorem kX10_now (l : Launch) {w : zWd} (hw : zIsM w) {M0 M' : zM} {a1 : Int32} {r : Int32} (h : fX10_now M0 a1 = some (r, M')) : Met l yX10_now (Cond.code yX10_now cX10_now 2 (some .int) :: zU) rX10_now (zPre w M0 [.ref (za w 0), .int a1]) (zQ w (some (.int r)) M') 0 0 (zA w) := by
  refine z_metN (own := RX10) (lv := [(0, .ref (za w 0)), (1, .int a1)]) hw.1 (by decide) (Nat.le_of_ble_eq_true rfl) rfl rfl ?_
  intro p e s m args below meth c G hr hlk hH ls hl
  unfold fX10_now at h
  refine lv_iload_n G.x G.b dX10_now_0 rfl (lv_at hl 1 rfl) ?_
  by_cases c1 : a1 = (0 : Int32)
  · have h := z_if c1 h
    refine z_tab (tgt := 36) G.x G.b dX10_now_1 c1 (by decide) (by decide) rfl (by decide) ?_
    refine lv_aload_n G.x G.b dX10_now_36 rfl (lv_at hl 0 rfl) ?_
    refine z_get (v := .ref (za w 1)) (k := 0) G hH.1 (mM0 hw) vc10 inU10 0 (by decide) u767 rfl dX10_now_37 ?_
    refine lv_iconst (v := (0 : Int32)) G.x G.b dX10_now_40 (by decide) ?_
    refine z_iald (k := 1) G hH.1 (mM1 hw) (by decide : zix (0 : Int32) 59 = some 0) dX10_now_41 ?_
    exact z_retI G hr hlk hH h dX10_now_42
  have h := z_ifn c1 h
  by_cases c2 : a1 = (1 : Int32)
  · have h := z_if c2 h
    refine z_tab (tgt := 43) G.x G.b dX10_now_1 c2 (by decide) (by decide) rfl (by decide) ?_
    refine lv_aload_n G.x G.b dX10_now_43 rfl (lv_at hl 0 rfl) ?_
    obtain ⟨x3, ex3, h⟩ := z_bind h
    refine z_rdI (z_runV (k := 0) (As := []) (rest := []) G hH hl.1 (kX10_isMonday l hw ex3) (mM0 hw) vc10 arX10_isMonday u874 u876 us22 u11 u877 rfl rfl rfl (Nat.le_of_ble_eq_true rfl) (Nat.le_of_ble_eq_true rfl) rfl (Nat.le_of_ble_eq_true rfl) dX10_now_44) ?_
    refine lv_if_eq (tgt := 54) G.x G.b dX10_now_47 (by decide) (fun c4 => ?_) (fun c4 => ?_)
    · have h := z_if c4 h
      refine lv_iconst (v := (0 : Int32)) G.x G.b dX10_now_54 (by decide) ?_
      exact z_retI G hr hlk hH h dX10_now_55
    · have h := z_ifn c4 h
      refine lv_iconst (v := (1 : Int32)) G.x G.b dX10_now_50 (by decide) ?_
      refine lv_goto (tgt := 55) G.x G.b dX10_now_51 (by decide) ?_
      exact z_retI G hr hlk hH h dX10_now_55
  have h := z_ifn c2 h
  by_cases c5 : a1 = (2 : Int32)
  · have h := z_if c5 h
    refine z_tab (tgt := 56) G.x G.b dX10_now_1 c5 (by decide) (by decide) rfl (by decide) ?_
    refine lv_aload_n G.x G.b dX10_now_56 rfl (lv_at hl 0 rfl) ?_
    obtain ⟨x6, ex6, h⟩ := z_bind h
    refine z_rdI (z_runV (k := 0) (As := []) (rest := []) G hH hl.1 (kX10_inShop l hw ex6) (mM0 hw) vc10 arX10_inShop u878 u880 us23 u11 u881 rfl rfl rfl (Nat.le_of_ble_eq_true rfl) (Nat.le_of_ble_eq_true rfl) rfl (Nat.le_of_ble_eq_true rfl) dX10_now_57) ?_
    exact z_retI G hr hlk hH h dX10_now_60
  have h := z_ifn c5 h
  by_cases c7 : a1 = (3 : Int32)
  · have h := z_if c7 h
    refine z_tab (tgt := 61) G.x G.b dX10_now_1 c7 (by decide) (by decide) rfl (by decide) ?_
    refine lv_aload_n G.x G.b dX10_now_61 rfl (lv_at hl 0 rfl) ?_
    obtain ⟨x8, ex8, h⟩ := z_bind h
    refine z_rdI (z_runV (k := 0) (As := []) (rest := []) G hH hl.1 (kX10_bearded l hw ex8) (mM0 hw) vc10 arX10_bearded u889 u891 us25 u11 u892 rfl rfl rfl (Nat.le_of_ble_eq_true rfl) (Nat.le_of_ble_eq_true rfl) rfl (Nat.le_of_ble_eq_true rfl) dX10_now_62) ?_
    exact z_retI G hr hlk hH h dX10_now_65
  have h := z_ifn c7 h
  by_cases c9 : a1 = (4 : Int32)
  · have h := z_if c9 h
    refine z_tab (tgt := 66) G.x G.b dX10_now_1 c9 (by decide) (by decide) rfl (by decide) ?_
    refine lv_aload_n G.x G.b dX10_now_66 rfl (lv_at hl 0 rfl) ?_
    obtain ⟨x10, ex10, h⟩ := z_bind h
    refine z_rdI (z_runV (k := 0) (As := []) (rest := []) G hH hl.1 (kX10_purses l hw ex10) (mM0 hw) vc10 arX10_purses u893 u895 us26 u11 u896 rfl rfl rfl (Nat.le_of_ble_eq_true rfl) (Nat.le_of_ble_eq_true rfl) rfl (Nat.le_of_ble_eq_true rfl) dX10_now_67) ?_
    exact z_retI G hr hlk hH h dX10_now_70
  have h := z_ifn c9 h
  refine lv_tableOut (tgt := 71) G.x G.b dX10_now_1 (by have gc1 := lv_neT (a := 0) c1 (by decide); have gc2 := lv_neT (a := 1) c2 (by decide); have gc5 := lv_neT (a := 2) c5 (by decide); have gc7 := lv_neT (a := 3) c7 (by decide); have gc9 := lv_neT (a := 4) c9 (by decide); omega) (by decide) ?_
  refine lv_aload_n G.x G.b dX10_now_71 rfl (lv_at hl 0 rfl) ?_
  refine lv_ldc G.x G.b G.o (G.t u833) dX10_now_72 ?_
  obtain ⟨x11, M12, eM12, h⟩ := z_b2 h
  refine z_aftI (z_runV (k := 0) (As := [.int (-1000000001 : Int32)]) (rest := []) G hH hl.1 (kX10_finds l hw eM12) (mM0 hw) vc10 arX10_finds u834 u836 us16 u11 u837 rfl rfl rfl (Nat.le_of_ble_eq_true rfl) (Nat.le_of_ble_eq_true rfl) rfl (Nat.le_of_ble_eq_true rfl) dX10_now_74) hH (fun H locs hH => ?_)
  exact z_retI G hr hlk hH h dX10_now_77
def fX10_costsOf (M0 : zM) (a1 : Int32) : Option Int32 :=
  (fX10_its M0 a1 (1 : Int32)).bind fun x1 =>
  (some ((5 : Int32) + (x1 / (10 : Int32)))).bind fun x2 =>
  (fX10_its M0 a1 (0 : Int32)).bind fun x3 =>
  if x3 = (1 : Int32) then (some x2) else (if x3 = (2 : Int32) then (some (12 : Int32)) else (if x3 = (3 : Int32) then (some (2 : Int32)) else (if x3 = (4 : Int32) then (some ((2 : Int32) * x2)) else (if x3 = (5 : Int32) then ((fX10_its M0 a1 (2 : Int32)).bind fun x9 =>
  some ((12 : Int32) + (x9 / (50 : Int32)))) else (some (5 : Int32))))))
abbrev rX10_costsOf : Room := { frames := 2, cells := 0, slots := 0, locals := 43 }
theorem arX10_costsOf : zAr yX10_costsOf RX10 1 := ⟨rfl, by decide, by decide, by decide +kernel⟩
set_option maxHeartbeats 4000000 in
theorem kX10_costsOf (l : Launch) {w : zWd} (hw : zIsM w) {M0 : zM} {a1 : Int32} {r : Int32} (h : fX10_costsOf M0 a1 = some r) : Met l yX10_costsOf (Cond.code yX10_costsOf cX10_costsOf 3 (some .int) :: zU) rX10_costsOf (zPre w M0 [.ref (za w 0), .int a1]) (zR (some (.int r))) 0 0 zNo := by
  refine z_metN (own := RX10) (lv := [(0, .ref (za w 0)), (1, .int a1)]) hw.1 (by decide) (Nat.le_of_ble_eq_true rfl) rfl rfl ?_
  intro p e s m args below meth c G hr hlk hH ls hl
  unfold fX10_costsOf at h
  refine lv_iconst (v := (5 : Int32)) G.x G.b dX10_costsOf_0 (by decide) ?_
  refine lv_aload_n G.x G.b dX10_costsOf_1 rfl (lv_at hl 0 rfl) ?_
  refine lv_iload_n G.x G.b dX10_costsOf_2 rfl (lv_at hl 1 rfl) ?_
  refine lv_iconst (v := (1 : Int32)) G.x G.b dX10_costsOf_3 (by decide) ?_
  obtain ⟨x1, ex1, h⟩ := z_bind h
  refine z_rdI (z_runV (k := 0) (As := [.int a1, .int (1 : Int32)]) (rest := [.int (5 : Int32)]) G hH hl.1 (kX10_its l hw ex1) (mM0 hw) vc10 arX10_its u882 u884 us24 u11 u885 rfl rfl rfl (Nat.le_of_ble_eq_true rfl) (Nat.le_of_ble_eq_true rfl) rfl (Nat.le_of_ble_eq_true rfl) dX10_costsOf_4) ?_
  refine lv_bipush (v := (10 : Int32)) G.x G.b dX10_costsOf_7 (by decide) ?_
  refine lv_idiv G.x G.b dX10_costsOf_9 (by decide) ?_
  refine lv_iadd G.x G.b dX10_costsOf_10 ?_
  obtain ⟨x2, ex2, h⟩ := z_let h
  refine z_nmI ex2 ?_
  refine lv_istore_n (lv' := [(2, .int x2), (0, .ref (za w 0)), (1, .int a1)]) G.x G.b dX10_costsOf_11 rfl hl (Nat.le_of_ble_eq_true rfl) rfl (fun ls hl => ?_)
  refine lv_aload_n G.x G.b dX10_costsOf_12 rfl (lv_at hl 1 rfl) ?_
  refine lv_iload_n G.x G.b dX10_costsOf_13 rfl (lv_at hl 2 rfl) ?_
  refine lv_iconst (v := (0 : Int32)) G.x G.b dX10_costsOf_14 (by decide) ?_
  obtain ⟨x3, ex3, h⟩ := z_bind h
  refine z_rdI (z_runV (k := 0) (As := [.int a1, .int (0 : Int32)]) (rest := []) G hH hl.1 (kX10_its l hw ex3) (mM0 hw) vc10 arX10_its u882 u884 us24 u11 u885 rfl rfl rfl (Nat.le_of_ble_eq_true rfl) (Nat.le_of_ble_eq_true rfl) rfl (Nat.le_of_ble_eq_true rfl) dX10_costsOf_15) ?_
  by_cases c4 : x3 = (1 : Int32)
  · have h := z_if c4 h
    refine z_tab (tgt := 52) G.x G.b dX10_costsOf_18 c4 (by decide) (by decide) rfl (by decide) ?_
    refine lv_iload_n G.x G.b dX10_costsOf_52 rfl (lv_at hl 0 rfl) ?_
    exact z_rtI G hr hlk h dX10_costsOf_53
  have h := z_ifn c4 h
  by_cases c5 : x3 = (2 : Int32)
  · have h := z_if c5 h
    refine z_tab (tgt := 54) G.x G.b dX10_costsOf_18 c5 (by decide) (by decide) rfl (by decide) ?_
    refine lv_bipush (v := (12 : Int32)) G.x G.b dX10_costsOf_54 (by decide) ?_
    exact z_rtI G hr hlk h dX10_costsOf_56
  have h := z_ifn c5 h
  by_cases c6 : x3 = (3 : Int32)
  · have h := z_if c6 h
    refine z_tab (tgt := 57) G.x G.b dX10_costsOf_18 c6 (by decide) (by decide) rfl (by decide) ?_
    refine lv_iconst (v := (2 : Int32)) G.x G.b dX10_costsOf_57 (by decide) ?_
    exact z_rtI G hr hlk h dX10_costsOf_58
  have h := z_ifn c6 h
  by_cases c7 : x3 = (4 : Int32)
  · have h := z_if c7 h
    refine z_tab (tgt := 59) G.x G.b dX10_costsOf_18 c7 (by decide) (by decide) rfl (by decide) ?_
    refine lv_iconst (v := (2 : Int32)) G.x G.b dX10_costsOf_59 (by decide) ?_
    refine lv_iload_n G.x G.b dX10_costsOf_60 rfl (lv_at hl 0 rfl) ?_
    refine lv_imul G.x G.b dX10_costsOf_61 ?_
    exact z_rtI G hr hlk h dX10_costsOf_62
  have h := z_ifn c7 h
  by_cases c8 : x3 = (5 : Int32)
  · have h := z_if c8 h
    refine z_tab (tgt := 63) G.x G.b dX10_costsOf_18 c8 (by decide) (by decide) rfl (by decide) ?_
    refine lv_bipush (v := (12 : Int32)) G.x G.b dX10_costsOf_63 (by decide) ?_
    refine lv_aload_n G.x G.b dX10_costsOf_65 rfl (lv_at hl 1 rfl) ?_
    refine lv_iload_n G.x G.b dX10_costsOf_66 rfl (lv_at hl 2 rfl) ?_
    refine lv_iconst (v := (2 : Int32)) G.x G.b dX10_costsOf_67 (by decide) ?_
    obtain ⟨x9, ex9, h⟩ := z_bind h
    refine z_rdI (z_runV (k := 0) (As := [.int a1, .int (2 : Int32)]) (rest := [.int (12 : Int32)]) G hH hl.1 (kX10_its l hw ex9) (mM0 hw) vc10 arX10_its u882 u884 us24 u11 u885 rfl rfl rfl (Nat.le_of_ble_eq_true rfl) (Nat.le_of_ble_eq_true rfl) rfl (Nat.le_of_ble_eq_true rfl) dX10_costsOf_68) ?_
    refine lv_bipush (v := (50 : Int32)) G.x G.b dX10_costsOf_71 (by decide) ?_
    refine lv_idiv G.x G.b dX10_costsOf_73 (by decide) ?_
    refine lv_iadd G.x G.b dX10_costsOf_74 ?_
    exact z_rtI G hr hlk h dX10_costsOf_75
  have h := z_ifn c8 h
  refine lv_tableOut (tgt := 76) G.x G.b dX10_costsOf_18 (by have gc4 := lv_neT (a := 1) c4 (by decide); have gc5 := lv_neT (a := 2) c5 (by decide); have gc6 := lv_neT (a := 3) c6 (by decide); have gc7 := lv_neT (a := 4) c7 (by decide); have gc8 := lv_neT (a := 5) c8 (by decide); omega) (by decide) ?_
  refine lv_iconst (v := (5 : Int32)) G.x G.b dX10_costsOf_76 (by decide) ?_
  exact z_rtI G hr hlk h dX10_costsOf_77
def fX10_meetsOf (M0 : zM) (a1 : Int32) (a2 : Int32) : Option Int32 :=
  (fX10_house M0 a2 (1 : Int32)).bind fun x1 =>
  (fX10_house M0 a2 (0 : Int32)).bind fun x2 =>
  zj (fun (x3 : Int32) =>
  (fX10_its M0 a1 (1 : Int32)).bind fun x5 =>
  zj (fun (x6 : Int32) =>
  zj (fun (x8 : Int32) =>
  (fX10_its M0 a1 (0 : Int32)).bind fun x10 =>
  if x10 = (1 : Int32) then (some x6) else (if x10 = (2 : Int32) then (some x8) else (if x10 = (3 : Int32) then (some (x3 + (1 : Int32))) else (if x10 = (4 : Int32) then (if x1 ≤ (20 : Int32) then (some x6) else (some (x6 + (10 : Int32)))) else (if x10 = (5 : Int32) then (some ((2 : Int32) * x8)) else (some x3)))))) fun J61_9 =>
  if x3 ≤ (0 : Int32) then (J61_9 (-6 : Int32)) else (J61_9 x3)) fun J47_7 =>
  if x5 ≤ (50 : Int32) then (J47_7 x3) else (J47_7 (x3 - (4 : Int32)))) fun J25_4 =>
  if x2 = a1 then (J25_4 (x1 / (10 : Int32))) else (J25_4 (0 : Int32))
abbrev rX10_meetsOf : Room := { frames := 2, cells := 0, slots := 0, locals := 43 }
theorem arX10_meetsOf : zAr yX10_meetsOf RX10 2 := ⟨rfl, by decide, by decide, by decide +kernel⟩
set_option maxHeartbeats 4000000 in
theorem kX10_meetsOf (l : Launch) {w : zWd} (hw : zIsM w) {M0 : zM} {a1 : Int32} {a2 : Int32} {r : Int32} (h : fX10_meetsOf M0 a1 a2 = some r) : Met l yX10_meetsOf (Cond.code yX10_meetsOf cX10_meetsOf 7 (some .int) :: zU) rX10_meetsOf (zPre w M0 [.ref (za w 0), .int a1, .int a2]) (zR (some (.int r))) 0 0 zNo := by
  refine z_metN (own := RX10) (lv := [(0, .ref (za w 0)), (1, .int a1), (2, .int a2)]) hw.1 (by decide) (Nat.le_of_ble_eq_true rfl) rfl rfl ?_
  intro p e s m args below meth c G hr hlk hH ls hl
  unfold fX10_meetsOf at h
  refine lv_aload_n G.x G.b dX10_meetsOf_0 rfl (lv_at hl 0 rfl) ?_
  refine lv_iload_n G.x G.b dX10_meetsOf_1 rfl (lv_at hl 2 rfl) ?_
  refine lv_iconst (v := (1 : Int32)) G.x G.b dX10_meetsOf_2 (by decide) ?_
  obtain ⟨x1, ex1, h⟩ := z_bind h
  refine z_rdI (z_runV (k := 0) (As := [.int a2, .int (1 : Int32)]) (rest := []) G hH hl.1 (kX10_house l hw ex1) (mM0 hw) vc10 arX10_house u851 u853 us18 u11 u854 rfl rfl rfl (Nat.le_of_ble_eq_true rfl) (Nat.le_of_ble_eq_true rfl) rfl (Nat.le_of_ble_eq_true rfl) dX10_meetsOf_3) ?_
  refine lv_istore_n (lv' := [(3, .int x1), (0, .ref (za w 0)), (1, .int a1), (2, .int a2)]) G.x G.b dX10_meetsOf_6 rfl hl (Nat.le_of_ble_eq_true rfl) rfl (fun ls hl => ?_)
  refine lv_aload_n G.x G.b dX10_meetsOf_7 rfl (lv_at hl 1 rfl) ?_
  refine lv_iload_n G.x G.b dX10_meetsOf_8 rfl (lv_at hl 3 rfl) ?_
  refine lv_iconst (v := (0 : Int32)) G.x G.b dX10_meetsOf_9 (by decide) ?_
  obtain ⟨x2, ex2, h⟩ := z_bind h
  refine z_rdI (z_runV (k := 0) (As := [.int a2, .int (0 : Int32)]) (rest := []) G hH hl.1 (kX10_house l hw ex2) (mM0 hw) vc10 arX10_house u851 u853 us18 u11 u854 rfl rfl rfl (Nat.le_of_ble_eq_true rfl) (Nat.le_of_ble_eq_true rfl) rfl (Nat.le_of_ble_eq_true rfl) dX10_meetsOf_10) ?_
  refine lv_iload_n G.x G.b dX10_meetsOf_13 rfl (lv_at hl 2 rfl) ?_
  obtain ⟨J25_4, hJ25_4, h⟩ := z_j h
  have kJ25_4 : ∀ (x3 : Int32) (ls : Array Slot), J25_4 x3 = some r → lv_has ls 7 [(0, .ref (za w 0)), (1, .int a1), (3, .int x1)] → zGo p l e rX10_meetsOf s m args below meth c (zR (some (.int r))) zNo s.heap [] (F0 m 25 ls [.int x3]) := by
    intro x3 ls h hl
    rw [hJ25_4] at h
    refine lv_istore (lv' := [(4, .int x3), (0, .ref (za w 0)), (1, .int a1), (3, .int x1)]) G.x G.b dX10_meetsOf_25 hl (Nat.le_of_ble_eq_true rfl) rfl (fun ls hl => ?_)
    refine lv_aload_n G.x G.b dX10_meetsOf_27 rfl (lv_at hl 1 rfl) ?_
    refine lv_iload_n G.x G.b dX10_meetsOf_28 rfl (lv_at hl 2 rfl) ?_
    refine lv_iconst (v := (1 : Int32)) G.x G.b dX10_meetsOf_29 (by decide) ?_
    obtain ⟨x5, ex5, h⟩ := z_bind h
    refine z_rdI (z_runV (k := 0) (As := [.int a1, .int (1 : Int32)]) (rest := []) G hH hl.1 (kX10_its l hw ex5) (mM0 hw) vc10 arX10_its u882 u884 us24 u11 u885 rfl rfl rfl (Nat.le_of_ble_eq_true rfl) (Nat.le_of_ble_eq_true rfl) rfl (Nat.le_of_ble_eq_true rfl) dX10_meetsOf_30) ?_
    refine lv_bipush (v := (50 : Int32)) G.x G.b dX10_meetsOf_33 (by decide) ?_
    obtain ⟨J47_7, hJ47_7, h⟩ := z_j h
    have kJ47_7 : ∀ (x6 : Int32) (ls : Array Slot), J47_7 x6 = some r → lv_has ls 7 [(0, .ref (za w 0)), (1, .int a1), (3, .int x1), (4, .int x3)] → zGo p l e rX10_meetsOf s m args below meth c (zR (some (.int r))) zNo s.heap [] (F0 m 47 ls [.int x6]) := by
      intro x6 ls h hl
      rw [hJ47_7] at h
      refine lv_istore (lv' := [(5, .int x6), (0, .ref (za w 0)), (1, .int a1), (3, .int x1), (4, .int x3)]) G.x G.b dX10_meetsOf_47 hl (Nat.le_of_ble_eq_true rfl) rfl (fun ls hl => ?_)
      refine lv_iload G.x G.b dX10_meetsOf_49 (lv_at hl 4 rfl) ?_
      obtain ⟨J61_9, hJ61_9, h⟩ := z_j h
      have kJ61_9 : ∀ (x8 : Int32) (ls : Array Slot), J61_9 x8 = some r → lv_has ls 7 [(0, .ref (za w 0)), (1, .int a1), (3, .int x1), (4, .int x3), (5, .int x6)] → zGo p l e rX10_meetsOf s m args below meth c (zR (some (.int r))) zNo s.heap [] (F0 m 61 ls [.int x8]) := by
        intro x8 ls h hl
        rw [hJ61_9] at h
        refine lv_istore (lv' := [(6, .int x8), (0, .ref (za w 0)), (1, .int a1), (3, .int x1), (4, .int x3), (5, .int x6)]) G.x G.b dX10_meetsOf_61 hl (Nat.le_of_ble_eq_true rfl) rfl (fun ls hl => ?_)
        refine lv_aload_n G.x G.b dX10_meetsOf_63 rfl (lv_at hl 1 rfl) ?_
        refine lv_iload_n G.x G.b dX10_meetsOf_64 rfl (lv_at hl 2 rfl) ?_
        refine lv_iconst (v := (0 : Int32)) G.x G.b dX10_meetsOf_65 (by decide) ?_
        obtain ⟨x10, ex10, h⟩ := z_bind h
        refine z_rdI (z_runV (k := 0) (As := [.int a1, .int (0 : Int32)]) (rest := []) G hH hl.1 (kX10_its l hw ex10) (mM0 hw) vc10 arX10_its u882 u884 us24 u11 u885 rfl rfl rfl (Nat.le_of_ble_eq_true rfl) (Nat.le_of_ble_eq_true rfl) rfl (Nat.le_of_ble_eq_true rfl) dX10_meetsOf_66) ?_
        by_cases c11 : x10 = (1 : Int32)
        · have h := z_if c11 h
          refine z_tab (tgt := 104) G.x G.b dX10_meetsOf_69 c11 (by decide) (by decide) rfl (by decide) ?_
          refine lv_iload G.x G.b dX10_meetsOf_104 (lv_at hl 5 rfl) ?_
          exact z_rtI G hr hlk h dX10_meetsOf_106
        have h := z_ifn c11 h
        by_cases c12 : x10 = (2 : Int32)
        · have h := z_if c12 h
          refine z_tab (tgt := 107) G.x G.b dX10_meetsOf_69 c12 (by decide) (by decide) rfl (by decide) ?_
          refine lv_iload G.x G.b dX10_meetsOf_107 (lv_at hl 0 rfl) ?_
          exact z_rtI G hr hlk h dX10_meetsOf_109
        have h := z_ifn c12 h
        by_cases c13 : x10 = (3 : Int32)
        · have h := z_if c13 h
          refine z_tab (tgt := 110) G.x G.b dX10_meetsOf_69 c13 (by decide) (by decide) rfl (by decide) ?_
          refine lv_iload G.x G.b dX10_meetsOf_110 (lv_at hl 4 rfl) ?_
          refine lv_iconst (v := (1 : Int32)) G.x G.b dX10_meetsOf_112 (by decide) ?_
          refine lv_iadd G.x G.b dX10_meetsOf_113 ?_
          exact z_rtI G hr hlk h dX10_meetsOf_114
        have h := z_ifn c13 h
        by_cases c14 : x10 = (4 : Int32)
        · have h := z_if c14 h
          refine z_tab (tgt := 115) G.x G.b dX10_meetsOf_69 c14 (by decide) (by decide) rfl (by decide) ?_
          refine lv_iload_n G.x G.b dX10_meetsOf_115 rfl (lv_at hl 3 rfl) ?_
          refine lv_bipush (v := (20 : Int32)) G.x G.b dX10_meetsOf_116 (by decide) ?_
          refine lv_icmp_le (tgt := 129) G.x G.b dX10_meetsOf_118 (by decide) (fun c15 => ?_) (fun c15 => ?_)
          · have h := z_if c15 h
            refine lv_iload G.x G.b dX10_meetsOf_129 (lv_at hl 5 rfl) ?_
            exact z_rtI G hr hlk h dX10_meetsOf_131
          · have h := z_ifn c15 h
            refine lv_iload G.x G.b dX10_meetsOf_121 (lv_at hl 5 rfl) ?_
            refine lv_bipush (v := (10 : Int32)) G.x G.b dX10_meetsOf_123 (by decide) ?_
            refine lv_iadd G.x G.b dX10_meetsOf_125 ?_
            refine lv_goto (tgt := 131) G.x G.b dX10_meetsOf_126 (by decide) ?_
            exact z_rtI G hr hlk h dX10_meetsOf_131
        have h := z_ifn c14 h
        by_cases c16 : x10 = (5 : Int32)
        · have h := z_if c16 h
          refine z_tab (tgt := 132) G.x G.b dX10_meetsOf_69 c16 (by decide) (by decide) rfl (by decide) ?_
          refine lv_iconst (v := (2 : Int32)) G.x G.b dX10_meetsOf_132 (by decide) ?_
          refine lv_iload G.x G.b dX10_meetsOf_133 (lv_at hl 0 rfl) ?_
          refine lv_imul G.x G.b dX10_meetsOf_135 ?_
          exact z_rtI G hr hlk h dX10_meetsOf_136
        have h := z_ifn c16 h
        refine lv_tableOut (tgt := 137) G.x G.b dX10_meetsOf_69 (by have gc11 := lv_neT (a := 1) c11 (by decide); have gc12 := lv_neT (a := 2) c12 (by decide); have gc13 := lv_neT (a := 3) c13 (by decide); have gc14 := lv_neT (a := 4) c14 (by decide); have gc16 := lv_neT (a := 5) c16 (by decide); omega) (by decide) ?_
        refine lv_iload G.x G.b dX10_meetsOf_137 (lv_at hl 4 rfl) ?_
        exact z_rtI G hr hlk h dX10_meetsOf_139
      refine lv_if_le (tgt := 59) G.x G.b dX10_meetsOf_51 (by decide) (fun c17 => ?_) (fun c17 => ?_)
      · have h := z_if c17 h
        refine lv_bipush (v := (-6 : Int32)) G.x G.b dX10_meetsOf_59 (by decide) ?_
        exact kJ61_9 (-6 : Int32) ls h (lv_sub hl [1, 2, 3, 4, 0] rfl)
      · have h := z_ifn c17 h
        refine lv_iload G.x G.b dX10_meetsOf_54 (lv_at hl 4 rfl) ?_
        refine lv_goto (tgt := 61) G.x G.b dX10_meetsOf_56 (by decide) ?_
        exact kJ61_9 x3 ls h (lv_sub hl [1, 2, 3, 4, 0] rfl)
    refine lv_icmp_le (tgt := 45) G.x G.b dX10_meetsOf_35 (by decide) (fun c18 => ?_) (fun c18 => ?_)
    · have h := z_if c18 h
      refine lv_iload G.x G.b dX10_meetsOf_45 (lv_at hl 0 rfl) ?_
      exact kJ47_7 x3 ls h (lv_sub hl [1, 2, 3, 0] rfl)
    · have h := z_ifn c18 h
      refine lv_iload G.x G.b dX10_meetsOf_38 (lv_at hl 0 rfl) ?_
      refine lv_iconst (v := (4 : Int32)) G.x G.b dX10_meetsOf_40 (by decide) ?_
      refine lv_isub G.x G.b dX10_meetsOf_41 ?_
      refine lv_goto (tgt := 47) G.x G.b dX10_meetsOf_42 (by decide) ?_
      exact kJ47_7 (x3 - (4 : Int32)) ls h (lv_sub hl [1, 2, 3, 0] rfl)
  refine lv_icmp_ne (tgt := 24) G.x G.b dX10_meetsOf_14 (by decide) (fun c19 => ?_) (fun c19 => ?_)
  · have h := z_ifn c19 h
    refine lv_iconst (v := (0 : Int32)) G.x G.b dX10_meetsOf_24 (by decide) ?_
    exact kJ25_4 (0 : Int32) ls h (lv_sub hl [1, 2, 0] rfl)
  · have h := z_if c19 h
    refine lv_iload_n G.x G.b dX10_meetsOf_17 rfl (lv_at hl 0 rfl) ?_
    refine lv_bipush (v := (10 : Int32)) G.x G.b dX10_meetsOf_18 (by decide) ?_
    refine lv_idiv G.x G.b dX10_meetsOf_20 (by decide) ?_
    refine lv_goto (tgt := 25) G.x G.b dX10_meetsOf_21 (by decide) ?_
    exact kJ25_4 (x1 / (10 : Int32)) ls h (lv_sub hl [1, 2, 0] rfl)
def fX10_leavesOf (M0 : zM) (a1 : Int32) : Option Int32 :=
  (fX10_its M0 a1 (1 : Int32)).bind fun x1 =>
  zj (fun (x2 : Int32) =>
  (fX10_its M0 a1 (0 : Int32)).bind fun x4 =>
  if x4 = (1 : Int32) then (some x2) else (if x4 = (2 : Int32) then (some (7 : Int32)) else (if x4 = (3 : Int32) then (some (1 : Int32)) else (if x4 = (4 : Int32) then (some (x2 + (1 : Int32))) else (if x4 = (5 : Int32) then (some (7 : Int32)) else (some (3 : Int32))))))) fun J17_3 =>
  if x1 ≤ (50 : Int32) then (J17_3 (3 : Int32)) else (J17_3 (-5 : Int32))
abbrev rX10_leavesOf : Room := { frames := 2, cells := 0, slots := 0, locals := 43 }
theorem arX10_leavesOf : zAr yX10_leavesOf RX10 1 := ⟨rfl, by decide, by decide, by decide +kernel⟩
set_option maxHeartbeats 4000000 in
theorem kX10_leavesOf (l : Launch) {w : zWd} (hw : zIsM w) {M0 : zM} {a1 : Int32} {r : Int32} (h : fX10_leavesOf M0 a1 = some r) : Met l yX10_leavesOf (Cond.code yX10_leavesOf cX10_leavesOf 3 (some .int) :: zU) rX10_leavesOf (zPre w M0 [.ref (za w 0), .int a1]) (zR (some (.int r))) 0 0 zNo := by
  refine z_metN (own := RX10) (lv := [(0, .ref (za w 0)), (1, .int a1)]) hw.1 (by decide) (Nat.le_of_ble_eq_true rfl) rfl rfl ?_
  intro p e s m args below meth c G hr hlk hH ls hl
  unfold fX10_leavesOf at h
  refine lv_aload_n G.x G.b dX10_leavesOf_0 rfl (lv_at hl 0 rfl) ?_
  refine lv_iload_n G.x G.b dX10_leavesOf_1 rfl (lv_at hl 1 rfl) ?_
  refine lv_iconst (v := (1 : Int32)) G.x G.b dX10_leavesOf_2 (by decide) ?_
  obtain ⟨x1, ex1, h⟩ := z_bind h
  refine z_rdI (z_runV (k := 0) (As := [.int a1, .int (1 : Int32)]) (rest := []) G hH hl.1 (kX10_its l hw ex1) (mM0 hw) vc10 arX10_its u882 u884 us24 u11 u885 rfl rfl rfl (Nat.le_of_ble_eq_true rfl) (Nat.le_of_ble_eq_true rfl) rfl (Nat.le_of_ble_eq_true rfl) dX10_leavesOf_3) ?_
  refine lv_bipush (v := (50 : Int32)) G.x G.b dX10_leavesOf_6 (by decide) ?_
  obtain ⟨J17_3, hJ17_3, h⟩ := z_j h
  have kJ17_3 : ∀ (x2 : Int32) (ls : Array Slot), J17_3 x2 = some r → lv_has ls 3 [(0, .ref (za w 0)), (1, .int a1)] → zGo p l e rX10_leavesOf s m args below meth c (zR (some (.int r))) zNo s.heap [] (F0 m 17 ls [.int x2]) := by
    intro x2 ls h hl
    rw [hJ17_3] at h
    refine lv_istore_n (lv' := [(2, .int x2), (0, .ref (za w 0)), (1, .int a1)]) G.x G.b dX10_leavesOf_17 rfl hl (Nat.le_of_ble_eq_true rfl) rfl (fun ls hl => ?_)
    refine lv_aload_n G.x G.b dX10_leavesOf_18 rfl (lv_at hl 1 rfl) ?_
    refine lv_iload_n G.x G.b dX10_leavesOf_19 rfl (lv_at hl 2 rfl) ?_
    refine lv_iconst (v := (0 : Int32)) G.x G.b dX10_leavesOf_20 (by decide) ?_
    obtain ⟨x4, ex4, h⟩ := z_bind h
    refine z_rdI (z_runV (k := 0) (As := [.int a1, .int (0 : Int32)]) (rest := []) G hH hl.1 (kX10_its l hw ex4) (mM0 hw) vc10 arX10_its u882 u884 us24 u11 u885 rfl rfl rfl (Nat.le_of_ble_eq_true rfl) (Nat.le_of_ble_eq_true rfl) rfl (Nat.le_of_ble_eq_true rfl) dX10_leavesOf_21) ?_
    by_cases c5 : x4 = (1 : Int32)
    · have h := z_if c5 h
      refine z_tab (tgt := 60) G.x G.b dX10_leavesOf_24 c5 (by decide) (by decide) rfl (by decide) ?_
      refine lv_iload_n G.x G.b dX10_leavesOf_60 rfl (lv_at hl 0 rfl) ?_
      exact z_rtI G hr hlk h dX10_leavesOf_61
    have h := z_ifn c5 h
    by_cases c6 : x4 = (2 : Int32)
    · have h := z_if c6 h
      refine z_tab (tgt := 62) G.x G.b dX10_leavesOf_24 c6 (by decide) (by decide) rfl (by decide) ?_
      refine lv_bipush (v := (7 : Int32)) G.x G.b dX10_leavesOf_62 (by decide) ?_
      exact z_rtI G hr hlk h dX10_leavesOf_64
    have h := z_ifn c6 h
    by_cases c7 : x4 = (3 : Int32)
    · have h := z_if c7 h
      refine z_tab (tgt := 65) G.x G.b dX10_leavesOf_24 c7 (by decide) (by decide) rfl (by decide) ?_
      refine lv_iconst (v := (1 : Int32)) G.x G.b dX10_leavesOf_65 (by decide) ?_
      exact z_rtI G hr hlk h dX10_leavesOf_66
    have h := z_ifn c7 h
    by_cases c8 : x4 = (4 : Int32)
    · have h := z_if c8 h
      refine z_tab (tgt := 67) G.x G.b dX10_leavesOf_24 c8 (by decide) (by decide) rfl (by decide) ?_
      refine lv_iload_n G.x G.b dX10_leavesOf_67 rfl (lv_at hl 0 rfl) ?_
      refine lv_iconst (v := (1 : Int32)) G.x G.b dX10_leavesOf_68 (by decide) ?_
      refine lv_iadd G.x G.b dX10_leavesOf_69 ?_
      exact z_rtI G hr hlk h dX10_leavesOf_70
    have h := z_ifn c8 h
    by_cases c9 : x4 = (5 : Int32)
    · have h := z_if c9 h
      refine z_tab (tgt := 62) G.x G.b dX10_leavesOf_24 c9 (by decide) (by decide) rfl (by decide) ?_
      refine lv_bipush (v := (7 : Int32)) G.x G.b dX10_leavesOf_62 (by decide) ?_
      exact z_rtI G hr hlk h dX10_leavesOf_64
    have h := z_ifn c9 h
    refine lv_tableOut (tgt := 71) G.x G.b dX10_leavesOf_24 (by have gc5 := lv_neT (a := 1) c5 (by decide); have gc6 := lv_neT (a := 2) c6 (by decide); have gc7 := lv_neT (a := 3) c7 (by decide); have gc8 := lv_neT (a := 4) c8 (by decide); have gc9 := lv_neT (a := 5) c9 (by decide); omega) (by decide) ?_
    refine lv_iconst (v := (3 : Int32)) G.x G.b dX10_leavesOf_71 (by decide) ?_
    exact z_rtI G hr hlk h dX10_leavesOf_72
  refine lv_icmp_le (tgt := 16) G.x G.b dX10_leavesOf_8 (by decide) (fun c10 => ?_) (fun c10 => ?_)
  · have h := z_if c10 h
    refine lv_iconst (v := (3 : Int32)) G.x G.b dX10_leavesOf_16 (by decide) ?_
    exact kJ17_3 (3 : Int32) ls h (lv_sub hl [0, 1] rfl)
  · have h := z_ifn c10 h
    refine lv_bipush (v := (-5 : Int32)) G.x G.b dX10_leavesOf_11 (by decide) ?_
    refine lv_goto (tgt := 17) G.x G.b dX10_leavesOf_13 (by decide) ?_
    exact kJ17_3 (-5 : Int32) ls h (lv_sub hl [0, 1] rfl)
def fX10_gainsOf (M0 : zM) (a1 : Int32) : Option Int32 :=
  (fX10_its M0 a1 (0 : Int32)).bind fun x1 =>
  if x1 = (1 : Int32) then (some (3 : Int32)) else (if x1 = (2 : Int32) then (some (1 : Int32)) else (if x1 = (3 : Int32) then (some (0 : Int32)) else (if x1 = (4 : Int32) then ((fX10_isMonday M0).bind fun x6 =>
  if x6 = (0 : Int32) then (some (3 : Int32)) else (some (0 : Int32))) else (if x1 = (5 : Int32) then (some (-1 : Int32)) else (some (1 : Int32))))))
abbrev rX10_gainsOf : Room := { frames := 2, cells := 0, slots := 0, locals := 43 }
theorem arX10_gainsOf : zAr yX10_gainsOf RX10 1 := ⟨rfl, by decide, by decide, by decide +kernel⟩
set_option maxHeartbeats 4000000 in
theorem kX10_gainsOf (l : Launch) {w : zWd} (hw : zIsM w) {M0 : zM} {a1 : Int32} {r : Int32} (h : fX10_gainsOf M0 a1 = some r) : Met l yX10_gainsOf (Cond.code yX10_gainsOf cX10_gainsOf 2 (some .int) :: zU) rX10_gainsOf (zPre w M0 [.ref (za w 0), .int a1]) (zR (some (.int r))) 0 0 zNo := by
  refine z_metN (own := RX10) (lv := [(0, .ref (za w 0)), (1, .int a1)]) hw.1 (by decide) (Nat.le_of_ble_eq_true rfl) rfl rfl ?_
  intro p e s m args below meth c G hr hlk hH ls hl
  unfold fX10_gainsOf at h
  refine lv_aload_n G.x G.b dX10_gainsOf_0 rfl (lv_at hl 0 rfl) ?_
  refine lv_iload_n G.x G.b dX10_gainsOf_1 rfl (lv_at hl 1 rfl) ?_
  refine lv_iconst (v := (0 : Int32)) G.x G.b dX10_gainsOf_2 (by decide) ?_
  obtain ⟨x1, ex1, h⟩ := z_bind h
  refine z_rdI (z_runV (k := 0) (As := [.int a1, .int (0 : Int32)]) (rest := []) G hH hl.1 (kX10_its l hw ex1) (mM0 hw) vc10 arX10_its u882 u884 us24 u11 u885 rfl rfl rfl (Nat.le_of_ble_eq_true rfl) (Nat.le_of_ble_eq_true rfl) rfl (Nat.le_of_ble_eq_true rfl) dX10_gainsOf_3) ?_
  by_cases c2 : x1 = (1 : Int32)
  · have h := z_if c2 h
    refine z_tab (tgt := 40) G.x G.b dX10_gainsOf_6 c2 (by decide) (by decide) rfl (by decide) ?_
    refine lv_iconst (v := (3 : Int32)) G.x G.b dX10_gainsOf_40 (by decide) ?_
    exact z_rtI G hr hlk h dX10_gainsOf_41
  have h := z_ifn c2 h
  by_cases c3 : x1 = (2 : Int32)
  · have h := z_if c3 h
    refine z_tab (tgt := 59) G.x G.b dX10_gainsOf_6 c3 (by decide) (by decide) rfl (by decide) ?_
    refine lv_iconst (v := (1 : Int32)) G.x G.b dX10_gainsOf_59 (by decide) ?_
    exact z_rtI G hr hlk h dX10_gainsOf_60
  have h := z_ifn c3 h
  by_cases c4 : x1 = (3 : Int32)
  · have h := z_if c4 h
    refine z_tab (tgt := 42) G.x G.b dX10_gainsOf_6 c4 (by decide) (by decide) rfl (by decide) ?_
    refine lv_iconst (v := (0 : Int32)) G.x G.b dX10_gainsOf_42 (by decide) ?_
    exact z_rtI G hr hlk h dX10_gainsOf_43
  have h := z_ifn c4 h
  by_cases c5 : x1 = (4 : Int32)
  · have h := z_if c5 h
    refine z_tab (tgt := 44) G.x G.b dX10_gainsOf_6 c5 (by decide) (by decide) rfl (by decide) ?_
    refine lv_aload_n G.x G.b dX10_gainsOf_44 rfl (lv_at hl 0 rfl) ?_
    obtain ⟨x6, ex6, h⟩ := z_bind h
    refine z_rdI (z_runV (k := 0) (As := []) (rest := []) G hH hl.1 (kX10_isMonday l hw ex6) (mM0 hw) vc10 arX10_isMonday u874 u876 us22 u11 u877 rfl rfl rfl (Nat.le_of_ble_eq_true rfl) (Nat.le_of_ble_eq_true rfl) rfl (Nat.le_of_ble_eq_true rfl) dX10_gainsOf_45) ?_
    refine lv_if_eq (tgt := 55) G.x G.b dX10_gainsOf_48 (by decide) (fun c7 => ?_) (fun c7 => ?_)
    · have h := z_if c7 h
      refine lv_iconst (v := (3 : Int32)) G.x G.b dX10_gainsOf_55 (by decide) ?_
      exact z_rtI G hr hlk h dX10_gainsOf_56
    · have h := z_ifn c7 h
      refine lv_iconst (v := (0 : Int32)) G.x G.b dX10_gainsOf_51 (by decide) ?_
      refine lv_goto (tgt := 56) G.x G.b dX10_gainsOf_52 (by decide) ?_
      exact z_rtI G hr hlk h dX10_gainsOf_56
  have h := z_ifn c5 h
  by_cases c8 : x1 = (5 : Int32)
  · have h := z_if c8 h
    refine z_tab (tgt := 57) G.x G.b dX10_gainsOf_6 c8 (by decide) (by decide) rfl (by decide) ?_
    refine lv_iconst (v := (-1 : Int32)) G.x G.b dX10_gainsOf_57 (by decide) ?_
    exact z_rtI G hr hlk h dX10_gainsOf_58
  have h := z_ifn c8 h
  refine lv_tableOut (tgt := 59) G.x G.b dX10_gainsOf_6 (by have gc2 := lv_neT (a := 1) c2 (by decide); have gc3 := lv_neT (a := 2) c3 (by decide); have gc4 := lv_neT (a := 3) c4 (by decide); have gc5 := lv_neT (a := 4) c5 (by decide); have gc8 := lv_neT (a := 5) c8 (by decide); omega) (by decide) ?_
  refine lv_iconst (v := (1 : Int32)) G.x G.b dX10_gainsOf_59 (by decide) ?_
  exact z_rtI G hr hlk h dX10_gainsOf_60
