def fX2_costs (a1 : Int32) (a2 : Int32) : Option Int32 :=
  some (5 : Int32)
abbrev rX2_costs : Room := { frames := 0, cells := 0, slots := 0, locals := 0 }
theorem arX2_costs : zAr yX2_costs RX2 2 := ⟨rfl, by decide, by decide, by decide +kernel⟩
set_option maxHeartbeats 4000000 in
theorem kX2_costs (l : Launch) {w : zWd} (hw : zIsC w) {q ci Nf : Nat} {C : String} {T : u_T} {fs : zM → List Value} (hO : zOB w q ci fs) (hc : vwCl[ci]? = some (C, T, Nf)) {M0 : zM} {a1 : Int32} {a2 : Int32} {r : Int32} (h : fX2_costs a1 a2 = some r) : Met l yX2_costs (Cond.code yX2_costs cX2_costs 3 (some .int) :: zU) rX2_costs (zPre w M0 [.ref (za w q), .int a1, .int a2]) (zR (some (.int r))) 0 0 zNo := by
  refine z_metN (own := RX2) (lv := [(0, .ref (za w q)), (1, .int a1), (2, .int a2)]) hw.1 (by decide) (Nat.le_of_ble_eq_true rfl) rfl rfl ?_
  intro p e s m args below meth c G hr hlk hH ls hl
  unfold fX2_costs at h
  refine lv_iconst (v := (5 : Int32)) G.x G.b dX2_costs_0 (by decide) ?_
  exact z_rtI G hr hlk h dX2_costs_1
def fX2_meets (a1 : Int32) (a2 : Int32) (a3 : Int32) : Option Int32 :=
  if a2 = (0 : Int32) then (some (0 : Int32)) else (some (a1 / (10 : Int32)))
abbrev rX2_meets : Room := { frames := 0, cells := 0, slots := 0, locals := 0 }
theorem arX2_meets : zAr yX2_meets RX2 3 := ⟨rfl, by decide, by decide, by decide +kernel⟩
set_option maxHeartbeats 4000000 in
theorem kX2_meets (l : Launch) {w : zWd} (hw : zIsC w) {q ci Nf : Nat} {C : String} {T : u_T} {fs : zM → List Value} (hO : zOB w q ci fs) (hc : vwCl[ci]? = some (C, T, Nf)) {M0 : zM} {a1 : Int32} {a2 : Int32} {a3 : Int32} {r : Int32} (h : fX2_meets a1 a2 a3 = some r) : Met l yX2_meets (Cond.code yX2_meets cX2_meets 4 (some .int) :: zU) rX2_meets (zPre w M0 [.ref (za w q), .int a1, .int a2, .int a3]) (zR (some (.int r))) 0 0 zNo := by
  refine z_metN (own := RX2) (lv := [(0, .ref (za w q)), (1, .int a1), (2, .int a2), (3, .int a3)]) hw.1 (by decide) (Nat.le_of_ble_eq_true rfl) rfl rfl ?_
  intro p e s m args below meth c G hr hlk hH ls hl
  unfold fX2_meets at h
  refine lv_iload_n G.x G.b dX2_meets_0 rfl (lv_at hl 2 rfl) ?_
  refine lv_if_eq (tgt := 11) G.x G.b dX2_meets_1 (by decide) (fun c1 => ?_) (fun c1 => ?_)
  · have h := z_if c1 h
    refine lv_iconst (v := (0 : Int32)) G.x G.b dX2_meets_11 (by decide) ?_
    exact z_rtI G hr hlk h dX2_meets_12
  · have h := z_ifn c1 h
    refine lv_iload_n G.x G.b dX2_meets_4 rfl (lv_at hl 1 rfl) ?_
    refine lv_bipush (v := (10 : Int32)) G.x G.b dX2_meets_5 (by decide) ?_
    refine lv_idiv G.x G.b dX2_meets_7 (by decide) ?_
    refine lv_goto (tgt := 12) G.x G.b dX2_meets_8 (by decide) ?_
    exact z_rtI G hr hlk h dX2_meets_12
def fX2_leaves (a1 : Int32) : Option Int32 :=
  some (3 : Int32)
abbrev rX2_leaves : Room := { frames := 0, cells := 0, slots := 0, locals := 0 }
theorem arX2_leaves : zAr yX2_leaves RX2 1 := ⟨rfl, by decide, by decide, by decide +kernel⟩
set_option maxHeartbeats 4000000 in
theorem kX2_leaves (l : Launch) {w : zWd} (hw : zIsC w) {q ci Nf : Nat} {C : String} {T : u_T} {fs : zM → List Value} (hO : zOB w q ci fs) (hc : vwCl[ci]? = some (C, T, Nf)) {M0 : zM} {a1 : Int32} {r : Int32} (h : fX2_leaves a1 = some r) : Met l yX2_leaves (Cond.code yX2_leaves cX2_leaves 2 (some .int) :: zU) rX2_leaves (zPre w M0 [.ref (za w q), .int a1]) (zR (some (.int r))) 0 0 zNo := by
  refine z_metN (own := RX2) (lv := [(0, .ref (za w q)), (1, .int a1)]) hw.1 (by decide) (Nat.le_of_ble_eq_true rfl) rfl rfl ?_
  intro p e s m args below meth c G hr hlk hH ls hl
  unfold fX2_leaves at h
  refine lv_iconst (v := (3 : Int32)) G.x G.b dX2_leaves_0 (by decide) ?_
  exact z_rtI G hr hlk h dX2_leaves_1
def fX2_gains (a1 : Int32) : Option Int32 :=
  some (1 : Int32)
abbrev rX2_gains : Room := { frames := 0, cells := 0, slots := 0, locals := 0 }
theorem arX2_gains : zAr yX2_gains RX2 1 := ⟨rfl, by decide, by decide, by decide +kernel⟩
set_option maxHeartbeats 4000000 in
theorem kX2_gains (l : Launch) {w : zWd} (hw : zIsC w) {q ci Nf : Nat} {C : String} {T : u_T} {fs : zM → List Value} (hO : zOB w q ci fs) (hc : vwCl[ci]? = some (C, T, Nf)) {M0 : zM} {a1 : Int32} {r : Int32} (h : fX2_gains a1 = some r) : Met l yX2_gains (Cond.code yX2_gains cX2_gains 2 (some .int) :: zU) rX2_gains (zPre w M0 [.ref (za w q), .int a1]) (zR (some (.int r))) 0 0 zNo := by
  refine z_metN (own := RX2) (lv := [(0, .ref (za w q)), (1, .int a1)]) hw.1 (by decide) (Nat.le_of_ble_eq_true rfl) rfl rfl ?_
  intro p e s m args below meth c G hr hlk hH ls hl
  unfold fX2_gains at h
  refine lv_iconst (v := (1 : Int32)) G.x G.b dX2_gains_0 (by decide) ?_
  exact z_rtI G hr hlk h dX2_gains_1
def fX0_costs (a1 : Int32) (a2 : Int32) : Option Int32 :=
  (fX2_costs a1 a2).bind fun x1 =>
  some (x1 + (a1 / (10 : Int32)))
abbrev rX0_costs : Room := { frames := 1, cells := 0, slots := 0, locals := 22 }
theorem arX0_costs : zAr yX0_costs RX0 2 := ⟨rfl, by decide, by decide, by decide +kernel⟩
set_option maxHeartbeats 4000000 in
theorem kX0_costs (l : Launch) {w : zWd} (hw : zIsC w) {q ci Nf : Nat} {C : String} {T : u_T} {fs : zM → List Value} (hO : zOB w q ci fs) (hc : vwCl[ci]? = some (C, T, Nf)) {M0 : zM} {a1 : Int32} {a2 : Int32} {r : Int32} (h : fX0_costs a1 a2 = some r) : Met l yX0_costs (Cond.code yX0_costs cX0_costs 3 (some .int) :: zU) rX0_costs (zPre w M0 [.ref (za w q), .int a1, .int a2]) (zR (some (.int r))) 0 0 zNo := by
  refine z_metN (own := RX0) (lv := [(0, .ref (za w q)), (1, .int a1), (2, .int a2)]) hw.1 (by decide) (Nat.le_of_ble_eq_true rfl) rfl rfl ?_
  intro p e s m args below meth c G hr hlk hH ls hl
  unfold fX0_costs at h
  refine lv_aload_n G.x G.b dX0_costs_0 rfl (lv_at hl 0 rfl) ?_
  refine lv_iload_n G.x G.b dX0_costs_1 rfl (lv_at hl 1 rfl) ?_
  refine lv_iload_n G.x G.b dX0_costs_2 rfl (lv_at hl 2 rfl) ?_
  obtain ⟨x1, ex1, h⟩ := z_bind h
  refine z_rdI (z_runSU (As := [.int a1, .int a2]) (rest := []) G hH hl.1 (kX2_costs l hw hO hc ex1) hO hc arX2_costs (by decide) u293 u289 u40 u287 u2 u308 rfl rfl rfl (Nat.le_of_ble_eq_true rfl) (Nat.le_of_ble_eq_true rfl) rfl (Nat.le_of_ble_eq_true rfl) dX0_costs_3) ?_
  refine lv_iload_n G.x G.b dX0_costs_6 rfl (lv_at hl 1 rfl) ?_
  refine lv_bipush (v := (10 : Int32)) G.x G.b dX0_costs_7 (by decide) ?_
  refine lv_idiv G.x G.b dX0_costs_9 (by decide) ?_
  refine lv_iadd G.x G.b dX0_costs_10 ?_
  exact z_rtI G hr hlk h dX0_costs_11
def fX0_meets (a1 : Int32) (a2 : Int32) (a3 : Int32) : Option Int32 :=
  (fX2_meets a1 a2 a3).bind fun x1 =>
  if a3 ≤ (50 : Int32) then (some x1) else (some (x1 - (4 : Int32)))
abbrev rX0_meets : Room := { frames := 1, cells := 0, slots := 0, locals := 23 }
theorem arX0_meets : zAr yX0_meets RX0 3 := ⟨rfl, by decide, by decide, by decide +kernel⟩
set_option maxHeartbeats 4000000 in
theorem kX0_meets (l : Launch) {w : zWd} (hw : zIsC w) {q ci Nf : Nat} {C : String} {T : u_T} {fs : zM → List Value} (hO : zOB w q ci fs) (hc : vwCl[ci]? = some (C, T, Nf)) {M0 : zM} {a1 : Int32} {a2 : Int32} {a3 : Int32} {r : Int32} (h : fX0_meets a1 a2 a3 = some r) : Met l yX0_meets (Cond.code yX0_meets cX0_meets 5 (some .int) :: zU) rX0_meets (zPre w M0 [.ref (za w q), .int a1, .int a2, .int a3]) (zR (some (.int r))) 0 0 zNo := by
  refine z_metN (own := RX0) (lv := [(0, .ref (za w q)), (1, .int a1), (2, .int a2), (3, .int a3)]) hw.1 (by decide) (Nat.le_of_ble_eq_true rfl) rfl rfl ?_
  intro p e s m args below meth c G hr hlk hH ls hl
  unfold fX0_meets at h
  refine lv_aload_n G.x G.b dX0_meets_0 rfl (lv_at hl 0 rfl) ?_
  refine lv_iload_n G.x G.b dX0_meets_1 rfl (lv_at hl 1 rfl) ?_
  refine lv_iload_n G.x G.b dX0_meets_2 rfl (lv_at hl 2 rfl) ?_
  refine lv_iload_n G.x G.b dX0_meets_3 rfl (lv_at hl 3 rfl) ?_
  obtain ⟨x1, ex1, h⟩ := z_bind h
  refine z_rdI (z_runSU (As := [.int a1, .int a2, .int a3]) (rest := []) G hH hl.1 (kX2_meets l hw hO hc ex1) hO hc arX2_meets (by decide) u352 u348 u40 u346 u2 u369 rfl rfl rfl (Nat.le_of_ble_eq_true rfl) (Nat.le_of_ble_eq_true rfl) rfl (Nat.le_of_ble_eq_true rfl) dX0_meets_4) ?_
  refine lv_istore (lv' := [(4, .int x1), (0, .ref (za w q)), (1, .int a1), (2, .int a2), (3, .int a3)]) G.x G.b dX0_meets_7 hl (Nat.le_of_ble_eq_true rfl) rfl (fun ls hl => ?_)
  refine lv_iload_n G.x G.b dX0_meets_9 rfl (lv_at hl 4 rfl) ?_
  refine lv_bipush (v := (50 : Int32)) G.x G.b dX0_meets_10 (by decide) ?_
  refine lv_icmp_le (tgt := 22) G.x G.b dX0_meets_12 (by decide) (fun c2 => ?_) (fun c2 => ?_)
  · have h := z_if c2 h
    refine lv_iload G.x G.b dX0_meets_22 (lv_at hl 0 rfl) ?_
    exact z_rtI G hr hlk h dX0_meets_24
  · have h := z_ifn c2 h
    refine lv_iload G.x G.b dX0_meets_15 (lv_at hl 0 rfl) ?_
    refine lv_iconst (v := (4 : Int32)) G.x G.b dX0_meets_17 (by decide) ?_
    refine lv_isub G.x G.b dX0_meets_18 ?_
    refine lv_goto (tgt := 24) G.x G.b dX0_meets_19 (by decide) ?_
    exact z_rtI G hr hlk h dX0_meets_24
def fX0_leaves (a1 : Int32) : Option Int32 :=
  if a1 ≤ (50 : Int32) then ((fX2_leaves a1).bind fun x2 =>
  some x2) else (some (-5 : Int32))
abbrev rX0_leaves : Room := { frames := 1, cells := 0, slots := 0, locals := 21 }
theorem arX0_leaves : zAr yX0_leaves RX0 1 := ⟨rfl, by decide, by decide, by decide +kernel⟩
set_option maxHeartbeats 4000000 in
theorem kX0_leaves (l : Launch) {w : zWd} (hw : zIsC w) {q ci Nf : Nat} {C : String} {T : u_T} {fs : zM → List Value} (hO : zOB w q ci fs) (hc : vwCl[ci]? = some (C, T, Nf)) {M0 : zM} {a1 : Int32} {r : Int32} (h : fX0_leaves a1 = some r) : Met l yX0_leaves (Cond.code yX0_leaves cX0_leaves 2 (some .int) :: zU) rX0_leaves (zPre w M0 [.ref (za w q), .int a1]) (zR (some (.int r))) 0 0 zNo := by
  refine z_metN (own := RX0) (lv := [(0, .ref (za w q)), (1, .int a1)]) hw.1 (by decide) (Nat.le_of_ble_eq_true rfl) rfl rfl ?_
  intro p e s m args below meth c G hr hlk hH ls hl
  unfold fX0_leaves at h
  refine lv_iload_n G.x G.b dX0_leaves_0 rfl (lv_at hl 1 rfl) ?_
  refine lv_bipush (v := (50 : Int32)) G.x G.b dX0_leaves_1 (by decide) ?_
  refine lv_icmp_le (tgt := 11) G.x G.b dX0_leaves_3 (by decide) (fun c1 => ?_) (fun c1 => ?_)
  · have h := z_if c1 h
    refine lv_aload_n G.x G.b dX0_leaves_11 rfl (lv_at hl 0 rfl) ?_
    refine lv_iload_n G.x G.b dX0_leaves_12 rfl (lv_at hl 1 rfl) ?_
    obtain ⟨x2, ex2, h⟩ := z_bind h
    refine z_rdI (z_runSU (As := [.int a1]) (rest := []) G hH hl.1 (kX2_leaves l hw hO hc ex2) hO hc arX2_leaves (by decide) u381 u377 u40 u375 u2 u394 rfl rfl rfl (Nat.le_of_ble_eq_true rfl) (Nat.le_of_ble_eq_true rfl) rfl (Nat.le_of_ble_eq_true rfl) dX0_leaves_13) ?_
    exact z_rtI G hr hlk h dX0_leaves_16
  · have h := z_ifn c1 h
    refine lv_bipush (v := (-5 : Int32)) G.x G.b dX0_leaves_6 (by decide) ?_
    refine lv_goto (tgt := 16) G.x G.b dX0_leaves_8 (by decide) ?_
    exact z_rtI G hr hlk h dX0_leaves_16
def fX0_gains (a1 : Int32) : Option Int32 :=
  (fX2_gains a1).bind fun x1 =>
  some (x1 + (2 : Int32))
abbrev rX0_gains : Room := { frames := 1, cells := 0, slots := 0, locals := 21 }
theorem arX0_gains : zAr yX0_gains RX0 1 := ⟨rfl, by decide, by decide, by decide +kernel⟩
set_option maxHeartbeats 4000000 in
theorem kX0_gains (l : Launch) {w : zWd} (hw : zIsC w) {q ci Nf : Nat} {C : String} {T : u_T} {fs : zM → List Value} (hO : zOB w q ci fs) (hc : vwCl[ci]? = some (C, T, Nf)) {M0 : zM} {a1 : Int32} {r : Int32} (h : fX0_gains a1 = some r) : Met l yX0_gains (Cond.code yX0_gains cX0_gains 2 (some .int) :: zU) rX0_gains (zPre w M0 [.ref (za w q), .int a1]) (zR (some (.int r))) 0 0 zNo := by
  refine z_metN (own := RX0) (lv := [(0, .ref (za w q)), (1, .int a1)]) hw.1 (by decide) (Nat.le_of_ble_eq_true rfl) rfl rfl ?_
  intro p e s m args below meth c G hr hlk hH ls hl
  unfold fX0_gains at h
  refine lv_aload_n G.x G.b dX0_gains_0 rfl (lv_at hl 0 rfl) ?_
  refine lv_iload_n G.x G.b dX0_gains_1 rfl (lv_at hl 1 rfl) ?_
  obtain ⟨x1, ex1, h⟩ := z_bind h
  refine z_rdI (z_runSU (As := [.int a1]) (rest := []) G hH hl.1 (kX2_gains l hw hO hc ex1) hO hc arX2_gains (by decide) u321 u317 u40 u315 u2 u336 rfl rfl rfl (Nat.le_of_ble_eq_true rfl) (Nat.le_of_ble_eq_true rfl) rfl (Nat.le_of_ble_eq_true rfl) dX0_gains_2) ?_
  refine lv_iconst (v := (2 : Int32)) G.x G.b dX0_gains_5 (by decide) ?_
  refine lv_iadd G.x G.b dX0_gains_6 ?_
  exact z_rtI G hr hlk h dX0_gains_7
def fX8_costs (a1 : Int32) (a2 : Int32) : Option Int32 :=
  some (12 : Int32)
abbrev rX8_costs : Room := { frames := 0, cells := 0, slots := 0, locals := 0 }
theorem arX8_costs : zAr yX8_costs RX8 2 := ⟨rfl, by decide, by decide, by decide +kernel⟩
set_option maxHeartbeats 4000000 in
theorem kX8_costs (l : Launch) {w : zWd} (hw : zIsC w) {q ci Nf : Nat} {C : String} {T : u_T} {fs : zM → List Value} (hO : zOB w q ci fs) (hc : vwCl[ci]? = some (C, T, Nf)) {M0 : zM} {a1 : Int32} {a2 : Int32} {r : Int32} (h : fX8_costs a1 a2 = some r) : Met l yX8_costs (Cond.code yX8_costs cX8_costs 3 (some .int) :: zU) rX8_costs (zPre w M0 [.ref (za w q), .int a1, .int a2]) (zR (some (.int r))) 0 0 zNo := by
  refine z_metN (own := RX8) (lv := [(0, .ref (za w q)), (1, .int a1), (2, .int a2)]) hw.1 (by decide) (Nat.le_of_ble_eq_true rfl) rfl rfl ?_
  intro p e s m args below meth c G hr hlk hH ls hl
  unfold fX8_costs at h
  refine lv_bipush (v := (12 : Int32)) G.x G.b dX8_costs_0 (by decide) ?_
  exact z_rtI G hr hlk h dX8_costs_2
def fX8_meets (a1 : Int32) (a2 : Int32) (a3 : Int32) : Option Int32 :=
  (fX2_meets a1 a2 a3).bind fun x1 =>
  if x1 ≤ (0 : Int32) then (some (-6 : Int32)) else (some x1)
abbrev rX8_meets : Room := { frames := 1, cells := 0, slots := 0, locals := 23 }
theorem arX8_meets : zAr yX8_meets RX8 3 := ⟨rfl, by decide, by decide, by decide +kernel⟩
set_option maxHeartbeats 4000000 in
theorem kX8_meets (l : Launch) {w : zWd} (hw : zIsC w) {q ci Nf : Nat} {C : String} {T : u_T} {fs : zM → List Value} (hO : zOB w q ci fs) (hc : vwCl[ci]? = some (C, T, Nf)) {M0 : zM} {a1 : Int32} {a2 : Int32} {a3 : Int32} {r : Int32} (h : fX8_meets a1 a2 a3 = some r) : Met l yX8_meets (Cond.code yX8_meets cX8_meets 5 (some .int) :: zU) rX8_meets (zPre w M0 [.ref (za w q), .int a1, .int a2, .int a3]) (zR (some (.int r))) 0 0 zNo := by
  refine z_metN (own := RX8) (lv := [(0, .ref (za w q)), (1, .int a1), (2, .int a2), (3, .int a3)]) hw.1 (by decide) (Nat.le_of_ble_eq_true rfl) rfl rfl ?_
  intro p e s m args below meth c G hr hlk hH ls hl
  unfold fX8_meets at h
  refine lv_aload_n G.x G.b dX8_meets_0 rfl (lv_at hl 0 rfl) ?_
  refine lv_iload_n G.x G.b dX8_meets_1 rfl (lv_at hl 1 rfl) ?_
  refine lv_iload_n G.x G.b dX8_meets_2 rfl (lv_at hl 2 rfl) ?_
  refine lv_iload_n G.x G.b dX8_meets_3 rfl (lv_at hl 3 rfl) ?_
  obtain ⟨x1, ex1, h⟩ := z_bind h
  refine z_rdI (z_runSU (As := [.int a1, .int a2, .int a3]) (rest := []) G hH hl.1 (kX2_meets l hw hO hc ex1) hO hc arX2_meets (by decide) u367 u348 u47 u346 u2 u369 rfl rfl rfl (Nat.le_of_ble_eq_true rfl) (Nat.le_of_ble_eq_true rfl) rfl (Nat.le_of_ble_eq_true rfl) dX8_meets_4) ?_
  refine lv_istore (lv' := [(4, .int x1), (0, .ref (za w q)), (1, .int a1), (2, .int a2), (3, .int a3)]) G.x G.b dX8_meets_7 hl (Nat.le_of_ble_eq_true rfl) rfl (fun ls hl => ?_)
  refine lv_iload G.x G.b dX8_meets_9 (lv_at hl 0 rfl) ?_
  refine lv_if_le (tgt := 19) G.x G.b dX8_meets_11 (by decide) (fun c2 => ?_) (fun c2 => ?_)
  · have h := z_if c2 h
    refine lv_bipush (v := (-6 : Int32)) G.x G.b dX8_meets_19 (by decide) ?_
    exact z_rtI G hr hlk h dX8_meets_21
  · have h := z_ifn c2 h
    refine lv_iload G.x G.b dX8_meets_14 (lv_at hl 0 rfl) ?_
    refine lv_goto (tgt := 21) G.x G.b dX8_meets_16 (by decide) ?_
    exact z_rtI G hr hlk h dX8_meets_21
def fX8_leaves (a1 : Int32) : Option Int32 :=
  (fX2_leaves a1).bind fun x1 =>
  some (x1 + (4 : Int32))
abbrev rX8_leaves : Room := { frames := 1, cells := 0, slots := 0, locals := 21 }
theorem arX8_leaves : zAr yX8_leaves RX8 1 := ⟨rfl, by decide, by decide, by decide +kernel⟩
set_option maxHeartbeats 4000000 in
theorem kX8_leaves (l : Launch) {w : zWd} (hw : zIsC w) {q ci Nf : Nat} {C : String} {T : u_T} {fs : zM → List Value} (hO : zOB w q ci fs) (hc : vwCl[ci]? = some (C, T, Nf)) {M0 : zM} {a1 : Int32} {r : Int32} (h : fX8_leaves a1 = some r) : Met l yX8_leaves (Cond.code yX8_leaves cX8_leaves 2 (some .int) :: zU) rX8_leaves (zPre w M0 [.ref (za w q), .int a1]) (zR (some (.int r))) 0 0 zNo := by
  refine z_metN (own := RX8) (lv := [(0, .ref (za w q)), (1, .int a1)]) hw.1 (by decide) (Nat.le_of_ble_eq_true rfl) rfl rfl ?_
  intro p e s m args below meth c G hr hlk hH ls hl
  unfold fX8_leaves at h
  refine lv_aload_n G.x G.b dX8_leaves_0 rfl (lv_at hl 0 rfl) ?_
  refine lv_iload_n G.x G.b dX8_leaves_1 rfl (lv_at hl 1 rfl) ?_
  obtain ⟨x1, ex1, h⟩ := z_bind h
  refine z_rdI (z_runSU (As := [.int a1]) (rest := []) G hH hl.1 (kX2_leaves l hw hO hc ex1) hO hc arX2_leaves (by decide) u392 u377 u47 u375 u2 u394 rfl rfl rfl (Nat.le_of_ble_eq_true rfl) (Nat.le_of_ble_eq_true rfl) rfl (Nat.le_of_ble_eq_true rfl) dX8_leaves_2) ?_
  refine lv_iconst (v := (4 : Int32)) G.x G.b dX8_leaves_5 (by decide) ?_
  refine lv_iadd G.x G.b dX8_leaves_6 ?_
  exact z_rtI G hr hlk h dX8_leaves_7
def fX3_costs (a1 : Int32) (a2 : Int32) : Option Int32 :=
  some (2 : Int32)
abbrev rX3_costs : Room := { frames := 0, cells := 0, slots := 0, locals := 0 }
theorem arX3_costs : zAr yX3_costs RX3 2 := ⟨rfl, by decide, by decide, by decide +kernel⟩
set_option maxHeartbeats 4000000 in
theorem kX3_costs (l : Launch) {w : zWd} (hw : zIsC w) {q ci Nf : Nat} {C : String} {T : u_T} {fs : zM → List Value} (hO : zOB w q ci fs) (hc : vwCl[ci]? = some (C, T, Nf)) {M0 : zM} {a1 : Int32} {a2 : Int32} {r : Int32} (h : fX3_costs a1 a2 = some r) : Met l yX3_costs (Cond.code yX3_costs cX3_costs 3 (some .int) :: zU) rX3_costs (zPre w M0 [.ref (za w q), .int a1, .int a2]) (zR (some (.int r))) 0 0 zNo := by
  refine z_metN (own := RX3) (lv := [(0, .ref (za w q)), (1, .int a1), (2, .int a2)]) hw.1 (by decide) (Nat.le_of_ble_eq_true rfl) rfl rfl ?_
  intro p e s m args below meth c G hr hlk hH ls hl
  unfold fX3_costs at h
  refine lv_iconst (v := (2 : Int32)) G.x G.b dX3_costs_0 (by decide) ?_
  exact z_rtI G hr hlk h dX3_costs_1
def fX3_meets (a1 : Int32) (a2 : Int32) (a3 : Int32) : Option Int32 :=
  (fX2_meets a1 a2 a3).bind fun x1 =>
  some (x1 + (1 : Int32))
abbrev rX3_meets : Room := { frames := 1, cells := 0, slots := 0, locals := 23 }
theorem arX3_meets : zAr yX3_meets RX3 3 := ⟨rfl, by decide, by decide, by decide +kernel⟩
set_option maxHeartbeats 4000000 in
theorem kX3_meets (l : Launch) {w : zWd} (hw : zIsC w) {q ci Nf : Nat} {C : String} {T : u_T} {fs : zM → List Value} (hO : zOB w q ci fs) (hc : vwCl[ci]? = some (C, T, Nf)) {M0 : zM} {a1 : Int32} {a2 : Int32} {a3 : Int32} {r : Int32} (h : fX3_meets a1 a2 a3 = some r) : Met l yX3_meets (Cond.code yX3_meets cX3_meets 4 (some .int) :: zU) rX3_meets (zPre w M0 [.ref (za w q), .int a1, .int a2, .int a3]) (zR (some (.int r))) 0 0 zNo := by
  refine z_metN (own := RX3) (lv := [(0, .ref (za w q)), (1, .int a1), (2, .int a2), (3, .int a3)]) hw.1 (by decide) (Nat.le_of_ble_eq_true rfl) rfl rfl ?_
  intro p e s m args below meth c G hr hlk hH ls hl
  unfold fX3_meets at h
  refine lv_aload_n G.x G.b dX3_meets_0 rfl (lv_at hl 0 rfl) ?_
  refine lv_iload_n G.x G.b dX3_meets_1 rfl (lv_at hl 1 rfl) ?_
  refine lv_iload_n G.x G.b dX3_meets_2 rfl (lv_at hl 2 rfl) ?_
  refine lv_iload_n G.x G.b dX3_meets_3 rfl (lv_at hl 3 rfl) ?_
  obtain ⟨x1, ex1, h⟩ := z_bind h
  refine z_rdI (z_runSU (As := [.int a1, .int a2, .int a3]) (rest := []) G hH hl.1 (kX2_meets l hw hO hc ex1) hO hc arX2_meets (by decide) u360 u348 u54 u346 u2 u369 rfl rfl rfl (Nat.le_of_ble_eq_true rfl) (Nat.le_of_ble_eq_true rfl) rfl (Nat.le_of_ble_eq_true rfl) dX3_meets_4) ?_
  refine lv_iconst (v := (1 : Int32)) G.x G.b dX3_meets_7 (by decide) ?_
  refine lv_iadd G.x G.b dX3_meets_8 ?_
  exact z_rtI G hr hlk h dX3_meets_9
def fX3_leaves (a1 : Int32) : Option Int32 :=
  some (1 : Int32)
abbrev rX3_leaves : Room := { frames := 0, cells := 0, slots := 0, locals := 0 }
theorem arX3_leaves : zAr yX3_leaves RX3 1 := ⟨rfl, by decide, by decide, by decide +kernel⟩
set_option maxHeartbeats 4000000 in
theorem kX3_leaves (l : Launch) {w : zWd} (hw : zIsC w) {q ci Nf : Nat} {C : String} {T : u_T} {fs : zM → List Value} (hO : zOB w q ci fs) (hc : vwCl[ci]? = some (C, T, Nf)) {M0 : zM} {a1 : Int32} {r : Int32} (h : fX3_leaves a1 = some r) : Met l yX3_leaves (Cond.code yX3_leaves cX3_leaves 2 (some .int) :: zU) rX3_leaves (zPre w M0 [.ref (za w q), .int a1]) (zR (some (.int r))) 0 0 zNo := by
  refine z_metN (own := RX3) (lv := [(0, .ref (za w q)), (1, .int a1)]) hw.1 (by decide) (Nat.le_of_ble_eq_true rfl) rfl rfl ?_
  intro p e s m args below meth c G hr hlk hH ls hl
  unfold fX3_leaves at h
  refine lv_iconst (v := (1 : Int32)) G.x G.b dX3_leaves_0 (by decide) ?_
  exact z_rtI G hr hlk h dX3_leaves_1
def fX3_gains (a1 : Int32) : Option Int32 :=
  some (0 : Int32)
abbrev rX3_gains : Room := { frames := 0, cells := 0, slots := 0, locals := 0 }
theorem arX3_gains : zAr yX3_gains RX3 1 := ⟨rfl, by decide, by decide, by decide +kernel⟩
set_option maxHeartbeats 4000000 in
theorem kX3_gains (l : Launch) {w : zWd} (hw : zIsC w) {q ci Nf : Nat} {C : String} {T : u_T} {fs : zM → List Value} (hO : zOB w q ci fs) (hc : vwCl[ci]? = some (C, T, Nf)) {M0 : zM} {a1 : Int32} {r : Int32} (h : fX3_gains a1 = some r) : Met l yX3_gains (Cond.code yX3_gains cX3_gains 2 (some .int) :: zU) rX3_gains (zPre w M0 [.ref (za w q), .int a1]) (zR (some (.int r))) 0 0 zNo := by
  refine z_metN (own := RX3) (lv := [(0, .ref (za w q)), (1, .int a1)]) hw.1 (by decide) (Nat.le_of_ble_eq_true rfl) rfl rfl ?_
  intro p e s m args below meth c G hr hlk hH ls hl
  unfold fX3_gains at h
  refine lv_iconst (v := (0 : Int32)) G.x G.b dX3_gains_0 (by decide) ?_
  exact z_rtI G hr hlk h dX3_gains_1
def fX1_costs (a1 : Int32) (a2 : Int32) : Option Int32 :=
  (fX0_costs a1 a2).bind fun x1 =>
  some ((2 : Int32) * x1)
abbrev rX1_costs : Room := { frames := 2, cells := 0, slots := 0, locals := 44 }
theorem arX1_costs : zAr yX1_costs RX1 2 := ⟨rfl, by decide, by decide, by decide +kernel⟩
set_option maxHeartbeats 4000000 in
theorem kX1_costs (l : Launch) {w : zWd} (hw : zIsC w) {q ci Nf : Nat} {C : String} {T : u_T} {fs : zM → List Value} (hO : zOB w q ci fs) (hc : vwCl[ci]? = some (C, T, Nf)) {M0 : zM} {a1 : Int32} {a2 : Int32} {r : Int32} (h : fX1_costs a1 a2 = some r) : Met l yX1_costs (Cond.code yX1_costs cX1_costs 3 (some .int) :: zU) rX1_costs (zPre w M0 [.ref (za w q), .int a1, .int a2]) (zR (some (.int r))) 0 0 zNo := by
  refine z_metN (own := RX1) (lv := [(0, .ref (za w q)), (1, .int a1), (2, .int a2)]) hw.1 (by decide) (Nat.le_of_ble_eq_true rfl) rfl rfl ?_
  intro p e s m args below meth c G hr hlk hH ls hl
  unfold fX1_costs at h
  refine lv_iconst (v := (2 : Int32)) G.x G.b dX1_costs_0 (by decide) ?_
  refine lv_aload_n G.x G.b dX1_costs_1 rfl (lv_at hl 0 rfl) ?_
  refine lv_iload_n G.x G.b dX1_costs_2 rfl (lv_at hl 1 rfl) ?_
  refine lv_iload_n G.x G.b dX1_costs_3 rfl (lv_at hl 2 rfl) ?_
  obtain ⟨x1, ex1, h⟩ := z_bind h
  refine z_rdI (z_runSU (As := [.int a1, .int a2]) (rest := [.int (2 : Int32)]) G hH hl.1 (kX0_costs l hw hO hc ex1) hO hc arX0_costs (by decide) u297 u1258 u61 u291 u3 u292 rfl rfl rfl (Nat.le_of_ble_eq_true rfl) (Nat.le_of_ble_eq_true rfl) rfl (Nat.le_of_ble_eq_true rfl) dX1_costs_4) ?_
  refine lv_imul G.x G.b dX1_costs_7 ?_
  exact z_rtI G hr hlk h dX1_costs_8
def fX1_meets (a1 : Int32) (a2 : Int32) (a3 : Int32) : Option Int32 :=
  (fX0_meets a1 a2 a3).bind fun x1 =>
  if a1 ≤ (20 : Int32) then (some x1) else (some (x1 + (10 : Int32)))
abbrev rX1_meets : Room := { frames := 2, cells := 0, slots := 0, locals := 47 }
theorem arX1_meets : zAr yX1_meets RX1 3 := ⟨rfl, by decide, by decide, by decide +kernel⟩
set_option maxHeartbeats 4000000 in
theorem kX1_meets (l : Launch) {w : zWd} (hw : zIsC w) {q ci Nf : Nat} {C : String} {T : u_T} {fs : zM → List Value} (hO : zOB w q ci fs) (hc : vwCl[ci]? = some (C, T, Nf)) {M0 : zM} {a1 : Int32} {a2 : Int32} {a3 : Int32} {r : Int32} (h : fX1_meets a1 a2 a3 = some r) : Met l yX1_meets (Cond.code yX1_meets cX1_meets 5 (some .int) :: zU) rX1_meets (zPre w M0 [.ref (za w q), .int a1, .int a2, .int a3]) (zR (some (.int r))) 0 0 zNo := by
  refine z_metN (own := RX1) (lv := [(0, .ref (za w q)), (1, .int a1), (2, .int a2), (3, .int a3)]) hw.1 (by decide) (Nat.le_of_ble_eq_true rfl) rfl rfl ?_
  intro p e s m args below meth c G hr hlk hH ls hl
  unfold fX1_meets at h
  refine lv_aload_n G.x G.b dX1_meets_0 rfl (lv_at hl 0 rfl) ?_
  refine lv_iload_n G.x G.b dX1_meets_1 rfl (lv_at hl 1 rfl) ?_
  refine lv_iload_n G.x G.b dX1_meets_2 rfl (lv_at hl 2 rfl) ?_
  refine lv_iload_n G.x G.b dX1_meets_3 rfl (lv_at hl 3 rfl) ?_
  obtain ⟨x1, ex1, h⟩ := z_bind h
  refine z_rdI (z_runSU (As := [.int a1, .int a2, .int a3]) (rest := []) G hH hl.1 (kX0_meets l hw hO hc ex1) hO hc arX0_meets (by decide) u356 u1261 u61 u350 u3 u351 rfl rfl rfl (Nat.le_of_ble_eq_true rfl) (Nat.le_of_ble_eq_true rfl) rfl (Nat.le_of_ble_eq_true rfl) dX1_meets_4) ?_
  refine lv_istore (lv' := [(4, .int x1), (0, .ref (za w q)), (1, .int a1), (2, .int a2), (3, .int a3)]) G.x G.b dX1_meets_7 hl (Nat.le_of_ble_eq_true rfl) rfl (fun ls hl => ?_)
  refine lv_iload_n G.x G.b dX1_meets_9 rfl (lv_at hl 2 rfl) ?_
  refine lv_bipush (v := (20 : Int32)) G.x G.b dX1_meets_10 (by decide) ?_
  refine lv_icmp_le (tgt := 23) G.x G.b dX1_meets_12 (by decide) (fun c2 => ?_) (fun c2 => ?_)
  · have h := z_if c2 h
    refine lv_iload G.x G.b dX1_meets_23 (lv_at hl 0 rfl) ?_
    exact z_rtI G hr hlk h dX1_meets_25
  · have h := z_ifn c2 h
    refine lv_iload G.x G.b dX1_meets_15 (lv_at hl 0 rfl) ?_
    refine lv_bipush (v := (10 : Int32)) G.x G.b dX1_meets_17 (by decide) ?_
    refine lv_iadd G.x G.b dX1_meets_19 ?_
    refine lv_goto (tgt := 25) G.x G.b dX1_meets_20 (by decide) ?_
    exact z_rtI G hr hlk h dX1_meets_25
def fX1_leaves (a1 : Int32) : Option Int32 :=
  (fX0_leaves a1).bind fun x1 =>
  some (x1 + (1 : Int32))
abbrev rX1_leaves : Room := { frames := 2, cells := 0, slots := 0, locals := 42 }
theorem arX1_leaves : zAr yX1_leaves RX1 1 := ⟨rfl, by decide, by decide, by decide +kernel⟩
set_option maxHeartbeats 4000000 in
theorem kX1_leaves (l : Launch) {w : zWd} (hw : zIsC w) {q ci Nf : Nat} {C : String} {T : u_T} {fs : zM → List Value} (hO : zOB w q ci fs) (hc : vwCl[ci]? = some (C, T, Nf)) {M0 : zM} {a1 : Int32} {r : Int32} (h : fX1_leaves a1 = some r) : Met l yX1_leaves (Cond.code yX1_leaves cX1_leaves 2 (some .int) :: zU) rX1_leaves (zPre w M0 [.ref (za w q), .int a1]) (zR (some (.int r))) 0 0 zNo := by
  refine z_metN (own := RX1) (lv := [(0, .ref (za w q)), (1, .int a1)]) hw.1 (by decide) (Nat.le_of_ble_eq_true rfl) rfl rfl ?_
  intro p e s m args below meth c G hr hlk hH ls hl
  unfold fX1_leaves at h
  refine lv_aload_n G.x G.b dX1_leaves_0 rfl (lv_at hl 0 rfl) ?_
  refine lv_iload_n G.x G.b dX1_leaves_1 rfl (lv_at hl 1 rfl) ?_
  obtain ⟨x1, ex1, h⟩ := z_bind h
  refine z_rdI (z_runSU (As := [.int a1]) (rest := []) G hH hl.1 (kX0_leaves l hw hO hc ex1) hO hc arX0_leaves (by decide) u385 u1263 u61 u379 u3 u380 rfl rfl rfl (Nat.le_of_ble_eq_true rfl) (Nat.le_of_ble_eq_true rfl) rfl (Nat.le_of_ble_eq_true rfl) dX1_leaves_2) ?_
  refine lv_iconst (v := (1 : Int32)) G.x G.b dX1_leaves_5 (by decide) ?_
  refine lv_iadd G.x G.b dX1_leaves_6 ?_
  exact z_rtI G hr hlk h dX1_leaves_7
def fX1_gains (a1 : Int32) : Option Int32 :=
  if a1 = (0 : Int32) then ((fX0_gains a1).bind fun x2 =>
  some x2) else (some (0 : Int32))
abbrev rX1_gains : Room := { frames := 2, cells := 0, slots := 0, locals := 42 }
theorem arX1_gains : zAr yX1_gains RX1 1 := ⟨rfl, by decide, by decide, by decide +kernel⟩
set_option maxHeartbeats 4000000 in
theorem kX1_gains (l : Launch) {w : zWd} (hw : zIsC w) {q ci Nf : Nat} {C : String} {T : u_T} {fs : zM → List Value} (hO : zOB w q ci fs) (hc : vwCl[ci]? = some (C, T, Nf)) {M0 : zM} {a1 : Int32} {r : Int32} (h : fX1_gains a1 = some r) : Met l yX1_gains (Cond.code yX1_gains cX1_gains 2 (some .int) :: zU) rX1_gains (zPre w M0 [.ref (za w q), .int a1]) (zR (some (.int r))) 0 0 zNo := by
  refine z_metN (own := RX1) (lv := [(0, .ref (za w q)), (1, .int a1)]) hw.1 (by decide) (Nat.le_of_ble_eq_true rfl) rfl rfl ?_
  intro p e s m args below meth c G hr hlk hH ls hl
  unfold fX1_gains at h
  refine lv_iload_n G.x G.b dX1_gains_0 rfl (lv_at hl 1 rfl) ?_
  refine lv_if_eq (tgt := 8) G.x G.b dX1_gains_1 (by decide) (fun c1 => ?_) (fun c1 => ?_)
  · have h := z_if c1 h
    refine lv_aload_n G.x G.b dX1_gains_8 rfl (lv_at hl 0 rfl) ?_
    refine lv_iload_n G.x G.b dX1_gains_9 rfl (lv_at hl 1 rfl) ?_
    obtain ⟨x2, ex2, h⟩ := z_bind h
    refine z_rdI (z_runSU (As := [.int a1]) (rest := []) G hH hl.1 (kX0_gains l hw hO hc ex2) hO hc arX0_gains (by decide) u325 u1260 u61 u319 u3 u320 rfl rfl rfl (Nat.le_of_ble_eq_true rfl) (Nat.le_of_ble_eq_true rfl) rfl (Nat.le_of_ble_eq_true rfl) dX1_gains_10) ?_
    exact z_rtI G hr hlk h dX1_gains_13
  · have h := z_ifn c1 h
    refine lv_iconst (v := (0 : Int32)) G.x G.b dX1_gains_4 (by decide) ?_
    refine lv_goto (tgt := 13) G.x G.b dX1_gains_5 (by decide) ?_
    exact z_rtI G hr hlk h dX1_gains_13
def fX4_costs (a1 : Int32) (a2 : Int32) : Option Int32 :=
  (fX8_costs a1 a2).bind fun x1 =>
  some (x1 + (a2 / (50 : Int32)))
abbrev rX4_costs : Room := { frames := 1, cells := 0, slots := 0, locals := 22 }
theorem arX4_costs : zAr yX4_costs RX4 2 := ⟨rfl, by decide, by decide, by decide +kernel⟩
set_option maxHeartbeats 4000000 in
theorem kX4_costs (l : Launch) {w : zWd} (hw : zIsC w) {q ci Nf : Nat} {C : String} {T : u_T} {fs : zM → List Value} (hO : zOB w q ci fs) (hc : vwCl[ci]? = some (C, T, Nf)) {M0 : zM} {a1 : Int32} {a2 : Int32} {r : Int32} (h : fX4_costs a1 a2 = some r) : Met l yX4_costs (Cond.code yX4_costs cX4_costs 3 (some .int) :: zU) rX4_costs (zPre w M0 [.ref (za w q), .int a1, .int a2]) (zR (some (.int r))) 0 0 zNo := by
  refine z_metN (own := RX4) (lv := [(0, .ref (za w q)), (1, .int a1), (2, .int a2)]) hw.1 (by decide) (Nat.le_of_ble_eq_true rfl) rfl rfl ?_
  intro p e s m args below meth c G hr hlk hH ls hl
  unfold fX4_costs at h
  refine lv_aload_n G.x G.b dX4_costs_0 rfl (lv_at hl 0 rfl) ?_
  refine lv_iload_n G.x G.b dX4_costs_1 rfl (lv_at hl 1 rfl) ?_
  refine lv_iload_n G.x G.b dX4_costs_2 rfl (lv_at hl 2 rfl) ?_
  obtain ⟨x1, ex1, h⟩ := z_bind h
  refine z_rdI (z_runSU (As := [.int a1, .int a2]) (rest := []) G hH hl.1 (kX8_costs l hw hO hc ex1) hO hc arX8_costs (by decide) u304 u1259 u68 u305 u4 u306 rfl rfl rfl (Nat.le_of_ble_eq_true rfl) (Nat.le_of_ble_eq_true rfl) rfl (Nat.le_of_ble_eq_true rfl) dX4_costs_3) ?_
  refine lv_iload_n G.x G.b dX4_costs_6 rfl (lv_at hl 2 rfl) ?_
  refine lv_bipush (v := (50 : Int32)) G.x G.b dX4_costs_7 (by decide) ?_
  refine lv_idiv G.x G.b dX4_costs_9 (by decide) ?_
  refine lv_iadd G.x G.b dX4_costs_10 ?_
  exact z_rtI G hr hlk h dX4_costs_11
def fX4_meets (a1 : Int32) (a2 : Int32) (a3 : Int32) : Option Int32 :=
  (fX8_meets a1 a2 a3).bind fun x1 =>
  some ((2 : Int32) * x1)
abbrev rX4_meets : Room := { frames := 2, cells := 0, slots := 0, locals := 47 }
theorem arX4_meets : zAr yX4_meets RX4 3 := ⟨rfl, by decide, by decide, by decide +kernel⟩
set_option maxHeartbeats 4000000 in
theorem kX4_meets (l : Launch) {w : zWd} (hw : zIsC w) {q ci Nf : Nat} {C : String} {T : u_T} {fs : zM → List Value} (hO : zOB w q ci fs) (hc : vwCl[ci]? = some (C, T, Nf)) {M0 : zM} {a1 : Int32} {a2 : Int32} {a3 : Int32} {r : Int32} (h : fX4_meets a1 a2 a3 = some r) : Met l yX4_meets (Cond.code yX4_meets cX4_meets 4 (some .int) :: zU) rX4_meets (zPre w M0 [.ref (za w q), .int a1, .int a2, .int a3]) (zR (some (.int r))) 0 0 zNo := by
  refine z_metN (own := RX4) (lv := [(0, .ref (za w q)), (1, .int a1), (2, .int a2), (3, .int a3)]) hw.1 (by decide) (Nat.le_of_ble_eq_true rfl) rfl rfl ?_
  intro p e s m args below meth c G hr hlk hH ls hl
  unfold fX4_meets at h
  refine lv_iconst (v := (2 : Int32)) G.x G.b dX4_meets_0 (by decide) ?_
  refine lv_aload_n G.x G.b dX4_meets_1 rfl (lv_at hl 0 rfl) ?_
  refine lv_iload_n G.x G.b dX4_meets_2 rfl (lv_at hl 1 rfl) ?_
  refine lv_iload_n G.x G.b dX4_meets_3 rfl (lv_at hl 2 rfl) ?_
  refine lv_iload_n G.x G.b dX4_meets_4 rfl (lv_at hl 3 rfl) ?_
  obtain ⟨x1, ex1, h⟩ := z_bind h
  refine z_rdI (z_runSU (As := [.int a1, .int a2, .int a3]) (rest := [.int (2 : Int32)]) G hH hl.1 (kX8_meets l hw hO hc ex1) hO hc arX8_meets (by decide) u364 u1262 u68 u365 u4 u366 rfl rfl rfl (Nat.le_of_ble_eq_true rfl) (Nat.le_of_ble_eq_true rfl) rfl (Nat.le_of_ble_eq_true rfl) dX4_meets_5) ?_
  refine lv_imul G.x G.b dX4_meets_8 ?_
  exact z_rtI G hr hlk h dX4_meets_9
def fX4_gains (a1 : Int32) : Option Int32 :=
  (fX2_gains a1).bind fun x1 =>
  some (x1 - (2 : Int32))
abbrev rX4_gains : Room := { frames := 1, cells := 0, slots := 0, locals := 21 }
theorem arX4_gains : zAr yX4_gains RX4 1 := ⟨rfl, by decide, by decide, by decide +kernel⟩
set_option maxHeartbeats 4000000 in
theorem kX4_gains (l : Launch) {w : zWd} (hw : zIsC w) {q ci Nf : Nat} {C : String} {T : u_T} {fs : zM → List Value} (hO : zOB w q ci fs) (hc : vwCl[ci]? = some (C, T, Nf)) {M0 : zM} {a1 : Int32} {r : Int32} (h : fX4_gains a1 = some r) : Met l yX4_gains (Cond.code yX4_gains cX4_gains 2 (some .int) :: zU) rX4_gains (zPre w M0 [.ref (za w q), .int a1]) (zR (some (.int r))) 0 0 zNo := by
  refine z_metN (own := RX4) (lv := [(0, .ref (za w q)), (1, .int a1)]) hw.1 (by decide) (Nat.le_of_ble_eq_true rfl) rfl rfl ?_
  intro p e s m args below meth c G hr hlk hH ls hl
  unfold fX4_gains at h
  refine lv_aload_n G.x G.b dX4_gains_0 rfl (lv_at hl 0 rfl) ?_
  refine lv_iload_n G.x G.b dX4_gains_1 rfl (lv_at hl 1 rfl) ?_
  obtain ⟨x1, ex1, h⟩ := z_bind h
  refine z_rdI (z_runSI (x := ⟨RX8, "gains", "(Z)I"⟩) (As := [.int a1]) (rest := []) G hH hl.1 (kX2_gains l hw hO hc ex1) hO hc arX2_gains rfl rfl (by decide) u332 u333 u68 u47 u315 u2 u336 rfl rfl rfl (Nat.le_of_ble_eq_true rfl) (Nat.le_of_ble_eq_true rfl) rfl (Nat.le_of_ble_eq_true rfl) dX4_gains_2) ?_
  refine lv_iconst (v := (2 : Int32)) G.x G.b dX4_gains_5 (by decide) ?_
  refine lv_isub G.x G.b dX4_gains_6 ?_
  exact z_rtI G hr hlk h dX4_gains_7
