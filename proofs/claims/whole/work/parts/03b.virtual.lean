/-! calls by the receiver's kind -/
section ZQ
variable {p : Program} {l : Launch} {e : Env} {R : Room} {s : State} {m : MethodId} {args : Array Value} {below : List Frame} {meth : Method} {c : Code} {H : Heap} {locs : List Loc} {Q : State → Prop}
variable {cc : ByteArray} {pc nL : Nat} {ls : Array Slot} {rest : List Value} {w : zWd} {M : zM} {own : String}
def qcosts : Nat → Int32 → Int32 → Option Int32
  | 0 => fX2_costs
  | 1 => fX0_costs
  | 2 => fX8_costs
  | 3 => fX3_costs
  | 4 => fX1_costs
  | _ => fX4_costs
theorem q_costs {k idx : Nat} {a b r : Int32} (G : zG w p s m c args cc own nL) (hH : zH w s M H locs) (hsz : ls.size = nL) (hw : zIsC w) (hk : k < 6) (h : qcosts k a b = some r) (h1 : Cond.methodLink own idx yX2_costs ∈ zU) (hR1 : 3 ≤ R.frames) (hR2 : 66 ≤ R.locals) (hW : (rest.map fun v => v.category).sum ≤ 8) (hdg : decode cc pc = .ok (.invokevirtual idx, 3)) :
    va_Run p l e R s m args below meth c H locs 0 0 0 0 (F0 m pc ls (.int b :: .int a :: .ref (za w (36 + k)) :: rest)) rest (zR (some (.int r)) (Value.ref (za w (36 + k)) :: [.int a, .int b]).toArray) zNo := by
  have hO := cCk hw hk
  rcases (show k = 0 ∨ k = 1 ∨ k = 2 ∨ k = 3 ∨ k = 4 ∨ k = 5 by omega) with rfl | rfl | rfl | rfl | rfl | rfl
  · have h : fX2_costs a b = some r := h
    exact z_runO (owner := RX2) (S := RX2) (C := RX2) (As := [.int a, .int b]) (Qc := zR (some (.int r))) (free := zNo) G hH hsz (kX2_costs l hw hO vc2 h) hO vc2 arX2_costs rfl h1 u289 u288 u287 u287 u308 u2 u308 rfl rfl rfl (Nat.le_trans (Nat.le_of_ble_eq_true rfl) hR1) (Nat.le_trans (Nat.le_of_ble_eq_true rfl) hR2) rfl hW hdg
  · have h : fX0_costs a b = some r := h
    exact z_runO (owner := RX2) (S := RX0) (C := RX0) (As := [.int a, .int b]) (Qc := zR (some (.int r))) (free := zNo) G hH hsz (kX0_costs l hw hO vc0 h) hO vc0 arX2_costs rfl h1 u289 u290 u291 u287 u308 u3 u292 rfl rfl rfl (Nat.le_trans (Nat.le_of_ble_eq_true rfl) hR1) (Nat.le_trans (Nat.le_of_ble_eq_true rfl) hR2) rfl hW hdg
  · have h : fX8_costs a b = some r := h
    exact z_runO (owner := RX2) (S := RX8) (C := RX8) (As := [.int a, .int b]) (Qc := zR (some (.int r))) (free := zNo) G hH hsz (kX8_costs l hw hO vc8 h) hO vc8 arX2_costs rfl h1 u289 u307 u305 u287 u308 u4 u306 rfl rfl rfl (Nat.le_trans (Nat.le_of_ble_eq_true rfl) hR1) (Nat.le_trans (Nat.le_of_ble_eq_true rfl) hR2) rfl hW hdg
  · have h : fX3_costs a b = some r := h
    exact z_runO (owner := RX2) (S := RX3) (C := RX3) (As := [.int a, .int b]) (Qc := zR (some (.int r))) (free := zNo) G hH hsz (kX3_costs l hw hO vc3 h) hO vc3 arX2_costs rfl h1 u289 u298 u299 u287 u308 u5 u300 rfl rfl rfl (Nat.le_trans (Nat.le_of_ble_eq_true rfl) hR1) (Nat.le_trans (Nat.le_of_ble_eq_true rfl) hR2) rfl hW hdg
  · have h : fX1_costs a b = some r := h
    exact z_runO (owner := RX2) (S := RX1) (C := RX1) (As := [.int a, .int b]) (Qc := zR (some (.int r))) (free := zNo) G hH hsz (kX1_costs l hw hO vc1 h) hO vc1 arX2_costs rfl h1 u289 u294 u295 u287 u308 u6 u296 rfl rfl rfl (Nat.le_trans (Nat.le_of_ble_eq_true rfl) hR1) (Nat.le_trans (Nat.le_of_ble_eq_true rfl) hR2) rfl hW hdg
  · have h : fX4_costs a b = some r := h
    exact z_runO (owner := RX2) (S := RX4) (C := RX4) (As := [.int a, .int b]) (Qc := zR (some (.int r))) (free := zNo) G hH hsz (kX4_costs l hw hO vc4 h) hO vc4 arX2_costs rfl h1 u289 u301 u302 u287 u308 u7 u303 rfl rfl rfl (Nat.le_trans (Nat.le_of_ble_eq_true rfl) hR1) (Nat.le_trans (Nat.le_of_ble_eq_true rfl) hR2) rfl hW hdg
def qmeets : Nat → Int32 → Int32 → Int32 → Option Int32
  | 0 => fX2_meets
  | 1 => fX0_meets
  | 2 => fX8_meets
  | 3 => fX3_meets
  | 4 => fX1_meets
  | _ => fX4_meets
theorem q_meets {k idx : Nat} {a b d r : Int32} (G : zG w p s m c args cc own nL) (hH : zH w s M H locs) (hsz : ls.size = nL) (hw : zIsC w) (hk : k < 6) (h : qmeets k a b d = some r) (h1 : Cond.methodLink own idx yX2_meets ∈ zU) (hR1 : 3 ≤ R.frames) (hR2 : 71 ≤ R.locals) (hW : (rest.map fun v => v.category).sum ≤ 8) (hdg : decode cc pc = .ok (.invokevirtual idx, 3)) :
    va_Run p l e R s m args below meth c H locs 0 0 0 0 (F0 m pc ls (.int d :: .int b :: .int a :: .ref (za w (36 + k)) :: rest)) rest (zR (some (.int r)) (Value.ref (za w (36 + k)) :: [.int a, .int b, .int d]).toArray) zNo := by
  have hO := cCk hw hk
  rcases (show k = 0 ∨ k = 1 ∨ k = 2 ∨ k = 3 ∨ k = 4 ∨ k = 5 by omega) with rfl | rfl | rfl | rfl | rfl | rfl
  · have h : fX2_meets a b d = some r := h
    exact z_runO (owner := RX2) (S := RX2) (C := RX2) (As := [.int a, .int b, .int d]) (Qc := zR (some (.int r))) (free := zNo) G hH hsz (kX2_meets l hw hO vc2 h) hO vc2 arX2_meets rfl h1 u348 u347 u346 u346 u369 u2 u369 rfl rfl rfl (Nat.le_trans (Nat.le_of_ble_eq_true rfl) hR1) (Nat.le_trans (Nat.le_of_ble_eq_true rfl) hR2) rfl hW hdg
  · have h : fX0_meets a b d = some r := h
    exact z_runO (owner := RX2) (S := RX0) (C := RX0) (As := [.int a, .int b, .int d]) (Qc := zR (some (.int r))) (free := zNo) G hH hsz (kX0_meets l hw hO vc0 h) hO vc0 arX2_meets rfl h1 u348 u349 u350 u346 u369 u3 u351 rfl rfl rfl (Nat.le_trans (Nat.le_of_ble_eq_true rfl) hR1) (Nat.le_trans (Nat.le_of_ble_eq_true rfl) hR2) rfl hW hdg
  · have h : fX8_meets a b d = some r := h
    exact z_runO (owner := RX2) (S := RX8) (C := RX8) (As := [.int a, .int b, .int d]) (Qc := zR (some (.int r))) (free := zNo) G hH hsz (kX8_meets l hw hO vc8 h) hO vc8 arX2_meets rfl h1 u348 u368 u365 u346 u369 u4 u366 rfl rfl rfl (Nat.le_trans (Nat.le_of_ble_eq_true rfl) hR1) (Nat.le_trans (Nat.le_of_ble_eq_true rfl) hR2) rfl hW hdg
  · have h : fX3_meets a b d = some r := h
    exact z_runO (owner := RX2) (S := RX3) (C := RX3) (As := [.int a, .int b, .int d]) (Qc := zR (some (.int r))) (free := zNo) G hH hsz (kX3_meets l hw hO vc3 h) hO vc3 arX2_meets rfl h1 u348 u357 u358 u346 u369 u5 u359 rfl rfl rfl (Nat.le_trans (Nat.le_of_ble_eq_true rfl) hR1) (Nat.le_trans (Nat.le_of_ble_eq_true rfl) hR2) rfl hW hdg
  · have h : fX1_meets a b d = some r := h
    exact z_runO (owner := RX2) (S := RX1) (C := RX1) (As := [.int a, .int b, .int d]) (Qc := zR (some (.int r))) (free := zNo) G hH hsz (kX1_meets l hw hO vc1 h) hO vc1 arX2_meets rfl h1 u348 u353 u354 u346 u369 u6 u355 rfl rfl rfl (Nat.le_trans (Nat.le_of_ble_eq_true rfl) hR1) (Nat.le_trans (Nat.le_of_ble_eq_true rfl) hR2) rfl hW hdg
  · have h : fX4_meets a b d = some r := h
    exact z_runO (owner := RX2) (S := RX4) (C := RX4) (As := [.int a, .int b, .int d]) (Qc := zR (some (.int r))) (free := zNo) G hH hsz (kX4_meets l hw hO vc4 h) hO vc4 arX2_meets rfl h1 u348 u361 u362 u346 u369 u7 u363 rfl rfl rfl (Nat.le_trans (Nat.le_of_ble_eq_true rfl) hR1) (Nat.le_trans (Nat.le_of_ble_eq_true rfl) hR2) rfl hW hdg
def qleaves : Nat → Int32 → Option Int32
  | 0 => fX2_leaves
  | 1 => fX0_leaves
  | 2 => fX8_leaves
  | 3 => fX3_leaves
  | 4 => fX1_leaves
  | _ => fX8_leaves
theorem q_leaves {k idx : Nat} {a r : Int32} (G : zG w p s m c args cc own nL) (hH : zH w s M H locs) (hsz : ls.size = nL) (hw : zIsC w) (hk : k < 6) (h : qleaves k a = some r) (h1 : Cond.methodLink own idx yX2_leaves ∈ zU) (hR1 : 3 ≤ R.frames) (hR2 : 63 ≤ R.locals) (hW : (rest.map fun v => v.category).sum ≤ 8) (hdg : decode cc pc = .ok (.invokevirtual idx, 3)) :
    va_Run p l e R s m args below meth c H locs 0 0 0 0 (F0 m pc ls (.int a :: .ref (za w (36 + k)) :: rest)) rest (zR (some (.int r)) (Value.ref (za w (36 + k)) :: [.int a]).toArray) zNo := by
  have hO := cCk hw hk
  rcases (show k = 0 ∨ k = 1 ∨ k = 2 ∨ k = 3 ∨ k = 4 ∨ k = 5 by omega) with rfl | rfl | rfl | rfl | rfl | rfl
  · have h : fX2_leaves a = some r := h
    exact z_runO (owner := RX2) (S := RX2) (C := RX2) (As := [.int a]) (Qc := zR (some (.int r))) (free := zNo) G hH hsz (kX2_leaves l hw hO vc2 h) hO vc2 arX2_leaves rfl h1 u377 u376 u375 u375 u394 u2 u394 rfl rfl rfl (Nat.le_trans (Nat.le_of_ble_eq_true rfl) hR1) (Nat.le_trans (Nat.le_of_ble_eq_true rfl) hR2) rfl hW hdg
  · have h : fX0_leaves a = some r := h
    exact z_runO (owner := RX2) (S := RX0) (C := RX0) (As := [.int a]) (Qc := zR (some (.int r))) (free := zNo) G hH hsz (kX0_leaves l hw hO vc0 h) hO vc0 arX2_leaves rfl h1 u377 u378 u379 u375 u394 u3 u380 rfl rfl rfl (Nat.le_trans (Nat.le_of_ble_eq_true rfl) hR1) (Nat.le_trans (Nat.le_of_ble_eq_true rfl) hR2) rfl hW hdg
  · have h : fX8_leaves a = some r := h
    exact z_runO (owner := RX2) (S := RX8) (C := RX8) (As := [.int a]) (Qc := zR (some (.int r))) (free := zNo) G hH hsz (kX8_leaves l hw hO vc8 h) hO vc8 arX2_leaves rfl h1 u377 u393 u390 u375 u394 u4 u391 rfl rfl rfl (Nat.le_trans (Nat.le_of_ble_eq_true rfl) hR1) (Nat.le_trans (Nat.le_of_ble_eq_true rfl) hR2) rfl hW hdg
  · have h : fX3_leaves a = some r := h
    exact z_runO (owner := RX2) (S := RX3) (C := RX3) (As := [.int a]) (Qc := zR (some (.int r))) (free := zNo) G hH hsz (kX3_leaves l hw hO vc3 h) hO vc3 arX2_leaves rfl h1 u377 u386 u387 u375 u394 u5 u388 rfl rfl rfl (Nat.le_trans (Nat.le_of_ble_eq_true rfl) hR1) (Nat.le_trans (Nat.le_of_ble_eq_true rfl) hR2) rfl hW hdg
  · have h : fX1_leaves a = some r := h
    exact z_runO (owner := RX2) (S := RX1) (C := RX1) (As := [.int a]) (Qc := zR (some (.int r))) (free := zNo) G hH hsz (kX1_leaves l hw hO vc1 h) hO vc1 arX2_leaves rfl h1 u377 u382 u383 u375 u394 u6 u384 rfl rfl rfl (Nat.le_trans (Nat.le_of_ble_eq_true rfl) hR1) (Nat.le_trans (Nat.le_of_ble_eq_true rfl) hR2) rfl hW hdg
  · have h : fX8_leaves a = some r := h
    exact z_runO (owner := RX2) (S := RX8) (C := RX4) (As := [.int a]) (Qc := zR (some (.int r))) (free := zNo) G hH hsz (kX8_leaves l hw hO vc4 h) hO vc4 arX2_leaves rfl h1 u377 u389 u390 u375 u394 u4 u391 rfl rfl rfl (Nat.le_trans (Nat.le_of_ble_eq_true rfl) hR1) (Nat.le_trans (Nat.le_of_ble_eq_true rfl) hR2) rfl hW hdg
def qgains : Nat → Int32 → Option Int32
  | 0 => fX2_gains
  | 1 => fX0_gains
  | 2 => fX2_gains
  | 3 => fX3_gains
  | 4 => fX1_gains
  | _ => fX4_gains
theorem q_gains {k idx : Nat} {a r : Int32} (G : zG w p s m c args cc own nL) (hH : zH w s M H locs) (hsz : ls.size = nL) (hw : zIsC w) (hk : k < 6) (h : qgains k a = some r) (h1 : Cond.methodLink own idx yX2_gains ∈ zU) (hR1 : 3 ≤ R.frames) (hR2 : 63 ≤ R.locals) (hW : (rest.map fun v => v.category).sum ≤ 8) (hdg : decode cc pc = .ok (.invokevirtual idx, 3)) :
    va_Run p l e R s m args below meth c H locs 0 0 0 0 (F0 m pc ls (.int a :: .ref (za w (36 + k)) :: rest)) rest (zR (some (.int r)) (Value.ref (za w (36 + k)) :: [.int a]).toArray) zNo := by
  have hO := cCk hw hk
  rcases (show k = 0 ∨ k = 1 ∨ k = 2 ∨ k = 3 ∨ k = 4 ∨ k = 5 by omega) with rfl | rfl | rfl | rfl | rfl | rfl
  · have h : fX2_gains a = some r := h
    exact z_runO (owner := RX2) (S := RX2) (C := RX2) (As := [.int a]) (Qc := zR (some (.int r))) (free := zNo) G hH hsz (kX2_gains l hw hO vc2 h) hO vc2 arX2_gains rfl h1 u317 u316 u315 u315 u336 u2 u336 rfl rfl rfl (Nat.le_trans (Nat.le_of_ble_eq_true rfl) hR1) (Nat.le_trans (Nat.le_of_ble_eq_true rfl) hR2) rfl hW hdg
  · have h : fX0_gains a = some r := h
    exact z_runO (owner := RX2) (S := RX0) (C := RX0) (As := [.int a]) (Qc := zR (some (.int r))) (free := zNo) G hH hsz (kX0_gains l hw hO vc0 h) hO vc0 arX2_gains rfl h1 u317 u318 u319 u315 u336 u3 u320 rfl rfl rfl (Nat.le_trans (Nat.le_of_ble_eq_true rfl) hR1) (Nat.le_trans (Nat.le_of_ble_eq_true rfl) hR2) rfl hW hdg
  · have h : fX2_gains a = some r := h
    exact z_runO (owner := RX2) (S := RX2) (C := RX8) (As := [.int a]) (Qc := zR (some (.int r))) (free := zNo) G hH hsz (kX2_gains l hw hO vc8 h) hO vc8 arX2_gains rfl h1 u317 u335 u315 u315 u336 u2 u336 rfl rfl rfl (Nat.le_trans (Nat.le_of_ble_eq_true rfl) hR1) (Nat.le_trans (Nat.le_of_ble_eq_true rfl) hR2) rfl hW hdg
  · have h : fX3_gains a = some r := h
    exact z_runO (owner := RX2) (S := RX3) (C := RX3) (As := [.int a]) (Qc := zR (some (.int r))) (free := zNo) G hH hsz (kX3_gains l hw hO vc3 h) hO vc3 arX2_gains rfl h1 u317 u326 u327 u315 u336 u5 u328 rfl rfl rfl (Nat.le_trans (Nat.le_of_ble_eq_true rfl) hR1) (Nat.le_trans (Nat.le_of_ble_eq_true rfl) hR2) rfl hW hdg
  · have h : fX1_gains a = some r := h
    exact z_runO (owner := RX2) (S := RX1) (C := RX1) (As := [.int a]) (Qc := zR (some (.int r))) (free := zNo) G hH hsz (kX1_gains l hw hO vc1 h) hO vc1 arX2_gains rfl h1 u317 u322 u323 u315 u336 u6 u324 rfl rfl rfl (Nat.le_trans (Nat.le_of_ble_eq_true rfl) hR1) (Nat.le_trans (Nat.le_of_ble_eq_true rfl) hR2) rfl hW hdg
  · have h : fX4_gains a = some r := h
    exact z_runO (owner := RX2) (S := RX4) (C := RX4) (As := [.int a]) (Qc := zR (some (.int r))) (free := zNo) G hH hsz (kX4_gains l hw hO vc4 h) hO vc4 arX2_gains rfl h1 u317 u329 u330 u315 u336 u7 u331 rfl rfl rfl (Nat.le_trans (Nat.le_of_ble_eq_true rfl) hR1) (Nat.le_trans (Nat.le_of_ble_eq_true rfl) hR2) rfl hW hdg
end ZQ
