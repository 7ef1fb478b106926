/-! Strings -/
def zSl (i : Nat) : Int32 := Int32.ofNat (zLen.getD i 0)
def zSc (i j : Nat) : Int32 := (zByt.getD i []).getD j 0
theorem zSc_ok : ∀ i, i < 14 → ∀ j, j < zLen.getD i 0 → ((zSc i j &&& 255).toUInt32 % 65536).toInt32 = zSc i j := by decide +kernel
theorem zSl_le : ∀ i, i < 14 → zLen.getD i 0 < 10 := by decide +kernel
abbrev rJ0 : Room := { frames := 0, cells := 0, slots := 0, locals := 0 }
abbrev rJlen : Room := { frames := 1, cells := 0, slots := 0, locals := 20 }
abbrev rJsci : Room := { frames := 1, cells := 0, slots := 0, locals := 22 }
abbrev rJlca : Room := { frames := 2, cells := 0, slots := 0, locals := 43 }
abbrev rJca : Room := { frames := 3, cells := 0, slots := 0, locals := 64 }
theorem aJcoder : zAr yJ0_coder_7d493 RJ0 0 := ⟨rfl, by decide, by decide, by decide +kernel⟩
theorem aJlen : zAr yJ0_length_8abf5 RJ0 0 := ⟨rfl, by decide, by decide, by decide +kernel⟩
theorem aJlat : zAr yJ0_isLatin1_aae02 RJ0 0 := ⟨rfl, by decide, by decide, by decide +kernel⟩
theorem aJca : zAr yJ0_charAt_5068e RJ0 1 := ⟨rfl, by decide, by decide, by decide +kernel⟩
theorem aJsci : zAr yJ0_checkIndex_df160 RJ0 2 := ⟨rfl, by decide, by decide, by decide +kernel⟩
theorem aJlca : zAr yJ1_charAt_3b067 RJ1 2 := ⟨rfl, by decide, by decide, by decide +kernel⟩
theorem aJpci : zAr yJ3_checkIndex_8e157 RJ3 3 := ⟨rfl, by decide, by decide, by decide +kernel⟩
theorem kJcoder (l : Launch) {w : zWd} (hw : zIsC w) {i : Nat} (hi : i < 14) {M0 : zM} : Met l yJ0_coder_7d493 (Cond.code yJ0_coder_7d493 cJ0_coder_7d493 1 (some .byte) :: zU) rJ0 (zPre w M0 [.ref (za w (100 + i))]) (zR (some (.int 0))) 0 0 zNo := by
  refine z_metN (own := RJ0) (lv := [(0, .ref (za w (100 + i)))]) hw.1 (by decide) (Nat.le_of_ble_eq_true rfl) rfl rfl ?_
  intro p e s m args below meth c G hr hlk hH ls hl
  have E := cE hw G.e
  refine va_gets G.x G.b E.2.2.1 hH.2 G.o (G.t u609) (fun _ h => h) dJ0_coder_7d493_0 ?_
  refine lv_if_eq (tgt := 13) G.x G.b dJ0_coder_7d493_3 (by decide) (fun c1 => absurd c1 (by decide)) (fun c1 => ?_)
  refine lv_aload_n G.x G.b dJ0_coder_7d493_6 rfl (lv_at hl 0 rfl) ?_
  refine vk_getf G.x G.b (E.1.1 i hi).2.1 hH.2 G.o (G.t u1270) (fun _ h => h) dJ0_coder_7d493_7 ?_
  refine lv_goto (tgt := 14) G.x G.b dJ0_coder_7d493_10 (by decide) ?_
  exact z_rtB G hr rfl hlk dJ0_coder_7d493_14
theorem kJlat (l : Launch) {w : zWd} (hw : zIsC w) {i : Nat} (hi : i < 14) {M0 : zM} : Met l yJ0_isLatin1_aae02 (Cond.code yJ0_isLatin1_aae02 cJ0_isLatin1_aae02 1 (some .boolean) :: zU) rJ0 (zPre w M0 [.ref (za w (100 + i))]) (zR (some (.int 1))) 0 0 zNo := by
  refine z_metN (own := RJ0) (lv := [(0, .ref (za w (100 + i)))]) hw.1 (by decide) (Nat.le_of_ble_eq_true rfl) rfl rfl ?_
  intro p e s m args below meth c G hr hlk hH ls hl
  have E := cE hw G.e
  refine va_gets G.x G.b E.2.2.1 hH.2 G.o (G.t u609) (fun _ h => h) dJ0_isLatin1_aae02_0 ?_
  refine lv_if_eq (tgt := 17) G.x G.b dJ0_isLatin1_aae02_3 (by decide) (fun c1 => absurd c1 (by decide)) (fun c1 => ?_)
  refine lv_aload_n G.x G.b dJ0_isLatin1_aae02_6 rfl (lv_at hl 0 rfl) ?_
  refine vk_getf G.x G.b (E.1.1 i hi).2.1 hH.2 G.o (G.t u1270) (fun _ h => h) dJ0_isLatin1_aae02_7 ?_
  refine lv_if_ne (tgt := 17) G.x G.b dJ0_isLatin1_aae02_10 (by decide) (fun c1 => absurd rfl c1) (fun c1 => ?_)
  refine lv_iconst (v := (1 : Int32)) G.x G.b dJ0_isLatin1_aae02_13 (by decide) ?_
  refine lv_goto (tgt := 18) G.x G.b dJ0_isLatin1_aae02_14 (by decide) ?_
  exact z_rtZ G hr hlk (by decide : zbl 1 = some 1) dJ0_isLatin1_aae02_18
theorem kJlen (l : Launch) {w : zWd} (hw : zIsC w) {i : Nat} (hi : i < 14) {M0 : zM} : Met l yJ0_length_8abf5 (Cond.code yJ0_length_8abf5 cJ0_length_8abf5 1 (some .int) :: zU) rJlen (zPre w M0 [.ref (za w (100 + i))]) (zR (some (.int (zSl i)))) 0 0 zNo := by
  refine z_metN (own := RJ0) (lv := [(0, .ref (za w (100 + i)))]) hw.1 (by decide) (Nat.le_of_ble_eq_true rfl) rfl rfl ?_
  intro p e s m args below meth c G hr hlk hH ls hl
  have E := cE hw G.e
  refine lv_aload_n G.x G.b dJ0_length_8abf5_0 rfl (lv_at hl 0 rfl) ?_
  refine vk_getf G.x G.b (E.1.1 i hi).2.2.1 hH.2 G.o (G.t u1269) (fun _ h => h) dJ0_length_8abf5_1 ?_
  refine va_tlen (v := zSl i) G.x G.b (E.1.1 i hi).2.2.2 hH.2 rfl dJ0_length_8abf5_4 ?_
  refine lv_aload_n G.x G.b dJ0_length_8abf5_5 rfl (lv_at hl 0 rfl) ?_
  refine z_rdI (z_runX (As := []) (rest := [.int (zSl i)]) G hH hl.1 (kJcoder l hw hi) (z_strV hw G hH hi) aJcoder u605 u606 u607 u14 u608 rfl rfl rfl (Nat.le_of_ble_eq_true rfl) (Nat.le_of_ble_eq_true rfl) rfl (Nat.le_of_ble_eq_true rfl) dJ0_length_8abf5_6) ?_
  refine lv_ishr G.x G.b dJ0_length_8abf5_9 ?_
  exact z_rtI G hr hlk (congrArg some (sb_shr0 _)) dJ0_length_8abf5_10
theorem kJpci (l : Launch) {w : zWd} (ho : zOk w) {M0 : zM} {x n : Int32} {v : Value} (hv : v = .null ∨ ∃ t, v = .ref t) (h0 : ¬ x < 0) (h1 : x < n) : Met l yJ3_checkIndex_8e157 (Cond.code yJ3_checkIndex_8e157 cJ3_checkIndex_8e157 3 (some .int) :: zU) rJ0 (zPre w M0 [.int x, .int n, v]) (zR (some (.int x))) 0 0 zNo := by
  refine z_metN (own := RJ3) (lv := [(0, .int x), (1, .int n), (2, v)]) ho (by decide) (by rcases hv with rfl | ⟨t, rfl⟩ <;> exact (Nat.le_of_ble_eq_true rfl)) rfl rfl ?_
  intro p e s m args below meth c G hr hlk hH ls hl
  refine lv_iload_n G.x G.b dJ3_checkIndex_8e157_0 rfl (lv_at hl 0 rfl) ?_
  refine lv_if_lt (tgt := 9) G.x G.b dJ3_checkIndex_8e157_1 (by decide) (fun c1 => absurd c1 h0) (fun c1 => ?_)
  refine lv_iload_n G.x G.b dJ3_checkIndex_8e157_4 rfl (lv_at hl 0 rfl) ?_
  refine lv_iload_n G.x G.b dJ3_checkIndex_8e157_5 rfl (lv_at hl 1 rfl) ?_
  refine lv_icmp_lt (tgt := 16) G.x G.b dJ3_checkIndex_8e157_6 (by decide) (fun c1 => ?_) (fun c1 => absurd h1 c1)
  refine lv_iload_n G.x G.b dJ3_checkIndex_8e157_16 rfl (lv_at hl 0 rfl) ?_
  exact z_rtI G hr hlk rfl dJ3_checkIndex_8e157_17
theorem kJsci (l : Launch) {w : zWd} (hw : zIsC w) {M0 : zM} {x n : Int32} (h0 : ¬ x < 0) (h1 : x < n) : Met l yJ0_checkIndex_df160 (Cond.code yJ0_checkIndex_df160 cJ0_checkIndex_df160 2 none :: zU) rJsci (zPre w M0 [.int x, .int n]) (zR none) 0 0 zNo := by
  refine z_metN (own := RJ0) (lv := [(0, .int x), (1, .int n)]) hw.1 (by decide) (Nat.le_of_ble_eq_true rfl) rfl rfl ?_
  intro p e s m args below meth c G hr hlk hH ls hl
  have E := cE hw G.e
  refine lv_iload_n G.x G.b dJ0_checkIndex_df160_0 rfl (lv_at hl 0 rfl) ?_
  refine lv_iload_n G.x G.b dJ0_checkIndex_df160_1 rfl (lv_at hl 1 rfl) ?_
  rcases E.2.2.2.1 with hZ | ⟨t, hZ⟩
  · refine va_gets G.x G.b hZ hH.2 G.o (G.t u625) (fun _ h => h) dJ0_checkIndex_df160_2 ?_
    refine z_rdI (z_runS (As := [.int x, .int n, .null]) (rest := []) G hH hl.1 (kJpci l hw.1 (Or.inl rfl) h0 h1) aJpci u627 u628 u16 u629 rfl rfl rfl (Nat.le_of_ble_eq_true rfl) (Nat.le_of_ble_eq_true rfl) rfl (Nat.le_of_ble_eq_true rfl) dJ0_checkIndex_df160_5) ?_
    refine lv_pop G.x G.b dJ0_checkIndex_df160_8 rfl ?_
    exact z_rtV G hr hlk dJ0_checkIndex_df160_9
  · refine va_gets G.x G.b hZ hH.2 G.o (G.t u625) (fun _ h => h) dJ0_checkIndex_df160_2 ?_
    refine z_rdI (z_runS (As := [.int x, .int n, .ref t]) (rest := []) G hH hl.1 (kJpci l hw.1 (Or.inr ⟨t, rfl⟩) h0 h1) aJpci u627 u628 u16 u629 rfl rfl rfl (Nat.le_of_ble_eq_true rfl) (Nat.le_of_ble_eq_true rfl) rfl (Nat.le_of_ble_eq_true rfl) dJ0_checkIndex_df160_5) ?_
    refine lv_pop G.x G.b dJ0_checkIndex_df160_8 rfl ?_
    exact z_rtV G hr hlk dJ0_checkIndex_df160_9
theorem zix_cmp {x : Int32} {n j : Nat} (h : zix x n = some j) (hn : n < 2 ^ 31) : ¬ x < 0 ∧ x < Int32.ofNat n ∧ vp_in x n ∧ x.toNatClampNeg = j := by
  obtain ⟨h1, h2⟩ := zix_some h
  obtain ⟨k, hk, rfl⟩ := vp_in_of h1 hn
  exact ⟨nI_pos (Nat.lt_trans hk hn), nI_lt hk hn, h1, h2⟩
theorem kJlca (l : Launch) {w : zWd} (hw : zIsC w) {i : Nat} (hi : i < 14) {M0 : zM} {x : Int32} {j : Nat} (hj : zix x (zLen.getD i 0) = some j) : Met l yJ1_charAt_3b067 (Cond.code yJ1_charAt_3b067 cJ1_charAt_3b067 2 (some .char) :: zU) rJlca (zPre w M0 [.ref (za w (200 + i)), .int x]) (zR (some (.int (zSc i j)))) 0 0 zNo := by
  refine z_metN (own := RJ1) (lv := [(0, .ref (za w (200 + i))), (1, .int x)]) hw.1 (by decide) (Nat.le_of_ble_eq_true rfl) rfl rfl ?_
  intro p e s m args below meth c G hr hlk hH ls hl
  have E := cE hw G.e
  obtain ⟨h0, h1, h2, h3⟩ := zix_cmp hj (Nat.lt_trans (zSl_le i hi) (by decide))
  refine lv_iload_n G.x G.b dJ1_charAt_3b067_0 rfl (lv_at hl 1 rfl) ?_
  refine lv_aload_n G.x G.b dJ1_charAt_3b067_1 rfl (lv_at hl 0 rfl) ?_
  refine va_tlen (v := zSl i) G.x G.b (E.1.1 i hi).2.2.2 hH.2 rfl dJ1_charAt_3b067_2 ?_
  refine z_rdV (z_runS (As := [.int x, .int (zSl i)]) (rest := []) G hH hl.1 (kJsci l hw h0 h1) aJsci u622 u623 u14 u624 rfl rfl rfl (Nat.le_of_ble_eq_true rfl) (Nat.le_of_ble_eq_true rfl) rfl (Nat.le_of_ble_eq_true rfl) dJ1_charAt_3b067_3) ?_
  refine lv_aload_n G.x G.b dJ1_charAt_3b067_6 rfl (lv_at hl 0 rfl) ?_
  refine lv_iload_n G.x G.b dJ1_charAt_3b067_7 rfl (lv_at hl 1 rfl) ?_
  refine va_tb (v := .int (zSc i j)) G.x G.b (E.1.1 i hi).2.2.2 hH.2 h2 (by rw [h3]; rfl) dJ1_charAt_3b067_8 ?_
  refine lv_sipush (v := (255 : Int32)) G.x G.b dJ1_charAt_3b067_9 (by decide) ?_
  refine lv_iand G.x G.b dJ1_charAt_3b067_12 ?_
  refine lv_i2c (v := zSc i j) G.x G.b dJ1_charAt_3b067_13 (zSc_ok i hi j (zix_lt hj)) ?_
  exact z_rtC G hr (by rw [← zSc_ok i hi j (zix_lt hj)]; exact pk_nc _) hlk dJ1_charAt_3b067_14
theorem kJca (l : Launch) {w : zWd} (hw : zIsC w) {i : Nat} (hi : i < 14) {M0 : zM} {x : Int32} {j : Nat} (hj : zix x (zLen.getD i 0) = some j) : Met l yJ0_charAt_5068e (Cond.code yJ0_charAt_5068e cJ0_charAt_5068e 2 (some .char) :: zU) rJca (zPre w M0 [.ref (za w (100 + i)), .int x]) (zR (some (.int (zSc i j)))) 0 0 zNo := by
  refine z_metN (own := RJ0) (lv := [(0, .ref (za w (100 + i))), (1, .int x)]) hw.1 (by decide) (Nat.le_of_ble_eq_true rfl) rfl rfl ?_
  intro p e s m args below meth c G hr hlk hH ls hl
  have E := cE hw G.e
  refine lv_aload_n G.x G.b dJ0_charAt_5068e_0 rfl (lv_at hl 0 rfl) ?_
  refine z_rdI (z_runX (As := []) (rest := []) G hH hl.1 (kJlat l hw hi) (z_strV hw G hH hi) aJlat u615 u616 u617 u14 u618 rfl rfl rfl (Nat.le_of_ble_eq_true rfl) (Nat.le_of_ble_eq_true rfl) rfl (Nat.le_of_ble_eq_true rfl) dJ0_charAt_5068e_1) ?_
  refine lv_if_eq (tgt := 16) G.x G.b dJ0_charAt_5068e_4 (by decide) (fun c1 => absurd c1 (by decide)) (fun c1 => ?_)
  refine lv_aload_n G.x G.b dJ0_charAt_5068e_7 rfl (lv_at hl 0 rfl) ?_
  refine vk_getf G.x G.b (E.1.1 i hi).2.2.1 hH.2 G.o (G.t u1269) (fun _ h => h) dJ0_charAt_5068e_8 ?_
  refine lv_iload_n G.x G.b dJ0_charAt_5068e_11 rfl (lv_at hl 1 rfl) ?_
  refine z_rdI (z_runS (As := [.ref (za w (200 + i)), .int x]) (rest := []) G hH hl.1 (kJlca l hw hi hj) aJlca u619 u620 u15 u621 rfl rfl rfl (Nat.le_of_ble_eq_true rfl) (Nat.le_of_ble_eq_true rfl) rfl (Nat.le_of_ble_eq_true rfl) dJ0_charAt_5068e_12) ?_
  exact z_rtC G hr (by rw [← zSc_ok i hi j (zix_lt hj)]; exact pk_nc _) hlk dJ0_charAt_5068e_15
theorem kX2_title (l : Launch) {w : zWd} (hw : zIsC w) {q : Nat} {M0 : zM} : Met l yX2_title (Cond.code yX2_title cX2_title 1 (some (.object "java/lang/String")) :: zU) rJ0 (zPre w M0 [.ref (za w q)]) (zR (some (.ref (za w (100 + 0))))) 0 0 zNo := by
  refine z_metN (own := RX2) (lv := [(0, .ref (za w q))]) hw.1 (by decide) (Nat.le_of_ble_eq_true rfl) rfl rfl ?_
  intro p e s m args below meth c G hr hlk hH ls hl
  refine va_ldcS (q := za w (100 + 0)) G.x G.b G.o ((cE hw G.e).2.1 0 (by decide)) dX2_title_0 ?_
  exact z_rtA G hr hlk dX2_title_2
theorem arX2_title : zAr yX2_title RX2 0 := ⟨rfl, by decide, by decide, by decide +kernel⟩
theorem kX0_title (l : Launch) {w : zWd} (hw : zIsC w) {q : Nat} {M0 : zM} : Met l yX0_title (Cond.code yX0_title cX0_title 1 (some (.object "java/lang/String")) :: zU) rJ0 (zPre w M0 [.ref (za w q)]) (zR (some (.ref (za w (100 + 1))))) 0 0 zNo := by
  refine z_metN (own := RX0) (lv := [(0, .ref (za w q))]) hw.1 (by decide) (Nat.le_of_ble_eq_true rfl) rfl rfl ?_
  intro p e s m args below meth c G hr hlk hH ls hl
  refine va_ldcS (q := za w (100 + 1)) G.x G.b G.o ((cE hw G.e).2.1 1 (by decide)) dX0_title_0 ?_
  exact z_rtA G hr hlk dX0_title_2
theorem arX0_title : zAr yX0_title RX0 0 := ⟨rfl, by decide, by decide, by decide +kernel⟩
theorem kX8_title (l : Launch) {w : zWd} (hw : zIsC w) {q : Nat} {M0 : zM} : Met l yX8_title (Cond.code yX8_title cX8_title 1 (some (.object "java/lang/String")) :: zU) rJ0 (zPre w M0 [.ref (za w q)]) (zR (some (.ref (za w (100 + 2))))) 0 0 zNo := by
  refine z_metN (own := RX8) (lv := [(0, .ref (za w q))]) hw.1 (by decide) (Nat.le_of_ble_eq_true rfl) rfl rfl ?_
  intro p e s m args below meth c G hr hlk hH ls hl
  refine va_ldcS (q := za w (100 + 2)) G.x G.b G.o ((cE hw G.e).2.1 2 (by decide)) dX8_title_0 ?_
  exact z_rtA G hr hlk dX8_title_2
theorem arX8_title : zAr yX8_title RX8 0 := ⟨rfl, by decide, by decide, by decide +kernel⟩
theorem kX3_title (l : Launch) {w : zWd} (hw : zIsC w) {q : Nat} {M0 : zM} : Met l yX3_title (Cond.code yX3_title cX3_title 1 (some (.object "java/lang/String")) :: zU) rJ0 (zPre w M0 [.ref (za w q)]) (zR (some (.ref (za w (100 + 3))))) 0 0 zNo := by
  refine z_metN (own := RX3) (lv := [(0, .ref (za w q))]) hw.1 (by decide) (Nat.le_of_ble_eq_true rfl) rfl rfl ?_
  intro p e s m args below meth c G hr hlk hH ls hl
  refine va_ldcS (q := za w (100 + 3)) G.x G.b G.o ((cE hw G.e).2.1 3 (by decide)) dX3_title_0 ?_
  exact z_rtA G hr hlk dX3_title_2
theorem arX3_title : zAr yX3_title RX3 0 := ⟨rfl, by decide, by decide, by decide +kernel⟩
theorem kX1_title (l : Launch) {w : zWd} (hw : zIsC w) {q : Nat} {M0 : zM} : Met l yX1_title (Cond.code yX1_title cX1_title 1 (some (.object "java/lang/String")) :: zU) rJ0 (zPre w M0 [.ref (za w q)]) (zR (some (.ref (za w (100 + 4))))) 0 0 zNo := by
  refine z_metN (own := RX1) (lv := [(0, .ref (za w q))]) hw.1 (by decide) (Nat.le_of_ble_eq_true rfl) rfl rfl ?_
  intro p e s m args below meth c G hr hlk hH ls hl
  refine va_ldcS (q := za w (100 + 4)) G.x G.b G.o ((cE hw G.e).2.1 4 (by decide)) dX1_title_0 ?_
  exact z_rtA G hr hlk dX1_title_2
theorem arX1_title : zAr yX1_title RX1 0 := ⟨rfl, by decide, by decide, by decide +kernel⟩
theorem kX4_title (l : Launch) {w : zWd} (hw : zIsC w) {q : Nat} {M0 : zM} : Met l yX4_title (Cond.code yX4_title cX4_title 1 (some (.object "java/lang/String")) :: zU) rJ0 (zPre w M0 [.ref (za w q)]) (zR (some (.ref (za w (100 + 5))))) 0 0 zNo := by
  refine z_metN (own := RX4) (lv := [(0, .ref (za w q))]) hw.1 (by decide) (Nat.le_of_ble_eq_true rfl) rfl rfl ?_
  intro p e s m args below meth c G hr hlk hH ls hl
  refine va_ldcS (q := za w (100 + 5)) G.x G.b G.o ((cE hw G.e).2.1 5 (by decide)) dX4_title_0 ?_
  exact z_rtA G hr hlk dX4_title_2
theorem arX4_title : zAr yX4_title RX4 0 := ⟨rfl, by decide, by decide, by decide +kernel⟩
section ZQT
variable {p : Program} {l : Launch} {e : Env} {R : Room} {s : State} {m : MethodId} {args : Array Value} {below : List Frame} {meth : Method} {c : Code} {H : Heap} {locs : List Loc} {Q : State → Prop}
variable {cc : ByteArray} {pc nL : Nat} {ls : Array Slot} {rest : List Value} {w : zWd} {M : zM} {own : String}
theorem q_slen {i idx : Nat} (G : zG w p s m c args cc own nL) (hH : zH w s M H locs) (hsz : ls.size = nL) (hw : zIsC w) (hi : i < 14) (h1 : Cond.methodLink own idx yJ0_length_8abf5 ∈ zU) (hR1 : 2 ≤ R.frames) (hR2 : 40 ≤ R.locals) (hW : (rest.map fun v => v.category).sum ≤ 8) (hdg : decode cc pc = .ok (.invokevirtual idx, 3)) :
    va_Run p l e R s m args below meth c H locs 0 0 0 0 (F0 m pc ls (.ref (za w (100 + i)) :: rest)) rest (zR (some (.int (zSl i))) (Value.ref (za w (100 + i)) :: []).toArray) zNo :=
  z_runX (As := []) (Qc := zR (some (.int (zSl i)))) G hH hsz (kJlen l hw hi) (z_strV hw G hH hi) aJlen h1 u602 u603 u14 u604 rfl rfl rfl hR1 hR2 rfl hW hdg
theorem q_schar {i idx j : Nat} {x : Int32} (G : zG w p s m c args cc own nL) (hH : zH w s M H locs) (hsz : ls.size = nL) (hw : zIsC w) (hi : i < 14) (hj : zix x (zLen.getD i 0) = some j) (h1 : Cond.methodLink own idx yJ0_charAt_5068e ∈ zU) (hR1 : 4 ≤ R.frames) (hR2 : 85 ≤ R.locals) (hW : (rest.map fun v => v.category).sum ≤ 8) (hdg : decode cc pc = .ok (.invokevirtual idx, 3)) :
    va_Run p l e R s m args below meth c H locs 0 0 0 0 (F0 m pc ls (.int x :: .ref (za w (100 + i)) :: rest)) rest (zR (some (.int (zSc i j))) (Value.ref (za w (100 + i)) :: [.int x]).toArray) zNo :=
  z_runX (As := [.int x]) (Qc := zR (some (.int (zSc i j)))) G hH hsz (kJca l hw hi hj) (z_strV hw G hH hi) aJca h1 u612 u613 u14 u614 rfl rfl rfl hR1 hR2 rfl hW hdg
theorem q_title {k idx : Nat} (G : zG w p s m c args cc own nL) (hH : zH w s M H locs) (hsz : ls.size = nL) (hw : zIsC w) (hk : k < 6) (h1 : Cond.methodLink own idx yX2_title ∈ zU) (hR1 : 1 ≤ R.frames) (hR2 : 20 ≤ R.locals) (hW : (rest.map fun v => v.category).sum ≤ 8) (hdg : decode cc pc = .ok (.invokevirtual idx, 3)) :
    va_Run p l e R s m args below meth c H locs 0 0 0 0 (F0 m pc ls (.ref (za w (36 + k)) :: rest)) rest (zR (some (.ref (za w (100 + k)))) (Value.ref (za w (36 + k)) :: []).toArray) zNo := by
  have hO := cCk hw hk
  rcases (show k = 0 ∨ k = 1 ∨ k = 2 ∨ k = 3 ∨ k = 4 ∨ k = 5 by omega) with rfl | rfl | rfl | rfl | rfl | rfl
  · exact z_runO (owner := RX2) (S := RX2) (C := RX2) (As := []) (Qc := zR (some (.ref (za w (100 + 0))))) (free := zNo) G hH hsz (kX2_title l hw) hO vc2 arX2_title rfl h1 u574 u573 u572 u572 u595 u2 u595 rfl rfl rfl (Nat.le_trans (Nat.le_of_ble_eq_true rfl) hR1) (Nat.le_trans (Nat.le_of_ble_eq_true rfl) hR2) rfl hW hdg
  · exact z_runO (owner := RX2) (S := RX0) (C := RX0) (As := []) (Qc := zR (some (.ref (za w (100 + 1))))) (free := zNo) G hH hsz (kX0_title l hw) hO vc0 arX2_title rfl h1 u574 u575 u576 u572 u595 u3 u577 rfl rfl rfl (Nat.le_trans (Nat.le_of_ble_eq_true rfl) hR1) (Nat.le_trans (Nat.le_of_ble_eq_true rfl) hR2) rfl hW hdg
  · exact z_runO (owner := RX2) (S := RX8) (C := RX8) (As := []) (Qc := zR (some (.ref (za w (100 + 2))))) (free := zNo) G hH hsz (kX8_title l hw) hO vc8 arX2_title rfl h1 u574 u591 u592 u572 u595 u4 u593 rfl rfl rfl (Nat.le_trans (Nat.le_of_ble_eq_true rfl) hR1) (Nat.le_trans (Nat.le_of_ble_eq_true rfl) hR2) rfl hW hdg
  · exact z_runO (owner := RX2) (S := RX3) (C := RX3) (As := []) (Qc := zR (some (.ref (za w (100 + 3))))) (free := zNo) G hH hsz (kX3_title l hw) hO vc3 arX2_title rfl h1 u574 u583 u584 u572 u595 u5 u585 rfl rfl rfl (Nat.le_trans (Nat.le_of_ble_eq_true rfl) hR1) (Nat.le_trans (Nat.le_of_ble_eq_true rfl) hR2) rfl hW hdg
  · exact z_runO (owner := RX2) (S := RX1) (C := RX1) (As := []) (Qc := zR (some (.ref (za w (100 + 4))))) (free := zNo) G hH hsz (kX1_title l hw) hO vc1 arX2_title rfl h1 u574 u579 u580 u572 u595 u6 u581 rfl rfl rfl (Nat.le_trans (Nat.le_of_ble_eq_true rfl) hR1) (Nat.le_trans (Nat.le_of_ble_eq_true rfl) hR2) rfl hW hdg
  · exact z_runO (owner := RX2) (S := RX4) (C := RX4) (As := []) (Qc := zR (some (.ref (za w (100 + 5))))) (free := zNo) G hH hsz (kX4_title l hw) hO vc4 arX2_title rfl h1 u574 u587 u588 u572 u595 u7 u589 rfl rfl rfl (Nat.le_trans (Nat.le_of_ble_eq_true rfl) hR1) (Nat.le_trans (Nat.le_of_ble_eq_true rfl) hR2) rfl hW hdg
end ZQT
