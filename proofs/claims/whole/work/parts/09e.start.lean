/-! the law: the classes at the start -/
theorem i_T {w : Cond} (i : Nat) (h : tables_1[i]? = some w) : w ∈ lw_tbl := List.mem_append_right _ (List.mem_of_getElem? h)
theorem i_n0 : ∀ w, zNs[0]? = some w → w ∈ lw_tbl := fun w h => i_T 29 (by rw [← h]; decide +kernel)
theorem i_n1 : ∀ w, zNs[1]? = some w → w ∈ lw_tbl := fun w h => i_T 36 (by rw [← h]; decide +kernel)
theorem i_n2 : ∀ w, zNs[2]? = some w → w ∈ lw_tbl := fun w h => i_T 39 (by rw [← h]; decide +kernel)
theorem i_n3 : ∀ w, zNs[3]? = some w → w ∈ lw_tbl := fun w h => i_T 43 (by rw [← h]; decide +kernel)
theorem i_n4 : ∀ w, zNs[4]? = some w → w ∈ lw_tbl := fun w h => i_T 46 (by rw [← h]; decide +kernel)
theorem i_n5 : ∀ w, zNs[5]? = some w → w ∈ lw_tbl := fun w h => i_T 50 (by rw [← h]; decide +kernel)
theorem i_n6 : ∀ w, zNs[6]? = some w → w ∈ lw_tbl := fun w h => i_T 53 (by rw [← h]; decide +kernel)
theorem i_n7 : ∀ w, zNs[7]? = some w → w ∈ lw_tbl := fun w h => i_T 57 (by rw [← h]; decide +kernel)
theorem i_n8 : ∀ w, zNs[8]? = some w → w ∈ lw_tbl := fun w h => i_T 60 (by rw [← h]; decide +kernel)
theorem i_n9 : ∀ w, zNs[9]? = some w → w ∈ lw_tbl := fun w h => i_T 64 (by rw [← h]; decide +kernel)
theorem i_n10 : ∀ w, zNs[10]? = some w → w ∈ lw_tbl := fun w h => i_T 67 (by rw [← h]; decide +kernel)
theorem i_n11 : ∀ w, zNs[11]? = some w → w ∈ lw_tbl := fun w h => i_T 172 (by rw [← h]; decide +kernel)
theorem i_n12 : ∀ w, zNs[12]? = some w → w ∈ lw_tbl := fun w h => i_T 1264 (by rw [← h]; decide +kernel)
theorem i_n13 : ∀ w, zNs[13]? = some w → w ∈ lw_tbl := fun w h => i_T 1265 (by rw [← h]; decide +kernel)
theorem i_n14 : ∀ w, zNs[14]? = some w → w ∈ lw_tbl := fun w h => i_T 1266 (by rw [← h]; decide +kernel)
theorem i_n15 : ∀ w, zNs[15]? = some w → w ∈ lw_tbl := fun w h => i_T 1267 (by rw [← h]; decide +kernel)
theorem i_n16 : ∀ w, zNs[16]? = some w → w ∈ lw_tbl := fun w h => i_T 1268 (by rw [← h]; decide +kernel)
theorem i_Ne {s : State} {args : Array Value} (hts : ∀ w ∈ lw_tbl, w.before args s = true) : zNe s := by
  refine ⟨fun i w h => ?_, va_AO.of (A := args) (U := s) (hts _ (i_T 27 (by decide +kernel))), va_AO.of (A := args) (U := s) (hts _ (i_T 170 (by decide +kernel)))⟩
  have hm : w ∈ lw_tbl := by
    have hi : i < 17 := (List.getElem?_eq_some_iff.mp h).1
    rcases (show i = 0 ∨ i = 1 ∨ i = 2 ∨ i = 3 ∨ i = 4 ∨ i = 5 ∨ i = 6 ∨ i = 7 ∨ i = 8 ∨ i = 9 ∨ i = 10 ∨ i = 11 ∨ i = 12 ∨ i = 13 ∨ i = 14 ∨ i = 15 ∨ i = 16 by omega) with rfl | rfl | rfl | rfl | rfl | rfl | rfl | rfl | rfl | rfl | rfl | rfl | rfl | rfl | rfl | rfl | rfl
    · exact i_n0 w h
    · exact i_n1 w h
    · exact i_n2 w h
    · exact i_n3 w h
    · exact i_n4 w h
    · exact i_n5 w h
    · exact i_n6 w h
    · exact i_n7 w h
    · exact i_n8 w h
    · exact i_n9 w h
    · exact i_n10 w h
    · exact i_n11 w h
    · exact i_n12 w h
    · exact i_n13 w h
    · exact i_n14 w h
    · exact i_n15 w h
    · exact i_n16 w h
  rcases zNs_is i w h with ⟨a, j, x, hh, rfl⟩ | ⟨C, T, rfl⟩
  · exact va_Nw.of rfl (hts _ hm)
  · exact va_Nw.of rfl (hts _ hm)
theorem i_K {s : State} {args : Array Value} (hts : ∀ w ∈ lw_tbl, w.before args s = true) : ∃ (D : va_G) (cI cJ cK cS : ClassId), va_K D vwCl (iT cI cJ cK cS) s := by
  have hU : ∀ w ∈ zU, w.before args s = true := fun w h => hts w (z_in h)
  obtain ⟨c0, i0, g0⟩ := u_known (C := RX0) (T := TX0) (N := 0) (n := 0) hU inU0 (hU _ u35)
  obtain ⟨c1, i1, g1⟩ := u_known (C := RX1) (T := TX1) (N := 0) (n := 0) hU inU1 (hU _ u56)
  obtain ⟨c2, i2, g2⟩ := u_known (C := RX2) (T := TX2) (N := 0) (n := 0) hU inU2 (hU _ u28)
  obtain ⟨c3, i3, g3⟩ := u_known (C := RX3) (T := TX3) (N := 0) (n := 0) hU inU3 (hU _ u49)
  obtain ⟨c4, i4, g4⟩ := u_known (C := RX4) (T := TX4) (N := 0) (n := 0) hU inU4 (hU _ u63)
  obtain ⟨c5, i5, g5⟩ := u_known (C := RX5) (T := TX5) (N := 3) (n := 3) hU inU5 (hU _ u171)
  obtain ⟨c6, i6, g6⟩ := u_known (C := RX6) (T := TX6) (N := 8) (n := 8) hU inU6 (hU _ u138)
  obtain ⟨c7, i7, g7⟩ := u_known (C := RX7) (T := TX7) (N := 13) (n := 13) hU inU7 (hU _ u70)
  obtain ⟨c8, i8, g8⟩ := u_known (C := RX8) (T := TX8) (N := 0) (n := 0) hU inU8 (hU _ u42)
  obtain ⟨c9, i9, g9⟩ := u_known (C := RX9) (T := TX9) (N := 7) (n := 7) hU inU9 (hU _ u19)
  obtain ⟨c10, i10, g10⟩ := u_known (C := RX10) (T := TX10) (N := 16) (n := 16) hU inU10 (hU _ u759)
  obtain ⟨cI, kI, mI, a1, a2, a3⟩ := Cond.arrayClass_spec (hU _ u136)
  obtain ⟨cJ, kJ, mJ, b1, b2, b3⟩ := Cond.arrayClass_spec (hU _ u189)
  obtain ⟨mK, cK, kK, d1, -, d2, d3, d4⟩ := Cond.arrayOver_spec (n := "BeardHire$Kind") (hts _ (i_T 27 (by decide +kernel)))
  obtain ⟨mS, cS, kS, e1, -, e2, e3, e4⟩ := Cond.arrayOver_spec (n := "BeardHire$Sheet") (hts _ (i_T 170 (by decide +kernel)))
  refine ⟨(fun k => [c0, c1, c2, c3, c4, c5, c6, c7, c8, c9, c10].getD k 0, fun k => [i0, i1, i2, i3, i4, i5, i6, i7, i8, i9, i10].getD k (fun _ => 0)), cI, cJ, cK, cS, fun k q hq => ?_, fun k q hq => ?_⟩
  · have hk : k < 11 := (List.getElem?_eq_some_iff.mp hq).1
    rcases (show k = 0 ∨ k = 1 ∨ k = 2 ∨ k = 3 ∨ k = 4 ∨ k = 5 ∨ k = 6 ∨ k = 7 ∨ k = 8 ∨ k = 9 ∨ k = 10 by omega) with rfl | rfl | rfl | rfl | rfl | rfl | rfl | rfl | rfl | rfl | rfl
    · obtain rfl := Option.some.inj hq; exact g0
    · obtain rfl := Option.some.inj hq; exact g1
    · obtain rfl := Option.some.inj hq; exact g2
    · obtain rfl := Option.some.inj hq; exact g3
    · obtain rfl := Option.some.inj hq; exact g4
    · obtain rfl := Option.some.inj hq; exact g5
    · obtain rfl := Option.some.inj hq; exact g6
    · obtain rfl := Option.some.inj hq; exact g7
    · obtain rfl := Option.some.inj hq; exact g8
    · obtain rfl := Option.some.inj hq; exact g9
    · obtain rfl := Option.some.inj hq; exact g10
  · have hk : k < 4 := (List.getElem?_eq_some_iff.mp hq).1
    rcases (show k = 0 ∨ k = 1 ∨ k = 2 ∨ k = 3 by omega) with rfl | rfl | rfl | rfl
    · obtain rfl := Option.some.inj hq; exact ⟨fun n z => ⟨fun k h => (by cases h), kI, a2, mI, a3⟩, a1⟩
    · obtain rfl := Option.some.inj hq; exact ⟨fun n z => ⟨fun k h => (by cases h), kJ, b2, mJ, b3⟩, b1⟩
    · obtain rfl := Option.some.inj hq; exact ⟨fun n z => ⟨fun k h => (by cases h), kK, d2, mK, d3⟩, ⟨kK, mK, d2, d3, d1, d4⟩⟩
    · obtain rfl := Option.some.inj hq; exact ⟨fun n z => ⟨fun k h => (by cases h), kS, e2, mS, e3⟩, ⟨kS, mS, e2, e3, e1, e4⟩⟩
