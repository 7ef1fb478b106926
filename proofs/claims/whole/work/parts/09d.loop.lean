/-! the law: its loop -/
section ZN2
variable {p : Program} {l : Launch} {e : Env} {s : State} {m : MethodId} {args : Array Value} {below : List Frame} {meth : Method} {c : Code} {Q : State → Prop} {cells slots : Nat}
variable {wC wM : zWd} {b L : Nat} {xs : Nat → Int32}
theorem lw_sw {H : Heap} {ls : Array Slot} {M N : zM} {i : Nat} (S : CallFix p m c cL_law 4 s args zU RL) (F : LF s wC wM) (hc : cells ≤ room_1.cells) (hs : slots ≤ room_1.slots) (hX : va_X b L xs s s.heap) (hbl : b < s.heap.size) (hLs : L ≤ 3072) (hi : i + 6 ≤ L) (hL : LA s wC wM M N H) (h : Rel M N) (hl : lv_has ls 4 [(3, .int (nI i)), (2, .ref (za wM 0)), (1, .ref (za wC 0)), (0, .ref b)])
    (kk : ∀ (M N : zM) (H : Heap), LA s wC wM M N H → Rel M N → W p l e room_1 s m args below meth c H [] cells slots Q (F0 m 1526 ls [])) (v : Int32) : W p l e room_1 s m args below meth c H [] cells slots Q (F0 m 33 ls [.int v]) := by
  by_cases hv : 0 ≤ v.toInt ∧ v.toInt ≤ 40
  · have e1 := nI_toNat hv.1
    have e2 : v.toInt.toNat ≤ 40 := by omega
    generalize v.toInt.toNat = n at e1 e2
    rcases (show n = 0 ∨ n = 1 ∨ n = 2 ∨ n = 3 ∨ n = 4 ∨ n = 5 ∨ n = 6 ∨ n = 7 ∨ n = 8 ∨ n = 9 ∨ n = 10 ∨ n = 11 ∨ n = 12 ∨ n = 13 ∨ n = 14 ∨ n = 15 ∨ n = 16 ∨ n = 17 ∨ n = 18 ∨ n = 19 ∨ n = 20 ∨ n = 21 ∨ n = 22 ∨ n = 23 ∨ n = 24 ∨ n = 25 ∨ n = 26 ∨ n = 27 ∨ n = 28 ∨ n = 29 ∨ n = 30 ∨ n = 31 ∨ n = 32 ∨ n = 33 ∨ n = 34 ∨ n = 35 ∨ n = 36 ∨ n = 37 ∨ n = 38 ∨ n = 39 ∨ n = 40 by omega) with rfl | rfl | rfl | rfl | rfl | rfl | rfl | rfl | rfl | rfl | rfl | rfl | rfl | rfl | rfl | rfl | rfl | rfl | rfl | rfl | rfl | rfl | rfl | rfl | rfl | rfl | rfl | rfl | rfl | rfl | rfl | rfl | rfl | rfl | rfl | rfl | rfl | rfl | rfl | rfl | rfl
    · rw [e1]; exact lv_tableIn S.1 S.2.1 dL_law_33 (by decide) (by decide) rfl (by decide) (lc_mood S F hc hs hX hbl hLs hi hL h hl kk)
    · rw [e1]; exact lv_tableIn S.1 S.2.1 dL_law_33 (by decide) (by decide) rfl (by decide) (lc_recall S F hc hs hX hbl hLs hi hL h hl kk)
    · rw [e1]; exact lv_tableIn S.1 S.2.1 dL_law_33 (by decide) (by decide) rfl (by decide) (lc_houseOf S F hc hs hX hbl hLs hi hL h hl kk)
    · rw [e1]; exact lv_tableIn S.1 S.2.1 dL_law_33 (by decide) (by decide) rfl (by decide) (lc_now S F hc hs hX hbl hLs hi hL h hl kk)
    · rw [e1]; exact lv_tableIn S.1 S.2.1 dL_law_33 (by decide) (by decide) rfl (by decide) (lc_beard S F hc hs hX hbl hLs hi hL h hl kk)
    · rw [e1]; exact lv_tableIn S.1 S.2.1 dL_law_33 (by decide) (by decide) rfl (by decide) (lc_of S F hc hs hX hbl hLs hi hL h hl kk)
    · rw [e1]; exact lv_tableIn S.1 S.2.1 dL_law_33 (by decide) (by decide) rfl (by decide) (lc_can S F hc hs hX hbl hLs hi hL h hl kk)
    · rw [e1]; exact lv_tableIn S.1 S.2.1 dL_law_33 (by decide) (by decide) rfl (by decide) (lc_set S F hc hs hX hbl hLs hi hL h hl kk)
    · rw [e1]; exact lv_tableIn S.1 S.2.1 dL_law_33 (by decide) (by decide) rfl (by decide) (lc_turn S F hc hs hX hbl hLs hi hL h hl kk)
    · rw [e1]; exact lv_tableIn S.1 S.2.1 dL_law_33 (by decide) (by decide) rfl (by decide) (lc_as S F hc hs hX hbl hLs hi hL h hl kk)
    · rw [e1]; exact lv_tableIn S.1 S.2.1 dL_law_33 (by decide) (by decide) rfl (by decide) (lc_wearer S F hc hs hX hbl hLs hi hL h hl kk)
    · rw [e1]; exact lv_tableIn S.1 S.2.1 dL_law_33 (by decide) (by decide) rfl (by decide) (lc_wearerOf S F hc hs hX hbl hLs hi hL h hl kk)
    · rw [e1]; exact lv_tableIn S.1 S.2.1 dL_law_33 (by decide) (by decide) rfl (by decide) (lc_give S F hc hs hX hbl hLs hi hL h hl kk)
    · rw [e1]; exact lv_tableIn S.1 S.2.1 dL_law_33 (by decide) (by decide) rfl (by decide) (lc_hire S F hc hs hX hbl hLs hi hL h hl kk)
    · rw [e1]; exact lv_tableIn S.1 S.2.1 dL_law_33 (by decide) (by decide) rfl (by decide) (lc_back S F hc hs hX hbl hLs hi hL h hl kk)
    · rw [e1]; exact lv_tableIn S.1 S.2.1 dL_law_33 (by decide) (by decide) rfl (by decide) (lc_nights S F hc hs hX hbl hLs hi hL h hl kk)
    · rw [e1]; exact lv_tableIn S.1 S.2.1 dL_law_33 (by decide) (by decide) rfl (by decide) (lc_on S F hc hs hX hbl hLs hi hL h hl kk)
    · rw [e1]; exact lv_tableIn S.1 S.2.1 dL_law_33 (by decide) (by decide) rfl (by decide) (lc_then S F hc hs hX hbl hLs hi hL h hl kk)
    · rw [e1]; exact lv_tableIn S.1 S.2.1 dL_law_33 (by decide) (by decide) rfl (by decide) (lc_fond S F hc hs hX hbl hLs hi hL h hl kk)
    · rw [e1]; exact lv_tableIn S.1 S.2.1 dL_law_33 (by decide) (by decide) rfl (by decide) (lc_home S F hc hs hX hbl hLs hi hL h hl kk)
    · rw [e1]; exact lv_tableIn S.1 S.2.1 dL_law_33 (by decide) (by decide) rfl (by decide) (lc_falls S F hc hs hX hbl hLs hi hL h hl kk)
    · rw [e1]; exact lv_tableIn S.1 S.2.1 dL_law_33 (by decide) (by decide) rfl (by decide) (lc_best S F hc hs hX hbl hLs hi hL h hl kk)
    · rw [e1]; exact lv_tableIn S.1 S.2.1 dL_law_33 (by decide) (by decide) rfl (by decide) (lc_round S F hc hs hX hbl hLs hi hL h hl kk)
    · rw [e1]; exact lv_tableIn S.1 S.2.1 dL_law_33 (by decide) (by decide) rfl (by decide) (lc_kind S F hc hs hX hbl hLs hi hL h hl kk)
    · rw [e1]; exact lv_tableIn S.1 S.2.1 dL_law_33 (by decide) (by decide) rfl (by decide) (lc_enough S F hc hs hX hbl hLs hi hL h hl kk)
    · rw [e1]; exact lv_tableIn S.1 S.2.1 dL_law_33 (by decide) (by decide) rfl (by decide) (lc_please S F hc hs hX hbl hLs hi hL h hl kk)
    · rw [e1]; exact lv_tableIn S.1 S.2.1 dL_law_33 (by decide) (by decide) rfl (by decide) (lc_richest S F hc hs hX hbl hLs hi hL h hl kk)
    · rw [e1]; exact lv_tableIn S.1 S.2.1 dL_law_33 (by decide) (by decide) rfl (by decide) (lc_feed S F hc hs hX hbl hLs hi hL h hl kk)
    · rw [e1]; exact lv_tableIn S.1 S.2.1 dL_law_33 (by decide) (by decide) rfl (by decide) (lc_wipe S F hc hs hX hbl hLs hi hL h hl kk)
    · rw [e1]; exact lv_tableIn S.1 S.2.1 dL_law_33 (by decide) (by decide) rfl (by decide) (lc_shop S F hc hs hX hbl hLs hi hL h hl kk)
    · rw [e1]; exact lv_tableIn S.1 S.2.1 dL_law_33 (by decide) (by decide) rfl (by decide) (lc_sheet S F hc hs hX hbl hLs hi hL h hl kk)
    · rw [e1]; exact lv_tableIn S.1 S.2.1 dL_law_33 (by decide) (by decide) rfl (by decide) (lc_write S F hc hs hX hbl hLs hi hL h hl kk)
    · rw [e1]; exact lv_tableIn S.1 S.2.1 dL_law_33 (by decide) (by decide) rfl (by decide) (lc_copy S F hc hs hX hbl hLs hi hL h hl kk)
    · rw [e1]; exact lv_tableIn S.1 S.2.1 dL_law_33 (by decide) (by decide) rfl (by decide) (lc_lays S F hc hs hX hbl hLs hi hL h hl kk)
    · rw [e1]; exact lv_tableIn S.1 S.2.1 dL_law_33 (by decide) (by decide) rfl (by decide) (lc_book S F hc hs hX hbl hLs hi hL h hl kk)
    · rw [e1]; exact lv_tableIn S.1 S.2.1 dL_law_33 (by decide) (by decide) rfl (by decide) (lc_read S F hc hs hX hbl hLs hi hL h hl kk)
    · rw [e1]; exact lv_tableIn S.1 S.2.1 dL_law_33 (by decide) (by decide) rfl (by decide) (lc_image S F hc hs hX hbl hLs hi hL h hl kk)
    · rw [e1]; exact lv_tableIn S.1 S.2.1 dL_law_33 (by decide) (by decide) rfl (by decide) (lc_undo S F hc hs hX hbl hLs hi hL h hl kk)
    · rw [e1]; exact lv_tableIn S.1 S.2.1 dL_law_33 (by decide) (by decide) rfl (by decide) (lc_tear S F hc hs hX hbl hLs hi hL h hl kk)
    · rw [e1]; exact lv_tableIn S.1 S.2.1 dL_law_33 (by decide) (by decide) rfl (by decide) (lc_count S F hc hs hX hbl hLs hi hL h hl kk)
    · rw [e1]; exact lv_tableIn S.1 S.2.1 dL_law_33 (by decide) (by decide) rfl (by decide) (lc_status S F hc hs hX hbl hLs hi hL h hl kk)
  · exact lv_tableOut (tgt := 1526) S.1 S.2.1 dL_law_33 (by omega) (by decide) (kk M N H hL h)
theorem lw_loop (S : CallFix p m c cL_law 4 s args zU RL) (F : LF s wC wM) (hc : cells ≤ room_1.cells) (hs : slots ≤ room_1.slots) (hX : va_X b L xs s s.heap) (hbl : b < s.heap.size) (hLs : L ≤ 3072)
    (kk : ∀ (M N : zM) (H : Heap) (ls : Array Slot), LA s wC wM M N H → W p l e room_1 s m args below meth c H [] cells slots Q (F0 m 1532 ls [])) :
    ∀ (k i : Nat) (M N : zM) (H : Heap) (ls : Array Slot), L < i + 6 * k + 6 → i ≤ 4000 → LA s wC wM M N H → Rel M N → lv_has ls 4 [(3, .int (nI i)), (2, .ref (za wM 0)), (1, .ref (za wC 0)), (0, .ref b)] → W p l e room_1 s m args below meth c H [] cells slots Q (F0 m 18 ls []) := by
  have eL : (nI L - 6).toInt = (L : Int) - 6 := pk_sub_toInt (b := 6) (show L < 2 ^ 30 by omega) (by decide)
  intro k
  induction k with
  | zero =>
    intro i M N H ls hk hi4 hL h hl
    refine lv_iload_n S.1 S.2.1 dL_law_18 rfl (lv_at hl 0 rfl) ?_
    refine lv_aload_n S.1 S.2.1 dL_law_19 rfl (lv_at hl 3 rfl) ?_
    refine va_slen (A := fun q => s.heap.size ≤ q) S.1 S.2.1 hX hbl (fun z => Nat.not_lt.mpr z hbl) ⟨hL.2.2.1, fun q g1 _ => hL.2.2.2 q g1, fun _ h => by cases h⟩ dL_law_20 ?_
    refine lv_bipush (v := (6 : Int32)) S.1 S.2.1 dL_law_21 (by decide) ?_
    refine lv_isub S.1 S.2.1 dL_law_23 ?_
    refine lv_icmp_gt (tgt := 1532) S.1 S.2.1 dL_law_24 (by decide) (fun _ => kk M N H ls hL) (fun c6 => absurd ?_ c6)
    rw [i_lt, nI_toInt (show i < 2 ^ 31 by omega)]
    show (nI L - 6).toInt < (i : Int)
    omega
  | succ k ih =>
    intro i M N H ls hk hi4 hL h hl
    refine lv_iload_n S.1 S.2.1 dL_law_18 rfl (lv_at hl 0 rfl) ?_
    refine lv_aload_n S.1 S.2.1 dL_law_19 rfl (lv_at hl 3 rfl) ?_
    refine va_slen (A := fun q => s.heap.size ≤ q) S.1 S.2.1 hX hbl (fun z => Nat.not_lt.mpr z hbl) ⟨hL.2.2.1, fun q g1 _ => hL.2.2.2 q g1, fun _ h => by cases h⟩ dL_law_20 ?_
    refine lv_bipush (v := (6 : Int32)) S.1 S.2.1 dL_law_21 (by decide) ?_
    refine lv_isub S.1 S.2.1 dL_law_23 ?_
    refine lv_icmp_gt (tgt := 1532) S.1 S.2.1 dL_law_24 (by decide) (fun _ => kk M N H ls hL) (fun c6 => ?_)
    have hi : i + 6 ≤ L := by
      rw [i_lt, nI_toInt (show i < 2 ^ 31 by omega)] at c6
      have c7 : ¬ (nI L - 6).toInt < (i : Int) := c6
      omega
    obtain ⟨h1, h2⟩ := zix_some (zix_nI (show i < L by omega) (show L < 2 ^ 31 by omega))
    refine lv_aload_n S.1 S.2.1 dL_law_27 rfl (lv_at hl 3 rfl) ?_
    refine lv_iload_n S.1 S.2.1 dL_law_28 rfl (lv_at hl 0 rfl) ?_
    refine va_sld (A := fun q => s.heap.size ≤ q) S.1 S.2.1 hX hbl (fun z => Nat.not_lt.mpr z hbl) ⟨hL.2.2.1, fun q g1 _ => hL.2.2.2 q g1, fun _ h => by cases h⟩ h1 dL_law_29 ?_
    refine lv_bipush (v := (63 : Int32)) S.1 S.2.1 dL_law_30 (by decide) ?_
    refine lv_iand S.1 S.2.1 dL_law_32 ?_
    refine lw_sw S F hc hs hX hbl hLs hi hL h hl (fun M N H hL h => ?_) _
    refine lv_iinc (v := nI (i + 6)) (lv' := [(3, .int (nI (i + 6))), (2, .ref (za wM 0)), (1, .ref (za wC 0)), (0, .ref b)]) S.1 S.2.1 dL_law_1526 hl (k := 0) rfl (by rw [← nI_add]; rfl) (Nat.le_of_ble_eq_true rfl) rfl (fun ls hl => ?_)
    refine lv_goto (tgt := 18) S.1 S.2.1 dL_law_1529 (by decide) ?_
    exact ih (i + 6) M N H ls (by omega) (by omega) hL h hl
end ZN2
