/-! the law: the Strings and the statics at the start -/
def i_G : List Cond := flatC (Jvm.Cond.and given_1 narrow_1)
def i_tm (i : Nat) : Term := .string (zStr.getD i ("", 0, "")).1 (zStr.getD i ("", 0, "")).2.1
theorem i_g {s : State} {args : Array Value} (hg : (Jvm.Cond.and given_1 narrow_1).before args s = true) {w : Cond} (i : Nat) (h : i_G[i]? = some w) : w.before args s = true := flat_of_before _ hg w (List.mem_of_getElem? h)
theorem i_ex : ∀ i, i < 14 → i_G[([102, 35, 89, 58, 45, 73, 146, 182, 241, 116, 130, 164, 201, 221] : List Nat).getD i 0]? = some (Cond.exactly (i_tm i) "java/lang/String") := by decide +kernel
theorem i_co : ∀ i, i < 14 → i_G[([103, 36, 90, 59, 46, 74, 147, 183, 242, 117, 131, 165, 202, 222] : List Nat).getD i 0]? = some (Cond.eq (.field (i_tm i) "java/lang/String" "coder" "B") (.int 0)) := by decide +kernel
theorem i_ar : ∀ i, i < 14 → i_G[([104, 37, 91, 60, 47, 75, 148, 184, 243, 118, 132, 166, 203, 223] : List Nat).getD i 0]? = some (Cond.arrayOf (.field (i_tm i) "java/lang/String" "value" "[B") .byte) := by decide +kernel
theorem i_lg : ∀ i, i < 14 → i_G[([105, 38, 92, 61, 48, 76, 149, 185, 244, 119, 133, 167, 204, 224] : List Nat).getD i 0]? = some (Cond.eq (.length (.field (i_tm i) "java/lang/String" "value" "[B")) (.int (Int32.ofNat (zLen.getD i 0)))) := by decide +kernel
theorem i_el : ∀ i, i < 14 → ∀ j, j < zLen.getD i 0 → i_G[(([[106, 107, 108, 109, 110], [39, 40, 41, 42, 43, 44], [93, 94, 95, 96, 97], [62, 63, 64, 65, 66, 67, 68, 69, 70], [49, 50, 51, 52, 53, 54, 55, 56], [77, 78, 79, 80, 81, 82, 83, 84, 85], [150, 151, 152, 153, 154, 155], [186, 187, 188, 189, 190], [245, 246, 247, 248], [120, 121, 122, 123], [134, 135, 136, 137, 138], [168, 169, 170, 171, 172], [205, 206, 207, 208, 209], [225, 226, 227, 228]] : List (List Nat)).getD i []).getD j 0]? = some (Cond.eq (.elem (.field (i_tm i) "java/lang/String" "value" "[B") (.int (Int32.ofNat j))) (.int ((zByt.getD i []).getD j 0))) := by decide +kernel
def i_nx : List (List Nat) := [[0, 111, 115, 113, 112, 114, 161, 196, 254, 129, 144, 178, 215, 234], [111, 0, 98, 71, 57, 86, 156, 191, 249, 124, 139, 173, 210, 229], [115, 98, 0, 100, 99, 101, 160, 195, 253, 128, 143, 177, 214, 233], [113, 71, 100, 0, 72, 88, 158, 193, 251, 126, 141, 175, 212, 231], [112, 57, 99, 72, 0, 87, 157, 192, 250, 125, 140, 174, 211, 230], [114, 86, 101, 88, 87, 0, 159, 194, 252, 127, 142, 176, 213, 232], [161, 156, 160, 158, 157, 159, 0, 199, 257, 162, 163, 181, 218, 237], [196, 191, 195, 193, 192, 194, 199, 0, 259, 197, 198, 200, 220, 239], [254, 249, 253, 251, 250, 252, 257, 259, 0, 255, 256, 258, 260, 261], [129, 124, 128, 126, 125, 127, 162, 197, 255, 0, 145, 179, 216, 235], [144, 139, 143, 141, 140, 142, 163, 198, 256, 145, 0, 180, 217, 236], [178, 173, 177, 175, 174, 176, 181, 200, 258, 179, 180, 0, 219, 238], [215, 210, 214, 212, 211, 213, 218, 220, 260, 216, 217, 219, 0, 240], [234, 229, 233, 231, 230, 232, 237, 239, 261, 235, 236, 238, 240, 0]]
theorem i_ne : ∀ i, i < 14 → ∀ j, j < 14 → i ≠ j → i_G[(i_nx.getD i []).getD j 0]? = some (Cond.not (Cond.eq (i_tm i) (i_tm j))) ∨ i_G[(i_nx.getD i []).getD j 0]? = some (Cond.not (Cond.eq (i_tm j) (i_tm i))) := by decide +kernel
theorem i_sr : ∀ i, i < 14 → tables_1[([596, 578, 594, 586, 582, 590, 664, 671, 678, 654, 663, 670, 676, 677] : List Nat).getD i 0]? = some (Cond.stringRef (zStr.getD i ("", 0, "")).1 (zStr.getD i ("", 0, "")).2.1 (zStr.getD i ("", 0, "")).2.2) := by decide +kernel
theorem i_ab : ∀ j, j < 6 → i_G[([7, 8, 9, 10, 11, 12] : List Nat).getD j 0]? = some (Cond.eq (.elem (.static "BeardHire" "ABOVE" "[I") (.int (Int32.ofNat j))) (.int (zAbv j))) := by decide +kernel
theorem i_a1 : i_G[5]? = some (Cond.arrayOf (.static "BeardHire" "ABOVE" "[I") .int) := by decide +kernel
theorem i_a2 : i_G[6]? = some (Cond.eq (.length (.static "BeardHire" "ABOVE" "[I")) (.int (Int32.ofNat 6))) := by decide +kernel
theorem i_c1 : i_G[13]? = some (Cond.eq (.static "java/lang/String" "COMPACT_STRINGS" "Z") (.int 1)) := by decide +kernel
theorem i_q1 : i_G[14]? = some (Cond.isRef (.static "jdk/internal/util/Preconditions" "SIOOBE_FORMATTER" "Ljava/util/function/BiFunction;")) := by decide +kernel
theorem i_l0 : Cond.laysStatic "BeardHire" "ABOVE" "[I" ∈ lw_tbl := i_T 411 (by decide +kernel)
theorem i_l1 : Cond.laysStatic "java/lang/String" "COMPACT_STRINGS" "Z" ∈ lw_tbl := i_T 610 (by decide +kernel)
theorem i_l2 : Cond.laysStatic "jdk/internal/util/Preconditions" "SIOOBE_FORMATTER" "Ljava/util/function/BiFunction;" ∈ lw_tbl := i_T 626 (by decide +kernel)
theorem i_i0 : Cond.initialized "BeardHire" ∈ lw_tbl := i_T 1 (by decide +kernel)
theorem i_i1 : Cond.initialized "java/lang/String" ∈ lw_tbl := i_T 14 (by decide +kernel)
theorem i_i2 : Cond.initialized "jdk/internal/util/Preconditions" ∈ lw_tbl := i_T 16 (by decide +kernel)
theorem i_E {s : State} {args : Array Value} (hts : ∀ w ∈ lw_tbl, w.before args s = true) (hg : (Jvm.Cond.and given_1 narrow_1).before args s = true) : ∃ kA : Nat → Nat, ∀ (ad : Nat → Nat) (A : Nat → Prop), (∀ k, 50 ≤ k → ad k = kA k) → (∀ q, A q → s.heap.size ≤ q) → zEC ad A s s.heap := by
  have hA : ∀ a : Nat, a < s.heap.size → ¬ (fun q => s.heap.size ≤ q) a := fun a h => Nat.not_le.mpr h
  obtain ⟨adK, adV, h1, h2⟩ := vk_Sof (args := args) (s := s) (N := 14) (tm := i_tm) (len := zLen) (byt := zByt) (A := fun q => s.heap.size ≤ q) (fun i hi => Nat.lt_trans (zSl_le i hi) (by decide)) (fun i hi => i_g hg _ (i_ex i hi)) (fun i hi => i_g hg _ (i_co i hi)) (fun i hi => i_g hg _ (i_ar i hi)) (fun i hi => i_g hg _ (i_lg i hi)) (fun i hi j hj => i_g hg _ (i_el i hi j hj)) (fun i j hi hj h => (i_ne i hi j hj h).imp (fun z => i_g hg _ z) (fun z => i_g hg _ z)) hA
  obtain ⟨t, h3, h4⟩ := va_Tof (args := args) (s := s) (tm := .static "BeardHire" "ABOVE" "[I") (ty := .int) (N := 6) (f := fun j => .int (zAbv j)) (A := fun q => s.heap.size ≤ q) (by decide) (i_g hg _ i_a1) (va_eqt (i_g hg _ i_a2)) (fun j hj => va_eqt (i_g hg _ (i_ab j hj))) hA
  have h5 := va_Zof (A := fun q => s.heap.size ≤ q) (hts _ i_l0) (hts _ i_i0) h3 hA
  have h6 := va_Zof (A := fun q => s.heap.size ≤ q) (hts _ i_l1) (hts _ i_i1) (va_eqt (i_g hg _ i_c1)) hA
  have h7 := va_Zqof (A := fun q => s.heap.size ≤ q) (hts _ i_l2) (hts _ i_i2) (i_g hg _ i_q1) hA
  refine ⟨fun k => if k < 200 then adK (k - 100) else if k < 300 then adV (k - 200) else t, fun ad A had hAA => ?_⟩
  have eK : ∀ i, i < 14 → ad (100 + i) = adK i := fun i hi => by
    rw [had _ (by omega)]
    show (if 100 + i < 200 then adK (100 + i - 100) else if 100 + i < 300 then adV (100 + i - 200) else t) = adK i
    rw [if_pos (by omega), Nat.add_sub_cancel_left]
  have eV : ∀ i, i < 14 → ad (200 + i) = adV i := fun i hi => by
    rw [had _ (by omega)]
    show (if 200 + i < 200 then adK (200 + i - 100) else if 200 + i < 300 then adV (200 + i - 200) else t) = adV i
    rw [if_neg (by omega), if_pos (by omega), Nat.add_sub_cancel_left]
  have eT : ad 300 = t := by
    rw [had _ (by omega)]
    rfl
  have h1' := h1.narrow hAA
  refine ⟨⟨fun i hi => ?_, fun i j hi hj h => ?_⟩, fun i hi => ?_, h6.narrow hAA, h7.narrow hAA, ?_, ?_⟩
  · have h := h1'.1 i hi
    show va_O _ (ad (100 + i)) A s s.heap ∧ va_OF _ _ _ _ (ad (100 + i)) A s s.heap ∧ va_OF _ _ _ (.ref (ad (200 + i))) (ad (100 + i)) A s s.heap ∧ va_T _ (ad (200 + i)) _ _ A s s.heap
    rw [eK i hi, eV i hi]
    exact h
  · have h' : ad (100 + i) = ad (100 + j) := h
    rw [eK i hi, eK j hj] at h'
    exact h1'.2 i j hi hj h'
  · rw [eK i hi]
    exact vk_R.of (A := args) (hts _ (i_T _ (i_sr i hi))) (h2 i hi)
  · rw [eT]; exact h5.narrow hAA
  · rw [eT]; exact h4.narrow hAA
