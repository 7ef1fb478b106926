/-! the law: its cases -/
section ZM
variable {p : Program} {l : Launch} {e : Env} {s : State} {m : MethodId} {args : Array Value} {below : List Frame} {meth : Method} {c : Code} {H : Heap} {Q : State → Prop} {cells slots : Nat}
variable {pc : Nat} {ls : Array Slot} {rest : List Value} {wC wM : zWd} {M N : zM} {b L i : Nat} {xs : Nat → Int32}
/-- script[i + j] -/
theorem w_arg (S : CallFix p m c cL_law 4 s args zU RL) (hX : va_X b L xs s s.heap) (hbl : b < s.heap.size) (hL : LA s wC wM M N H) (hLs : L ≤ 3072) (hl : lv_has ls 4 [(3, .int (nI i)), (2, .ref (za wM 0)), (1, .ref (za wC 0)), (0, .ref b)]) {jv : Int} (j : Nat) (hj : i + j < L) (d0 : decode cL_law pc = .ok (.aload_n 0, 1)) (d1 : decode cL_law (pc + 1) = .ok (.iload_n 3, 1)) (d2 : decode cL_law (pc + 2) = .ok (.iconst jv, 1)) (hv : Int32.ofInt jv = nI j) (d3 : decode cL_law (pc + 3) = .ok (.iadd, 1)) (d4 : decode cL_law (pc + 4) = .ok (.iaload, 1))
    (kk : W p l e room_1 s m args below meth c H [] cells slots Q (F0 m (pc + 5) ls (.int (xs (i + j)) :: rest))) : W p l e room_1 s m args below meth c H [] cells slots Q (F0 m pc ls rest) := by
  obtain ⟨h1, h2⟩ := zix_some (zix_nI hj (show L < 2 ^ 31 by omega))
  refine lv_aload_n S.1 S.2.1 d0 rfl (lv_at hl 3 rfl) ?_
  refine lv_iload_n S.1 S.2.1 d1 rfl (lv_at hl 0 rfl) ?_
  refine lv_iconst (v := nI j) S.1 S.2.1 d2 hv ?_
  refine lv_iadd S.1 S.2.1 d3 ?_
  rw [nI_add]
  refine va_sld (A := fun q => s.heap.size ≤ q) S.1 S.2.1 hX hbl (fun z => Nat.not_lt.mpr z hbl) ⟨hL.2.2.1, fun q g1 _ => hL.2.2.2 q g1, fun _ h => by cases h⟩ h1 d4 ?_
  rw [h2]; exact kk
theorem lc_mood (S : CallFix p m c cL_law 4 s args zU RL) (F : LF s wC wM) (hc : cells ≤ room_1.cells) (hs : slots ≤ room_1.slots) (hX : va_X b L xs s s.heap) (hbl : b < s.heap.size) (hLs : L ≤ 3072) (hi : i + 6 ≤ L) (hL : LA s wC wM M N H) (h : Rel M N) (hl : lv_has ls 4 [(3, .int (nI i)), (2, .ref (za wM 0)), (1, .ref (za wC 0)), (0, .ref b)])
    (kk : ∀ (M N : zM) (H : Heap), LA s wC wM M N H → Rel M N → W p l e room_1 s m args below meth c H [] cells slots Q (F0 m 1526 ls [])) : W p l e room_1 s m args below meth c H [] cells slots Q (F0 m 212 ls []) := by
  refine lv_aload_n S.1 S.2.1 dL_law_212 rfl (lv_at hl 2 rfl) ?_
  refine w_arg S hX hbl hL hLs hl 1 (by omega) dL_law_213 dL_law_214 dL_law_215 (by decide) dL_law_216 dL_law_217 ?_
  refine w_arg S hX hbl hL hLs hl 2 (by omega) dL_law_218 dL_law_219 dL_law_220 (by decide) dL_law_221 dL_law_222 ?_
  obtain ⟨r, M', N', e1, e2, hr⟩ := s_mood h (xs (i + 1)) (xs (i + 2))
  refine w_callC (As := [.int (xs (i + 1)), .int (xs (i + 2))]) (rest := []) S F hL hl.1 (kX9_mood l F.1 e1) arX9_mood u212 u213 u214 u215 rfl rfl rfl (Nat.le_of_ble_eq_true rfl) (Nat.le_of_ble_eq_true rfl) hc hs rfl (Nat.le_of_ble_eq_true rfl) dL_law_223 (fun H hL => ?_)
  refine lv_aload_n S.1 S.2.1 dL_law_226 rfl (lv_at hl 1 rfl) ?_
  refine w_arg S hX hbl hL hLs hl 1 (by omega) dL_law_227 dL_law_228 dL_law_229 (by decide) dL_law_230 dL_law_231 ?_
  refine w_arg S hX hbl hL hLs hl 2 (by omega) dL_law_232 dL_law_233 dL_law_234 (by decide) dL_law_235 dL_law_236 ?_
  refine w_callM (As := [.int (xs (i + 1)), .int (xs (i + 2))]) (rest := [.int r]) S F hL hl.1 (kX10_mood l F.2.1 e2) arX10_mood u816 u817 u818 u819 rfl rfl rfl (Nat.le_of_ble_eq_true rfl) (Nat.le_of_ble_eq_true rfl) hc hs rfl (Nat.le_of_ble_eq_true rfl) dL_law_237 (fun H hL => ?_)
  refine lv_icmp_eq (tgt := 1526) S.1 S.2.1 dL_law_240 (by decide) (fun _ => kk M' N' H hL hr) (fun c6 => absurd rfl c6)
end ZM
