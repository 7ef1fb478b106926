/-! the law: the case with a long -/
section ZM2
variable {p : Program} {l : Launch} {e : Env} {s : State} {m : MethodId} {args : Array Value} {below : List Frame} {meth : Method} {c : Code} {H : Heap} {Q : State → Prop} {cells slots : Nat}
variable {pc : Nat} {ls : Array Slot} {rest : List Value} {wC wM : zWd} {M N : zM} {b L i : Nat} {xs : Nat → Int32}
theorem lc_write (S : CallFix p m c cL_law 4 s args zU RL) (F : LF s wC wM) (hc : cells ≤ room_1.cells) (hs : slots ≤ room_1.slots) (hX : va_X b L xs s s.heap) (hbl : b < s.heap.size) (hLs : L ≤ 3072) (hi : i + 6 ≤ L) (hL : LA s wC wM M N H) (h : Rel M N) (hl : lv_has ls 4 [(3, .int (nI i)), (2, .ref (za wM 0)), (1, .ref (za wC 0)), (0, .ref b)])
    (kk : ∀ (M N : zM) (H : Heap), LA s wC wM M N H → Rel M N → W p l e room_1 s m args below meth c H [] cells slots Q (F0 m 1526 ls [])) : W p l e room_1 s m args below meth c H [] cells slots Q (F0 m 1205 ls []) := by
  refine lv_aload_n S.1 S.2.1 dL_law_1205 rfl (lv_at hl 2 rfl) ?_
  refine w_arg S hX hbl hL hLs hl 1 (by omega) dL_law_1206 dL_law_1207 dL_law_1208 (by decide) dL_law_1209 dL_law_1210 ?_
  refine w_arg S hX hbl hL hLs hl 2 (by omega) dL_law_1211 dL_law_1212 dL_law_1213 (by decide) dL_law_1214 dL_law_1215 ?_
  refine w_arg S hX hbl hL hLs hl 3 (by omega) dL_law_1216 dL_law_1217 dL_law_1218 (by decide) dL_law_1219 dL_law_1220 ?_
  refine lv_i2l (v := (xs (i + 3)).toInt64) S.1 S.2.1 dL_law_1221 rfl ?_
  refine lv_bipush (v := (32 : Int32)) S.1 S.2.1 dL_law_1222 (by decide) ?_
  refine lv_lshl (v := (xs (i + 3)).toInt64 <<< ((32 : Int32).toInt64 &&& 63)) S.1 S.2.1 dL_law_1224 rfl ?_
  refine w_arg S hX hbl hL hLs hl 4 (by omega) dL_law_1225 dL_law_1226 dL_law_1227 (by decide) dL_law_1228 dL_law_1229 ?_
  refine lv_i2l (v := (xs (i + 4)).toInt64) S.1 S.2.1 dL_law_1230 rfl ?_
  refine lv_ldc2 S.1 S.2.1 S.2.2.2.1 (S.2.2.2.2 _ u1257) dL_law_1231 ?_
  refine lv_land S.1 S.2.1 dL_law_1234 ?_
  refine lv_lor S.1 S.2.1 dL_law_1235 ?_
  obtain ⟨r, M', N', e1, e2, hr⟩ := s_write h (xs (i + 1)) (xs (i + 2)) (((xs (i + 3)).toInt64 <<< ((32 : Int32).toInt64 &&& 63)) ||| ((xs (i + 4)).toInt64 &&& 4294967295))
  refine w_callC (As := [.int (xs (i + 1)), .int (xs (i + 2)), .long (((xs (i + 3)).toInt64 <<< ((32 : Int32).toInt64 &&& 63)) ||| ((xs (i + 4)).toInt64 &&& 4294967295))]) (rest := []) S F hL hl.1 (kX9_write l F.1 e1) arX9_write u696 u697 u698 u699 rfl rfl rfl (Nat.le_of_ble_eq_true rfl) (Nat.le_of_ble_eq_true rfl) hc hs rfl (Nat.le_of_ble_eq_true rfl) dL_law_1236 (fun H hL => ?_)
  refine lv_aload_n S.1 S.2.1 dL_law_1239 rfl (lv_at hl 1 rfl) ?_
  refine w_arg S hX hbl hL hLs hl 1 (by omega) dL_law_1240 dL_law_1241 dL_law_1242 (by decide) dL_law_1243 dL_law_1244 ?_
  refine w_arg S hX hbl hL hLs hl 2 (by omega) dL_law_1245 dL_law_1246 dL_law_1247 (by decide) dL_law_1248 dL_law_1249 ?_
  refine w_arg S hX hbl hL hLs hl 3 (by omega) dL_law_1250 dL_law_1251 dL_law_1252 (by decide) dL_law_1253 dL_law_1254 ?_
  refine lv_i2l (v := (xs (i + 3)).toInt64) S.1 S.2.1 dL_law_1255 rfl ?_
  refine lv_bipush (v := (32 : Int32)) S.1 S.2.1 dL_law_1256 (by decide) ?_
  refine lv_lshl (v := (xs (i + 3)).toInt64 <<< ((32 : Int32).toInt64 &&& 63)) S.1 S.2.1 dL_law_1258 rfl ?_
  refine w_arg S hX hbl hL hLs hl 4 (by omega) dL_law_1259 dL_law_1260 dL_law_1261 (by decide) dL_law_1262 dL_law_1263 ?_
  refine lv_i2l (v := (xs (i + 4)).toInt64) S.1 S.2.1 dL_law_1264 rfl ?_
  refine lv_ldc2 S.1 S.2.1 S.2.2.2.1 (S.2.2.2.2 _ u1257) dL_law_1265 ?_
  refine lv_land S.1 S.2.1 dL_law_1268 ?_
  refine lv_lor S.1 S.2.1 dL_law_1269 ?_
  refine w_callM (As := [.int (xs (i + 1)), .int (xs (i + 2)), .long (((xs (i + 3)).toInt64 <<< ((32 : Int32).toInt64 &&& 63)) ||| ((xs (i + 4)).toInt64 &&& 4294967295))]) (rest := [.long r]) S F hL hl.1 (kX10_write l F.2.1 e2) arX10_write u1199 u1200 u1201 u1202 rfl rfl rfl (Nat.le_of_ble_eq_true rfl) (Nat.le_of_ble_eq_true rfl) hc hs rfl (Nat.le_of_ble_eq_true rfl) dL_law_1270 (fun H hL => ?_)
  refine W.lcmp S.1 S.2.1 dL_law_1273 ?_
  refine lv_if_eq (tgt := 1526) S.1 S.2.1 dL_law_1274 (by decide) (fun _ => kk M' N' H hL hr) (fun c6 => absurd ((lg_cmp_eq _ _).mpr rfl) c6)
end ZM2
