/-! the constructors: the other kinds; Sheet, Text, Trade -/
section ZK
theorem kX0_init (l : Launch) (a : Nat) : Met l yX0_init (Cond.code yX0_init cX0_init 1 none :: zU) { frames := 2, cells := 0, slots := 0, locals := 32 } (va_Pc [.ref a] zNe) (zR none) 0 0 zNo := by
  refine z_metG (by decide) (Nat.le_of_ble_eq_true rfl) ?_
  intro p e s m below meth c S hr hlk hnm hN ls hl
  refine lv_aload_n S.1 S.2.1 dX0_init_0 rfl (lv_at hl 0 rfl) ?_
  refine i_nest S (kX2_init l a) hN (i := 2) rfl u31 u2 u30 ⟨by decide, by decide, by decide +kernel⟩ rfl rfl rfl hl.1 (Nat.le_of_ble_eq_true rfl) (Nat.le_of_ble_eq_true rfl) (Nat.le_of_ble_eq_true rfl) (Nat.zero_le _) (Nat.zero_le _) dX0_init_1 ?_
  exact W.vret S.1 S.2.1 hr (fun t ht _ => ⟨rfl, ht⟩) (fun q h => by cases h) dX0_init_4 hlk
theorem kX8_init (l : Launch) (a : Nat) : Met l yX8_init (Cond.code yX8_init cX8_init 1 none :: zU) { frames := 2, cells := 0, slots := 0, locals := 32 } (va_Pc [.ref a] zNe) (zR none) 0 0 zNo := by
  refine z_metG (by decide) (Nat.le_of_ble_eq_true rfl) ?_
  intro p e s m below meth c S hr hlk hnm hN ls hl
  refine lv_aload_n S.1 S.2.1 dX8_init_0 rfl (lv_at hl 0 rfl) ?_
  refine i_nest S (kX2_init l a) hN (i := 4) rfl u31 u2 u30 ⟨by decide, by decide, by decide +kernel⟩ rfl rfl rfl hl.1 (Nat.le_of_ble_eq_true rfl) (Nat.le_of_ble_eq_true rfl) (Nat.le_of_ble_eq_true rfl) (Nat.zero_le _) (Nat.zero_le _) dX8_init_1 ?_
  exact W.vret S.1 S.2.1 hr (fun t ht _ => ⟨rfl, ht⟩) (fun q h => by cases h) dX8_init_4 hlk
theorem kX3_init (l : Launch) (a : Nat) : Met l yX3_init (Cond.code yX3_init cX3_init 1 none :: zU) { frames := 2, cells := 0, slots := 0, locals := 32 } (va_Pc [.ref a] zNe) (zR none) 0 0 zNo := by
  refine z_metG (by decide) (Nat.le_of_ble_eq_true rfl) ?_
  intro p e s m below meth c S hr hlk hnm hN ls hl
  refine lv_aload_n S.1 S.2.1 dX3_init_0 rfl (lv_at hl 0 rfl) ?_
  refine i_nest S (kX2_init l a) hN (i := 6) rfl u31 u2 u30 ⟨by decide, by decide, by decide +kernel⟩ rfl rfl rfl hl.1 (Nat.le_of_ble_eq_true rfl) (Nat.le_of_ble_eq_true rfl) (Nat.le_of_ble_eq_true rfl) (Nat.zero_le _) (Nat.zero_le _) dX3_init_1 ?_
  exact W.vret S.1 S.2.1 hr (fun t ht _ => ⟨rfl, ht⟩) (fun q h => by cases h) dX3_init_4 hlk
theorem kX1_init (l : Launch) (a : Nat) : Met l yX1_init (Cond.code yX1_init cX1_init 1 none :: zU) { frames := 3, cells := 0, slots := 0, locals := 52 } (va_Pc [.ref a] zNe) (zR none) 0 0 zNo := by
  refine z_metG (by decide) (Nat.le_of_ble_eq_true rfl) ?_
  intro p e s m below meth c S hr hlk hnm hN ls hl
  refine lv_aload_n S.1 S.2.1 dX1_init_0 rfl (lv_at hl 0 rfl) ?_
  refine i_nest S (kX0_init l a) hN (i := 8) rfl u38 u3 u37 ⟨by decide, by decide, by decide +kernel⟩ rfl rfl rfl hl.1 (Nat.le_of_ble_eq_true rfl) (Nat.le_of_ble_eq_true rfl) (Nat.le_of_ble_eq_true rfl) (Nat.zero_le _) (Nat.zero_le _) dX1_init_1 ?_
  exact W.vret S.1 S.2.1 hr (fun t ht _ => ⟨rfl, ht⟩) (fun q h => by cases h) dX1_init_4 hlk
theorem kX4_init (l : Launch) (a : Nat) : Met l yX4_init (Cond.code yX4_init cX4_init 1 none :: zU) { frames := 3, cells := 0, slots := 0, locals := 52 } (va_Pc [.ref a] zNe) (zR none) 0 0 zNo := by
  refine z_metG (by decide) (Nat.le_of_ble_eq_true rfl) ?_
  intro p e s m below meth c S hr hlk hnm hN ls hl
  refine lv_aload_n S.1 S.2.1 dX4_init_0 rfl (lv_at hl 0 rfl) ?_
  refine i_nest S (kX8_init l a) hN (i := 10) rfl u45 u4 u44 ⟨by decide, by decide, by decide +kernel⟩ rfl rfl rfl hl.1 (Nat.le_of_ble_eq_true rfl) (Nat.le_of_ble_eq_true rfl) (Nat.le_of_ble_eq_true rfl) (Nat.zero_le _) (Nat.zero_le _) dX4_init_1 ?_
  exact W.vret S.1 S.2.1 hr (fun t ht _ => ⟨rfl, ht⟩) (fun q h => by cases h) dX4_init_4 hlk
end ZK
def iT (cI cJ cK cS : ClassId) : List (ClassId × FieldType) := [(cI, .int), (cJ, .long), (cK, .object "BeardHire$Kind"), (cS, .object "BeardHire$Sheet")]
theorem i_fc {U : State} {cA : ClassId} {ty : FieldType} (h : va_RA U cA ty) : U.vm.findClass ("[" ++ ty.toString) = some cA := by
  cases ty with
  | object C =>
    obtain ⟨kA, comp, h1, h2, h3, h4⟩ := h
    exact h4
  | _ => exact h
theorem i_same {s : State} {D : va_G} {cl : List vw_C} {tys : List (ClassId × FieldType)} {cA cI : ClassId} {ty : FieldType} {k : Nat} (hK : va_K D cl (tys ++ [(cA, ty)]) s) (hk : tys[k]? = some (cI, ty)) : cA = cI := by
  have h1 := i_fc (hK.2 tys.length (cA, ty) (by simp)).2
  have h2 := i_fc (hK.2 k (cI, ty) (by rw [List.getElem?_append_left (List.getElem?_eq_some_iff.mp hk).1]; exact hk)).2
  exact Option.some.inj (h1.symm.trans h2)
/-- what a constructor asks -/
def iB (D : va_G) (cI cJ cK cS : ClassId) (ws : va_W) (sz : Nat) (U : State) : Prop := U.heap.size = sz ∧ va_P D vwCl ws U.heap ∧ va_K D vwCl (iT cI cJ cK cS) U ∧ va_D (fun _ => True) ws ∧ zNe U
theorem iB.blind {D : va_G} {cI cJ cK cS : ClassId} {ws : va_W} {sz : Nat} {av : List Value} : FrameBlind (va_Pc av (iB D cI cJ cK cS ws sz)) := by
  intro a U g mk h
  obtain ⟨h0, h1, h2, h3, h4, h5⟩ := h
  exact ⟨h0, h1, h2, va_K.moved (u := U) (U := U.calling g mk a) (Vm.Alike.refl U.vm) h3, h4, h5.call⟩
section ZN
variable {p : Program} {l : Launch} {e : Env} {R : Room} {s : State} {m : MethodId} {args : Array Value} {below : List Frame} {meth : Method} {c : Code} {H : Heap} {locs : List Loc} {Q : State → Prop} {cells slots : Nat}
variable {cc : ByteArray} {pc nL : Nat} {ls : Array Slot} {rest : List Value} {own : String} {D : va_G} {cI cJ cK cS : ClassId} {A : Nat → Prop} {ws : va_W}
theorem i_newI (S : CallFix p m c cc nL s args zU own) (hK : va_K D vwCl (iT cI cJ cK cS) s) (hP : va_P D vwCl ws H) (hD : va_D A ws) (hS : va_S A s.heap H locs) (hA : ∀ q, s.heap.size ≤ q → A q) {n : Int32} (N : Nat) (hn : ¬ n < 0) (hN : n.toNatClampNeg = N) (hbt : N * componentBytes .int ≤ 536870912) (hc : cells + 1 ≤ R.cells) (hs : slots + N ≤ R.slots) (hdg : decode cc pc = .ok (.newarray .int, 2))
    (kk : ∀ (q : Nat) (H1 : Heap), va_P D vwCl (ws ++ [(q, .inl (cI, N, .inl (fun _ => 0)))]) H1 → va_D A (ws ++ [(q, .inl (cI, N, .inl (fun _ => 0)))]) → va_S A s.heap H1 locs → W p l e R s m args below meth c H1 locs (cells + 1) (slots + N) Q (F0 m (pc + 2) ls (.ref q :: rest))) : W p l e R s m args below meth c H locs cells slots Q (F0 m pc ls (.int n :: rest)) := by
  refine va_newa (D := D) (atype := .int) (ty := .int) (a0 := (N, .inl (fun _ => 0))) S.1 S.2.1 (S.2.2.2.2 _ u136) rfl hK hP hD hS hA (fun _ => rfl) hn hN hbt hc hs hdg (fun q cA H1 hK1 hP1 hD1 hS1 => ?_)
  obtain rfl := i_same hK1 (k := 0) rfl
  exact kk q H1 hP1 hD1 hS1
theorem i_newJ (S : CallFix p m c cc nL s args zU own) (hK : va_K D vwCl (iT cI cJ cK cS) s) (hP : va_P D vwCl ws H) (hD : va_D A ws) (hS : va_S A s.heap H locs) (hA : ∀ q, s.heap.size ≤ q → A q) {n : Int32} (N : Nat) (hn : ¬ n < 0) (hN : n.toNatClampNeg = N) (hbt : N * componentBytes .long ≤ 536870912) (hc : cells + 1 ≤ R.cells) (hs : slots + N ≤ R.slots) (hdg : decode cc pc = .ok (.newarray .long, 2))
    (kk : ∀ (q : Nat) (H1 : Heap), va_P D vwCl (ws ++ [(q, .inl (cJ, N, .inr (.inl (fun _ => 0))))]) H1 → va_D A (ws ++ [(q, .inl (cJ, N, .inr (.inl (fun _ => 0))))]) → va_S A s.heap H1 locs → W p l e R s m args below meth c H1 locs (cells + 1) (slots + N) Q (F0 m (pc + 2) ls (.ref q :: rest))) : W p l e R s m args below meth c H locs cells slots Q (F0 m pc ls (.int n :: rest)) := by
  refine va_newa (D := D) (atype := .long) (ty := .long) (a0 := (N, .inr (.inl (fun _ => 0)))) S.1 S.2.1 (S.2.2.2.2 _ u189) rfl hK hP hD hS hA (fun _ => rfl) hn hN hbt hc hs hdg (fun q cA H1 hK1 hP1 hD1 hS1 => ?_)
  obtain rfl := i_same hK1 (k := 1) rfl
  exact kk q H1 hP1 hD1 hS1
end ZN
def wSh (cJ : ClassId) (h0 q : Nat) : va_W := [(h0, .inr (5, [.ref q, .int 0, .int 0])), (q, .inl (cJ, 40, .inr (.inl (fun _ => 0))))]
set_option maxHeartbeats 4000000 in
theorem kX5_init (l : Launch) (D : va_G) (cI cJ cK cS : ClassId) (h0 sz : Nat) : Met l yX5_init (Cond.code yX5_init cX5_init 1 none :: zU) { frames := 1, cells := 1, slots := 40, locals := 12 } (va_Pc [.ref h0] (iB D cI cJ cK cS [(h0, .inr (5, [.null, .int 0, .int 0]))] sz)) (va_Qv (fun _ : Nat => True) (fun q t => va_P D vwCl (wSh cJ h0 q) t.heap ∧ va_D (va_A [(h0, .inr (5, [.null, .int 0, .int 0]))] sz) (wSh cJ h0 q)) (va_A [(h0, .inr (5, [.null, .int 0, .int 0]))] sz)) 1 40 (va_A [(h0, .inr (5, [.null, .int 0, .int 0]))] sz) := by
  refine z_metG (by decide) (Nat.le_of_ble_eq_true rfl) ?_
  intro p e s m below meth c S hr hlk hnm hB ls hl
  obtain ⟨hsz, hP, hK, hD0, hN⟩ := hB
  subst hsz
  have hD := hD0.self (sz := s.heap.size)
  generalize hAe : va_A [(h0, .inr (5, [.null, .int 0, .int 0]))] s.heap.size = A at hD ⊢
  have hA : ∀ q : Nat, s.heap.size ≤ q → A q := fun q h => by rw [← hAe]; exact Or.inr h
  have hS : va_S A s.heap s.heap [] := va_S.rf
  have hl : lv_has ls 1 [(0, .ref h0)] := hl
  refine lv_aload_n S.1 S.2.1 dX5_init_0 rfl (lv_at hl 0 rfl) ?_
  refine i_obj S hl.1 u175 (Nat.le_of_ble_eq_true rfl) (Nat.le_of_ble_eq_true rfl) dX5_init_1 ?_
  refine lv_aload_n S.1 S.2.1 dX5_init_4 rfl (lv_at hl 0 rfl) ?_
  refine lv_bipush (v := (40 : Int32)) S.1 S.2.1 dX5_init_5 (by decide) ?_
  refine i_newJ S hK hP hD hS hA 40 (by decide) (by decide) (by decide) (Nat.le_of_ble_eq_true rfl) (Nat.le_of_ble_eq_true rfl) dX5_init_7 (fun q1 H hP hD hS => ?_)
  have hP : va_P D vwCl [(h0, .inr (5, [.null, .int 0, .int 0])), (q1, .inl (cJ, 40, .inr (.inl (fun _ => 0))))] H := hP
  have hD : va_D A [(h0, .inr (5, [.null, .int 0, .int 0])), (q1, .inl (cJ, 40, .inr (.inl (fun _ => 0))))] := hD
  refine va_putF (D := D) (ci := 5) (v := .ref q1) (ty := .array .long) (C := RX5) (T := TX5) (N := 3) (own := RX5) (ref := (TX5 0).1) S.1 S.2.1 S.2.2.2.2 inU5 tyX5 tyX5_ok nmX5 S.2.2.2.1 hK hP hD hS 0 rfl vc5 0 (by decide) (S.2.2.2.2 _ u176) (fun _ h => h) rfl hnm rfl (by decide +kernel) rfl rfl (Nat.le_of_ble_eq_true rfl) dX5_init_9 (fun H locs hP hD hS => ?_)
  have hP : va_P D vwCl [(h0, .inr (5, [.ref q1, .int 0, .int 0])), (q1, .inl (cJ, 40, .inr (.inl (fun _ => 0))))] H := hP
  have hD : va_D A [(h0, .inr (5, [.ref q1, .int 0, .int 0])), (q1, .inl (cJ, 40, .inr (.inl (fun _ => 0))))] := hD
  refine W.widen (k := 1) (n := 40) (Nat.le_of_ble_eq_true rfl) (Nat.le_of_ble_eq_true rfl) ?_
  exact W.vret S.1 S.2.1 hr (fun t ht hW => ⟨⟨q1, rfl, trivial, by rw [ht]; exact hP, hD⟩, hS.F ht⟩) hS.2.2 dX5_init_12 hlk
def wTx (cI : ClassId) (h0 mn tr q : Nat) : va_W := [(h0, .inr (6, [.ref mn, .ref q, .int 0, .ref tr, .int 0, .int 0, .int 0, .int 0])), (q, .inl (cI, 120, .inl (fun _ => 0)))]
set_option maxHeartbeats 4000000 in
theorem kX6_init (l : Launch) (D : va_G) (cI cJ cK cS : ClassId) (h0 sz : Nat) (mn tr : Nat) : Met l yX6_init (Cond.code yX6_init cX6_init 3 none :: zU) { frames := 1, cells := 1, slots := 120, locals := 12 } (va_Pc [.ref h0, .ref mn, .ref tr] (iB D cI cJ cK cS [(h0, .inr (6, [.null, .null, .int 0, .null, .int 0, .int 0, .int 0, .int 0]))] sz)) (va_Qv (fun _ : Nat => True) (fun q t => va_P D vwCl (wTx cI h0 mn tr q) t.heap ∧ va_D (va_A [(h0, .inr (6, [.null, .null, .int 0, .null, .int 0, .int 0, .int 0, .int 0]))] sz) (wTx cI h0 mn tr q)) (va_A [(h0, .inr (6, [.null, .null, .int 0, .null, .int 0, .int 0, .int 0, .int 0]))] sz)) 1 120 (va_A [(h0, .inr (6, [.null, .null, .int 0, .null, .int 0, .int 0, .int 0, .int 0]))] sz) := by
  refine z_metG (by decide) (Nat.le_of_ble_eq_true rfl) ?_
  intro p e s m below meth c S hr hlk hnm hB ls hl
  obtain ⟨hsz, hP, hK, hD0, hN⟩ := hB
  subst hsz
  have hD := hD0.self (sz := s.heap.size)
  generalize hAe : va_A [(h0, .inr (6, [.null, .null, .int 0, .null, .int 0, .int 0, .int 0, .int 0]))] s.heap.size = A at hD ⊢
  have hA : ∀ q : Nat, s.heap.size ≤ q → A q := fun q h => by rw [← hAe]; exact Or.inr h
  have hS : va_S A s.heap s.heap [] := va_S.rf
  have hl : lv_has ls 3 [(0, .ref h0), (1, .ref mn), (2, .ref tr)] := hl
  refine lv_aload_n S.1 S.2.1 dX6_init_0 rfl (lv_at hl 0 rfl) ?_
  refine i_obj S hl.1 u142 (Nat.le_of_ble_eq_true rfl) (Nat.le_of_ble_eq_true rfl) dX6_init_1 ?_
  refine lv_aload_n S.1 S.2.1 dX6_init_4 rfl (lv_at hl 0 rfl) ?_
  refine lv_bipush (v := (120 : Int32)) S.1 S.2.1 dX6_init_5 (by decide) ?_
  refine i_newI S hK hP hD hS hA 120 (by decide) (by decide) (by decide) (Nat.le_of_ble_eq_true rfl) (Nat.le_of_ble_eq_true rfl) dX6_init_7 (fun q1 H hP hD hS => ?_)
  have hP : va_P D vwCl [(h0, .inr (6, [.null, .null, .int 0, .null, .int 0, .int 0, .int 0, .int 0])), (q1, .inl (cI, 120, .inl (fun _ => 0)))] H := hP
  have hD : va_D A [(h0, .inr (6, [.null, .null, .int 0, .null, .int 0, .int 0, .int 0, .int 0])), (q1, .inl (cI, 120, .inl (fun _ => 0)))] := hD
  refine va_putF (D := D) (ci := 6) (v := .ref q1) (ty := .array .int) (C := RX6) (T := TX6) (N := 8) (own := RX6) (ref := (TX6 1).1) S.1 S.2.1 S.2.2.2.2 inU6 tyX6 tyX6_ok nmX6 S.2.2.2.1 hK hP hD hS 0 rfl vc6 1 (by decide) (S.2.2.2.2 _ u144) (fun _ h => h) rfl hnm rfl (by decide +kernel) rfl rfl (Nat.le_of_ble_eq_true rfl) dX6_init_9 (fun H locs hP hD hS => ?_)
  have hP : va_P D vwCl [(h0, .inr (6, [.null, .ref q1, .int 0, .null, .int 0, .int 0, .int 0, .int 0])), (q1, .inl (cI, 120, .inl (fun _ => 0)))] H := hP
  have hD : va_D A [(h0, .inr (6, [.null, .ref q1, .int 0, .null, .int 0, .int 0, .int 0, .int 0])), (q1, .inl (cI, 120, .inl (fun _ => 0)))] := hD
  refine lv_aload_n S.1 S.2.1 dX6_init_12 rfl (lv_at hl 0 rfl) ?_
  refine lv_aload_n S.1 S.2.1 dX6_init_13 rfl (lv_at hl 1 rfl) ?_
  refine va_putF (D := D) (ci := 6) (v := .ref mn) (ty := .array (.object "BeardHire$Kind")) (C := RX6) (T := TX6) (N := 8) (own := RX6) (ref := (TX6 0).1) S.1 S.2.1 S.2.2.2.2 inU6 tyX6 tyX6_ok nmX6 S.2.2.2.1 hK hP hD hS 0 rfl vc6 0 (by decide) (S.2.2.2.2 _ u143) (fun _ h => h) rfl hnm rfl (by decide +kernel) rfl rfl (Nat.le_of_ble_eq_true rfl) dX6_init_14 (fun H locs hP hD hS => ?_)
  have hP : va_P D vwCl [(h0, .inr (6, [.ref mn, .ref q1, .int 0, .null, .int 0, .int 0, .int 0, .int 0])), (q1, .inl (cI, 120, .inl (fun _ => 0)))] H := hP
  have hD : va_D A [(h0, .inr (6, [.ref mn, .ref q1, .int 0, .null, .int 0, .int 0, .int 0, .int 0])), (q1, .inl (cI, 120, .inl (fun _ => 0)))] := hD
  refine lv_aload_n S.1 S.2.1 dX6_init_17 rfl (lv_at hl 0 rfl) ?_
  refine lv_aload_n S.1 S.2.1 dX6_init_18 rfl (lv_at hl 2 rfl) ?_
  refine va_putF (D := D) (ci := 6) (v := .ref tr) (ty := .object "BeardHire$Trade") (C := RX6) (T := TX6) (N := 8) (own := RX6) (ref := (TX6 3).1) S.1 S.2.1 S.2.2.2.2 inU6 tyX6 tyX6_ok nmX6 S.2.2.2.1 hK hP hD hS 0 rfl vc6 3 (by decide) (S.2.2.2.2 _ u147) (fun _ h => h) rfl hnm rfl (by decide +kernel) rfl rfl (Nat.le_of_ble_eq_true rfl) dX6_init_19 (fun H locs hP hD hS => ?_)
  have hP : va_P D vwCl [(h0, .inr (6, [.ref mn, .ref q1, .int 0, .ref tr, .int 0, .int 0, .int 0, .int 0])), (q1, .inl (cI, 120, .inl (fun _ => 0)))] H := hP
  have hD : va_D A [(h0, .inr (6, [.ref mn, .ref q1, .int 0, .ref tr, .int 0, .int 0, .int 0, .int 0])), (q1, .inl (cI, 120, .inl (fun _ => 0)))] := hD
  refine W.widen (k := 1) (n := 120) (Nat.le_of_ble_eq_true rfl) (Nat.le_of_ble_eq_true rfl) ?_
  exact W.vret S.1 S.2.1 hr (fun t ht hW => ⟨⟨q1, rfl, trivial, by rw [ht]; exact hP, hD⟩, hS.F ht⟩) hS.2.2 dX6_init_22 hlk
