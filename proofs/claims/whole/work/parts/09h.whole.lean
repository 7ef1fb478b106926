/-! THE CLAIM OUT OF ONE WALK OF THE LAW'S BODY. Your part is whole_start (and what it stands on); all else here is the same for every law, but numbers. -/
def R_law : String := "BeardHireLaw"
def lw_P (b : Addr) (xs : List Int32) (args : Array Value) (s : State) : Prop := args = #[.ref b] ∧ s.IntsAt b xs ∧ xs.length ≤ 3072 ∧ (Jvm.Cond.and given_1 narrow_1).before args s = true
def lw_Q (_ : Array Value) (s : State) (o : Outcome) (t : State) : Prop := o = .returned (some (.int 1)) ∧ Framed s o t [] 600000 7302250
def lw_Z (below : List Frame) (a : Array Value) (s : State) : State → Prop := fun t => ∃ o, t.status = .running ∧ Ended t below o ∧ lw_Q a s o t
/-- the law's own end, with 1 on the stack, nothing written that was there before, its room as the claim has it -/
theorem lw_ret {p : Program} {l : Launch} {e : Env} {s : State} {m : MethodId} {below : List Frame} {meth : Method} {c : Code} {b : Nat} (hx : p.tables.exec = Jvm.exec) (hb : c.code = code) (hr : meth.sig.returnType = ret) (hlocks : meth.locks = false) {pc : Nat} {H : Heap} {ls : Array Slot} (hdg : decode code pc = .ok (.ireturn, 1)) : W p l e room_1 s m #[Value.ref b] below meth c H [] 600000 7302250 (lw_Z below #[Value.ref b] s) (F0 m pc ls [.int 1]) := by
  intro T hT X
  obtain ⟨fs, hret, hrun, hended, hW, hframe⟩ := X.leave (v := some (.int 1)) (hlocks := hlocks) (fun h => by rw [hr] at h; cases h)
  have hmeth' : T.vm.method? m = some meth := X.method'
  refine ⟨T.setFrames fs, ?_, .returned (some (.int 1)), hrun, hended, rfl, ⟨_, rfl⟩, hW, hframe⟩
  jvm_step X.here [X.here.top, hx, hb, hdg, hmeth', hr, ret, narrow_b1]
  (try refine ⟨rfl, ?_⟩); (try refine ⟨rfl, ?_⟩)
  first | (intro acts; rw [hret _ acts rfl rfl rfl]) | rw [hret _ _ rfl rfl rfl]
  exact Steps.refl _
/-- what holds at the law's entry: the machine, the code, the tables' words (any of lw_tbl by 'hts w (by decide +kernel)'), the script of L ints xs at the cell b, what the Statement gives of the start (any of its parts by flat_of_before) -/
def lw_At (p : Program) (s : State) (m : MethodId) (meth : Method) (c : Code) (b L : Nat) (xs : Nat → Int32) : Prop :=
  p.tables.exec = Jvm.exec ∧ c.code = code ∧ meth.sig.returnType = ret ∧ c.maxLocals = 4 ∧ s.vm.findClass R_law = some m.cls ∧ (∀ w ∈ lw_tbl, w.before #[Value.ref b] s = true) ∧ va_X b L xs s s.heap ∧ b < s.heap.size ∧ meth.locks = false ∧ (Jvm.Cond.and given_1 narrow_1).before #[Value.ref b] s = true
set_option maxHeartbeats 4000000 in
set_option maxRecDepth 100000 in
theorem whole_start {p : Program} {e : Env} {s : State} {m : MethodId} {below : List Frame} {meth : Method} {c : Code} (l : Launch) (hflags : l.flags = flags0) {b L : Nat} {xs : Nat → Int32} (hL : L ≤ 3072) (C0 : lw_At p s m meth c b L xs) : W p l e room_1 s m #[Value.ref b] below meth c s.heap [] 0 0 (lw_Z below #[Value.ref b] s) (entryFrame m ([Value.ref b] : List Value).toArray 4) := by
  obtain ⟨hx, hb, hr, hml, hown, hts, hX, hbl, hlocks, hgv⟩ := id C0
  have hU : ∀ w ∈ zU, w.before #[Value.ref b] s = true := fun w h => hts w (z_in h)
  have S : CallFix p m c cL_law 4 s #[Value.ref b] zU RL := ⟨hx, hb, hml, hown, hU⟩
  obtain ⟨D, cI, cJ, cK, cS, hK⟩ := i_K hts
  have hN := i_Ne hts
  obtain ⟨kA, hE⟩ := i_E hts hgv
  have hA : ∀ q : Nat, s.heap.size ≤ q → (fun q : Nat => s.heap.size ≤ q) q := fun _ h => h
  have hS : va_S (fun q : Nat => s.heap.size ≤ q) s.heap s.heap [] := va_S.rf
  have hP : va_P D vwCl [] s.heap := fun k q h => by simp at h
  have hD : va_D (fun q : Nat => s.heap.size ≤ q) [] := ⟨fun i j p q h => by simp at h, fun k q h => by simp at h⟩
  have hl := lv_entry ([.ref b]) (n := 4) (Nat.le_of_ble_eq_true rfl)
  rw [lg_entry_eq]
  generalize (lg_sl ([.ref b]) ++ List.replicate (4 - (lg_sl ([.ref b])).length) Slot.unset).toArray = ls at hl ⊢
  have hl : lv_has ls 4 [(0, .ref b)] := hl
  refine va_new (D := D) (ci := 9) (fs := [.null, .null, .null, .int 0, .null, .null, .null]) (C := RX9) (T := TX9) (N := 7) S.1 S.2.1 S.2.2.2.2 inU9 tyX9 tyX9_ok S.2.2.2.1 (S.2.2.2.2 _ u18) (S.2.2.2.2 _ u19) (S.2.2.2.2 _ u1) hK hP hD hS hA vc9 (fun j hj => by rcases (show j = 0 ∨ j = 1 ∨ j = 2 ∨ j = 3 ∨ j = 4 ∨ j = 5 ∨ j = 6 by omega) with rfl | rfl | rfl | rfl | rfl | rfl | rfl <;> rfl) (Nat.le_of_ble_eq_true rfl) (Nat.le_of_ble_eq_true rfl) dL_law_0 (fun h0 H hP hD hS => ?_)
  have hP : va_P D vwCl ([] ++ [(h0, .inr (9, [.null, .null, .null, .int 0, .null, .null, .null]))]) H := hP
  have hPc : va_P D vwCl [(h0, .inr (9, [.null, .null, .null, .int 0, .null, .null, .null]))] H := (i_pl hP).2
  have hFc : ∀ q, va_A [(h0, .inr (9, [.null, .null, .null, .int 0, .null, .null, .null]))] H.size q → (fun q : Nat => s.heap.size ≤ q) q := i_fA hA hS.1 (i_dl hD)
  refine lv_dup S.1 S.2.1 dL_law_3 rfl ?_
  refine va_callv (va_runI (As := []) (rest := [.ref h0]) S (kX9_init l D cI cJ cK cS h0 H.size) ⟨callB_of 0 S.2.2.2.2 (z_goodU u22) rfl rfl rfl (S.2.2.2.2 _ u1) (S.2.2.2.2 _ u20) ⟨by decide, by decide, by decide +kernel⟩ ⟨Nat.le_of_ble_eq_true rfl, Nat.le_of_ble_eq_true rfl⟩, rfl, S.2.2.2.2 _ u21⟩ ⟨iB.blind, fun U hU hW => ⟨rfl, by rw [hU], by rw [hU]; exact hPc, va_K.moved hW.alike hK, i_d1, hN.warm hW⟩⟩ rfl rfl hl.1 rfl (lv_room (Nat.le_of_ble_eq_true rfl)) dL_law_4 ⟨Nat.le_of_ble_eq_true rfl, Nat.le_of_ble_eq_true rfl⟩) hS (fun q _ h => hFc q h) hFc (fun u t H1 locs ht hvm hw hB hz1 hk1 hS => ?_)
  obtain ⟨us, f1, f2, f3⟩ := u
  have hw : us.length = 50 ∧ us[0]? = some h0 ∧ ∀ j, j < 6 → f1 j = -1 ∧ f2 j = -1 ∧ f3 j = -1 := hw
  have hP1 : va_P D vwCl (zL (cWd D cI cJ cK cS (fun k => us.getD k 0)) (iM0 f1 f2 f3)) t.heap := hB.1
  have hD1 : va_D (va_A [(h0, .inr (9, [.null, .null, .null, .int 0, .null, .null, .null]))] H.size) (zL (cWd D cI cJ cK cS (fun k => us.getD k 0)) (iM0 f1 f2 f3)) := hB.2
  have hP : va_P D vwCl (zL (cWd D cI cJ cK cS (fun k => us.getD k 0)) (iM0 f1 f2 f3)) H1 := by rw [← ht]; exact hP1
  have hD : va_D (fun q : Nat => s.heap.size ≤ q) (zL (cWd D cI cJ cK cS (fun k => us.getD k 0)) (iM0 f1 f2 f3)) := ⟨hD1.1, fun k q hk => hFc _ (hD1.2 k q hk)⟩
  clear hB hk1 hz1 hP1 hD1 hPc hFc ht
  generalize H1 = H at hP hS ⊢
  refine lv_astore_n (lv' := [(1, .ref h0), (0, .ref b)]) S.1 S.2.1 dL_law_7 rfl hl (Nat.le_of_ble_eq_true rfl) rfl (fun ls hl => ?_)
  refine va_new (D := D) (ci := 10) (fs := [.null, .null, .null, .null, .null, .int 0, .null, .int 0, .int 0, .int 0, .int 0, .int 0, .null, .null, .null, .null]) (C := RX10) (T := TX10) (N := 16) S.1 S.2.1 S.2.2.2.2 inU10 tyX10 tyX10_ok S.2.2.2.1 (S.2.2.2.2 _ u758) (S.2.2.2.2 _ u759) (S.2.2.2.2 _ u11) hK hP hD hS hA vc10 (fun j hj => by rcases (show j = 0 ∨ j = 1 ∨ j = 2 ∨ j = 3 ∨ j = 4 ∨ j = 5 ∨ j = 6 ∨ j = 7 ∨ j = 8 ∨ j = 9 ∨ j = 10 ∨ j = 11 ∨ j = 12 ∨ j = 13 ∨ j = 14 ∨ j = 15 by omega) with rfl | rfl | rfl | rfl | rfl | rfl | rfl | rfl | rfl | rfl | rfl | rfl | rfl | rfl | rfl | rfl <;> rfl) (Nat.le_of_ble_eq_true rfl) (Nat.le_of_ble_eq_true rfl) dL_law_8 (fun h1 H hP hD hS => ?_)
  have hPc : va_P D vwCl [(h1, .inr (10, [.null, .null, .null, .null, .null, .int 0, .null, .int 0, .int 0, .int 0, .int 0, .int 0, .null, .null, .null, .null]))] H := (i_pl hP).2
  have hFc : ∀ q, va_A [(h1, .inr (10, [.null, .null, .null, .null, .null, .int 0, .null, .int 0, .int 0, .int 0, .int 0, .int 0, .null, .null, .null, .null]))] H.size q → (fun q : Nat => s.heap.size ≤ q) q := i_fA hA hS.1 (i_dl hD)
  have hz0 := hS.1
  refine lv_dup S.1 S.2.1 dL_law_11 rfl ?_
  refine va_callv (va_runI (As := []) (rest := [.ref h1]) S (kX10_init l D cI cJ cK cS h1 H.size) ⟨callB_of 0 S.2.2.2.2 (z_goodU u762) rfl rfl rfl (S.2.2.2.2 _ u11) (S.2.2.2.2 _ u760) ⟨by decide, by decide, by decide +kernel⟩ ⟨Nat.le_of_ble_eq_true rfl, Nat.le_of_ble_eq_true rfl⟩, rfl, S.2.2.2.2 _ u761⟩ ⟨iB.blind, fun U hU hW => ⟨rfl, by rw [hU], by rw [hU]; exact hPc, va_K.moved hW.alike hK, i_d1, hN.warm hW⟩⟩ rfl rfl hl.1 rfl (lv_room (Nat.le_of_ble_eq_true rfl)) dL_law_12 ⟨Nat.le_of_ble_eq_true rfl, Nat.le_of_ble_eq_true rfl⟩) hS (fun q _ h => hFc q h) hFc (fun q t H1 locs ht hvm _ hB hz1 hk1 hS => ?_)
  obtain ⟨hP1, hD1⟩ := hB
  rw [ht] at hP1
  obtain ⟨ad, had, hadK⟩ : ∃ ad : Nat → Nat, (∀ k, k < 50 → ad k = us.getD k 0) ∧ ∀ k, 50 ≤ k → ad k = kA k := ⟨fun k => if k < 50 then us.getD k 0 else kA k, fun k hk => if_pos hk, fun k hk => if_neg (Nat.not_lt.mpr hk)⟩
  obtain ⟨am, ham, e1⟩ : ∃ am : Nat → Nat, wMo cI cJ h1 q (fM0 6) = zL (mWd D cI cJ am) iN0 ∧ am 0 = h1 := ⟨fun k => if k = 0 then h1 else q k, wMo_L, rfl⟩
  have e0 : ad 0 = h0 := by
    rw [had 0 (by decide), List.getD_eq_getElem?_getD, hw.2.1]
    rfl
  obtain ⟨F, hLA⟩ := i_both had hadK ham hK hE hP hD hk1 hz0 hP1 hD1 hS
  refine lv_astore_n (lv' := [(2, .ref h1), (1, .ref h0), (0, .ref b)]) S.1 S.2.1 dL_law_15 rfl hl (Nat.le_of_ble_eq_true rfl) rfl (fun ls hl => ?_)
  refine lv_iconst (v := (0 : Int32)) S.1 S.2.1 dL_law_16 (by decide) ?_
  refine lv_istore_n (lv' := [(3, .int (0 : Int32)), (2, .ref h1), (1, .ref h0), (0, .ref b)]) S.1 S.2.1 dL_law_17 rfl hl (Nat.le_of_ble_eq_true rfl) rfl (fun ls hl => ?_)
  refine va_forget hS.2.2 ?_
  have hl : lv_has ls 4 [(3, .int (nI 0)), (2, .ref (za (mWd D cI cJ am) 0)), (1, .ref (za (cWd D cI cJ cK cS ad) 0)), (0, .ref b)] := by
    show lv_has ls 4 [(3, .int (nI 0)), (2, .ref (am 0)), (1, .ref (ad 0)), (0, .ref b)]
    rw [nI_0, e0, e1]
    exact hl
  refine lw_loop S F (Nat.le_of_ble_eq_true rfl) (Nat.le_of_ble_eq_true rfl) hX hbl hL (fun M N H ls _ => ?_) 513 0 _ _ H1 ls (by omega) (by omega) hLA (rel0 (fun j hj => (hw.2.2 j hj).1)) hl
  refine lv_iconst (v := (1 : Int32)) S.1 S.2.1 dL_law_1532 (by decide) ?_
  refine W.widen (k := 600000) (n := 7302250) (Nat.le_of_ble_eq_true rfl) (Nat.le_of_ble_eq_true rfl) ?_
  exact lw_ret hx hb hr hlocks dL_law_1533
