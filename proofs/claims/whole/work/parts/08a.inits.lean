/-! the constructors: bases, and the kinds -/
def zNs : List Cond := [.methodLinkNest RX9 9 yX2_init RX9, .methodLinkNest RX9 12 yX0_init RX9, .methodLinkNest RX0 1 yX2_init RX9, .methodLinkNest RX9 15 yX8_init RX9, .methodLinkNest RX8 1 yX2_init RX9, .methodLinkNest RX9 18 yX3_init RX9, .methodLinkNest RX3 1 yX2_init RX9, .methodLinkNest RX9 21 yX1_init RX9, .methodLinkNest RX1 1 yX0_init RX9, .methodLinkNest RX9 24 yX4_init RX9, .methodLinkNest RX4 1 yX8_init RX9, .methodLinkNest RX9 61 yX5_init RX9, .castable RX0 "BeardHire$Kind", .castable RX8 "BeardHire$Kind", .castable RX3 "BeardHire$Kind", .castable RX1 "BeardHire$Kind", .castable RX4 "BeardHire$Kind"]
/-- what the constructors ask of the tables beside zU -/
def zNe (U : State) : Prop := (∀ (i : Nat) (w : Cond), zNs[i]? = some w → va_Nw w U) ∧ va_AO "BeardHire$Kind" U ∧ va_AO "BeardHire$Sheet" U
theorem zNs_is : ∀ (i : Nat) (w : Cond), zNs[i]? = some w → (∃ a j x h, w = .methodLinkNest a j x h) ∨ ∃ C T, w = .castable C T := by
  intro i w h
  have hi : i < 17 := (List.getElem?_eq_some_iff.mp h).1
  rcases (show i = 0 ∨ i = 1 ∨ i = 2 ∨ i = 3 ∨ i = 4 ∨ i = 5 ∨ i = 6 ∨ i = 7 ∨ i = 8 ∨ i = 9 ∨ i = 10 ∨ i = 11 ∨ i = 12 ∨ i = 13 ∨ i = 14 ∨ i = 15 ∨ i = 16 by omega) with rfl | rfl | rfl | rfl | rfl | rfl | rfl | rfl | rfl | rfl | rfl | rfl | rfl | rfl | rfl | rfl | rfl <;> first | exact Or.inl ⟨_, _, _, _, (Option.some.inj h).symm⟩ | exact Or.inr ⟨_, _, (Option.some.inj h).symm⟩
theorem zNe.warm {s U : State} (h : zNe s) (hW : s.WarmedH U.vm) : zNe U := by
  refine ⟨fun i w hi => ?_, h.2.1.moved hW.alike, h.2.2.moved hW.alike⟩
  have h1 := h.1 i w hi
  rcases zNs_is i w hi with ⟨a, j, x, hh, rfl⟩ | ⟨C, T, rfl⟩
  · exact h1.warmM hW
  · exact h1.warmC hW
theorem zNe.call {U : State} {g : JFrame} {mk : MethodId} {a : Array Value} (h : zNe U) : zNe (U.calling g mk a) := by
  refine ⟨fun i w hi => ?_, h.2.1.moved (U := U.calling g mk a) (Vm.Alike.refl U.vm), h.2.2.moved (U := U.calling g mk a) (Vm.Alike.refl U.vm)⟩
  have h1 := h.1 i w hi
  rcases zNs_is i w hi with ⟨b, j, x, hh, rfl⟩ | ⟨C, T, rfl⟩ <;> exact va_Nw.same rfl (u := U) (U := U.calling g mk a) rfl h1
section ZI
variable {l : Launch}
/-- a method's entry, whatever it asks -/
theorem z_metG {y : MethodName} {cc : ByteArray} {maxL mc ms : Nat} {ret : Option FieldType} {rm : Room} {av : List Value} {Bd : State → Prop} {Qc : Array Value → State → Outcome → State → Prop} {free : Addr → Prop} (hy : plainName y.cls = true) (hm : (lg_sl av).length ≤ maxL)
    (body : ∀ (p : Program) (e : Env) (s : State) (m : MethodId) (below : List Frame) (meth : Method) (c : Code), CallFix p m c cc maxL s av.toArray zU y.cls → meth.sig.returnType = ret → meth.locks = false → meth.name = y.name → Bd s → ∀ ls : Array Slot, lv_has ls maxL (lv_args 0 av) →
      W p l e rm s m av.toArray below meth c s.heap [] 0 0 (MQ below Qc av.toArray s mc ms free) (F0 m 0 ls [])) : Met l y (Cond.code y cc maxL ret :: zU) rm (va_Pc av Bd) Qc mc ms free := by
  refine Met.ofW (cc := cc) (maxL := maxL) (ret := ret) hy rfl ?_
  intro p e s m args below meth c s₁ B hml hv
  obtain ⟨rfl, hB⟩ := hv
  have hts := atoms_spec (ws := Cond.code y cc maxL ret :: zU) B.pre
  have hown : s.vm.findClass y.cls = some m.cls := findClass_of_methodNamed B.named
  rw [lg_entry_eq]
  exact body p e s m below meth c ⟨B.exec, B.bytes, hml, hown, fun u hu => hts u (List.mem_cons_of_mem _ hu)⟩ B.returns B.notSynchronized (name_of_methodNamed B.named B.method).1 hB _ (lv_entry av hm)
variable {p : Program} {e : Env} {R : Room} {s : State} {m : MethodId} {args : Array Value} {below : List Frame} {meth : Method} {c : Code} {H : Heap} {locs : List Loc} {Q : State → Prop} {cells slots : Nat}
variable {cc : ByteArray} {pc nL : Nat} {ls : Array Slot} {rest : List Value} {own : String}
/-- Object() -/
theorem i_obj (S : CallFix p m c cc nL s args zU own) {idx a : Nat} (hsz : ls.size = nL) (hl : Cond.methodLink own idx objectInit ∈ zU) (hf : 1 ≤ R.frames) (hR : 2 * (F0 m pc ls (.ref a :: rest)).monitorRoom + (rest.map fun v => v.category).sum + 12 ≤ R.locals) (hdg : decode cc pc = .ok (.invokespecial idx, 3))
    (kk : W p l e R s m args below meth c H locs cells slots Q (F0 m (pc + 3) ls rest)) : W p l e R s m args below meth c H locs cells slots Q (F0 m pc ls (.ref a :: rest)) := by
  refine W.objInit (a := a) (rest := rest) S.1 S.2.1 S.2.2.2.1 (S.2.2.2.2 _ hl) (S.2.2.2.2 _ u24) (S.2.2.2.2 _ u25) rfl (hsz.trans S.2.2.1.symm) rfl hdg hf hR ?_
  exact kk
/-- a constructor that only reads, of a nest mate -/
theorem i_nest (S : CallFix p m c cc nL s args zU own) {y : MethodName} {bytes : ByteArray} {idx a i : Nat} {rm : Room} (hM : Met l y (Cond.code y bytes 1 none :: zU) rm (va_Pc [.ref a] zNe) (zR none) 0 0 zNo) (hN : zNe s) (hi : zNs[i]? = some (.methodLinkNest own idx y RX9)) (h5 : Cond.code y bytes 1 none ∈ zU) (h4 : Cond.initialized y.cls ∈ zU) (h6 : Cond.instanceMethod y ∈ zU)
    (hd : y.cls ≠ "java/lang/invoke/MethodHandle" ∧ y.cls ≠ "java/lang/invoke/VarHandle" ∧ (parseMethodDescriptor y.desc).map (fun d => d.parameters.length) = some 0) (hy : y.name = "<init>") (hrc : rm.cells = 0) (hrs : rm.slots = 0) (hsz : ls.size = nL) (hR1 : rm.frames + 1 ≤ R.frames) (hR2 : 20 + rm.locals ≤ R.locals) (hW : (rest.map fun v => v.category).sum ≤ 8)
    (hc : cells ≤ R.cells) (hs : slots ≤ R.slots) (hdg : decode cc pc = .ok (.invokespecial idx, 3)) (kk : W p l e R s m args below meth c H locs cells slots Q (F0 m (pc + 3) ls rest)) : W p l e R s m args below meth c H locs cells slots Q (F0 m pc ls (.ref a :: rest)) := by
  have run := va_runIN (g := F0 m pc ls (.ref a :: rest)) (H := H) (locs := locs) (cells := cells) (slots := slots) (b := a) (As := []) (rest := rest) (e := e) (below := below) (meth := meth) S hM ⟨va_cnB (R := R) 0 S.2.2.2.2 (z_goodU h5) rfl hrc hrs (hN.1 i _ hi) (S.2.2.2.2 _ h4) hd ⟨hR1, by omega⟩, hy, S.2.2.2.2 _ h6⟩ ⟨fun a U g mk q => ⟨q.1, q.2.call⟩, fun U hU hW => ⟨rfl, hN.warm hW⟩⟩ rfl rfl hsz rfl (lv_room hW) hdg ⟨hc, hs⟩
  intro T hT X
  obtain ⟨v, st₀, t, T', L, h0, X', hL, e1, e2, ⟨hv, hh⟩, st⟩ := run T hT X
  cases hv
  obtain ⟨t2, a1, b1⟩ := kk T' (by rw [e1, hh, h0]) (Stand.forget X' (fun q h => (hL q h).elim))
  exact ⟨t2, st t2 a1, b1⟩
theorem kX2_init (l : Launch) (a : Nat) : Met l yX2_init (Cond.code yX2_init cX2_init 1 none :: zU) { frames := 1, cells := 0, slots := 0, locals := 12 } (va_Pc [.ref a] zNe) (zR none) 0 0 zNo := by
  refine z_metG (by decide) (Nat.le_of_ble_eq_true rfl) ?_
  intro p e s m below meth c S hr hlk hnm hN ls hl
  refine lv_aload_n S.1 S.2.1 dX2_init_0 rfl (lv_at hl 0 rfl) ?_
  refine i_obj S hl.1 u32 (Nat.le_of_ble_eq_true rfl) (Nat.le_of_ble_eq_true rfl) dX2_init_1 ?_
  exact W.vret S.1 S.2.1 hr (fun t ht _ => ⟨rfl, ht⟩) (fun q h => by cases h) dX2_init_4 hlk
end ZI
