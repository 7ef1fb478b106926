/-! contracts: a method that writes the world, and one that only reads it -/
def zPre (w : zWd) (M : zM) (av : List Value) : Array Value → State → Prop := va_Pc av (fun U => zP w M U.heap ∧ va_K (zD w) vwCl (zt w) U ∧ ze w U U.heap)
def zQ (w : zWd) (ov : Option Value) (M : zM) : Array Value → State → Outcome → State → Prop := fun _ st o t => o = .returned ov ∧ zP w M t.heap ∧ va_F (zA w) st t
def zR (ov : Option Value) : Array Value → State → Outcome → State → Prop := fun _ st o t => o = .returned ov ∧ t.heap = st.heap
def zNo : Addr → Prop := fun _ => False
/-- a method's name: its class, and how many arguments -/
def zAr (y : MethodName) (C : String) (n : Nat) : Prop := y.cls = C ∧ y.cls ≠ "java/lang/invoke/MethodHandle" ∧ y.cls ≠ "java/lang/invoke/VarHandle" ∧ (parseMethodDescriptor y.desc).map (fun d => d.parameters.length) = some n
theorem zPre.blind {w : zWd} {M : zM} {av : List Value} (ho : zOk w) : FrameBlind (zPre w M av) := by
  intro a U g mk h
  obtain ⟨h1, h2, h3, h4⟩ := h
  exact ⟨h1, h2, va_K.moved (u := U) (U := U.calling g mk a) (Vm.Alike.refl U.vm) h3, ho.2.2.2 U g mk a U.heap h4⟩
theorem zPre.at {w : zWd} {p : Program} {s : State} {m : MethodId} {c : Code} {args : Array Value} {cc : ByteArray} {own : String} {nL : Nat} {M : zM} {H : Heap} {locs : List Loc} (av : List Value) (G : zG w p s m c args cc own nL) (hH : zH w s M H locs) :
    ∀ U : State, U.heap = H → s.WarmedH U.vm → zPre w M av av.toArray U := by
  intro U hU hW
  refine ⟨rfl, by rw [hU]; exact hH.1, va_K.moved hW.alike G.K, ?_⟩
  exact G.k.2.2.1 s U s.heap U.heap G.e hW (by rw [hU]; exact hH.2.2.1)
section ZC
variable {p : Program} {l : Launch} {e : Env} {R : Room} {s : State} {m : MethodId} {args : Array Value} {below : List Frame} {meth : Method} {c : Code} {H : Heap} {locs : List Loc} {Q : State → Prop}
variable {cc : ByteArray} {pc nL : Nat} {ls : Array Slot} {rest : List Value} {w : zWd} {M : zM} {own : String}
/-- the entry of a method -/
theorem z_met {y : MethodName} {cc : ByteArray} {maxL : Nat} {ret : Option FieldType} {rm : Room} {av : List Value} {Qc : Array Value → State → Outcome → State → Prop} {free : Addr → Prop} (ho : zOk w) (hy : plainName y.cls = true) (hm : (lg_sl av).length ≤ maxL)
    (body : ∀ (p : Program) (e : Env) (s : State) (m : MethodId) (below : List Frame) (meth : Method) (c : Code), zG w p s m c av.toArray cc y.cls maxL → meth.sig.returnType = ret → meth.locks = false → zH w s M s.heap [] → ∀ ls : Array Slot, lv_has ls maxL (lv_args 0 av) →
      W p l e rm s m av.toArray below meth c s.heap [] 0 0 (MQ below Qc av.toArray s 0 0 free) (F0 m 0 ls [])) : Met l y (Cond.code y cc maxL ret :: zU) rm (zPre w M av) Qc 0 0 free := by
  refine Met.ofW (cc := cc) (maxL := maxL) (ret := ret) hy rfl ?_
  intro p e s m args below meth c s₁ B hml hv
  obtain ⟨rfl, hP, hK, hE⟩ := hv
  have hts := atoms_spec (ws := Cond.code y cc maxL ret :: zU) B.pre
  have hown : s.vm.findClass y.cls = some m.cls := findClass_of_methodNamed B.named
  rw [lg_entry_eq]
  exact body p e s m below meth c ⟨B.exec, B.bytes, hml, hown, fun u hu => hts u (List.mem_cons_of_mem _ hu), hK, ho, hE⟩ B.returns B.notSynchronized ⟨hP, va_S.rf⟩ _ (lv_entry av hm)
/-- the receiver -/
theorem z_recv {ci Nf k : Nat} {C : String} {T : u_T} {fs : zM → List Value} (G : zG w p s m c args cc own nL) (hP : zP w M H) (hO : zOB w k ci fs) (hc : vwCl[ci]? = some (C, T, Nf)) : ∃ cell : Cell, H[za w k]? = some cell ∧ cell.vm.isStatics = false ∧ s.vm.findClass C = some cell.cls :=
  va_recv (q := (C, T, Nf)) (q0 := k) (ci := ci) (fs := fs M) G.K hP hc (by rw [zL_at hO.1, hO.2])
variable {y : MethodName} {bytes : ByteArray} {maxL n idx k ci Nf : Nat} {ret : Option FieldType} {rm : Room} {Qc : Array Value → State → Outcome → State → Prop} {free : Addr → Prop} {C : String} {T : u_T} {fs : zM → List Value} {As : List Value} {st0 : List Value}
theorem z_runV (G : zG w p s m c args cc own nL) (hH : zH w s M H locs) (hsz : ls.size = nL) (hM : Met l y (Cond.code y bytes maxL ret :: zU) rm (zPre w M (.ref (za w k) :: As)) Qc 0 0 free) (hO : zOB w k ci fs) (hc : vwCl[ci]? = some (C, T, Nf)) (ha : zAr y C n)
    (h1 : Cond.methodLink own idx y ∈ zU) (h2 : Cond.instanceMethod y ∈ zU) (h3 : Cond.selects C y y ∈ zU) (h4 : Cond.initialized C ∈ zU) (h5 : Cond.code y bytes maxL ret ∈ zU) (hrc : rm.cells = 0) (hrs : rm.slots = 0) (hn : As.length = n) (hR1 : rm.frames + 1 ≤ R.frames) (hR2 : 8 + (maxL + 11) + rm.locals ≤ R.locals)
    (hst : st0 = As.reverse ++ .ref (za w k) :: rest) (hW : (rest.map fun v => v.category).sum ≤ 8) (hdg : decode cc pc = .ok (.invokevirtual idx, 3)) : va_Run p l e R s m args below meth c H locs 0 0 0 0 (F0 m pc ls st0) rest (Qc (Value.ref (za w k) :: As).toArray) free := by
  obtain ⟨a1, a2⟩ := ha
  have hcb : CallB R s args own idx y bytes maxL ret (Cond.code y bytes maxL ret :: zU) rm 0 0 n := callB_of n G.2.2.2.2.1 (z_goodU h5) rfl hrc hrs (by rw [a1]; exact G.t h4) (G.t h1) a2 ⟨hR1, hR2⟩
  exact va_runV (g := F0 m pc ls st0) G.f hM ⟨hcb, G.t h2, G.t h3⟩ ⟨zPre.blind G.k, z_recv G hH.1 hO hc, zPre.at _ G hH⟩ rfl hn hsz hst (lv_room hW) hdg ⟨Nat.zero_le _, Nat.zero_le _⟩
theorem z_runS (G : zG w p s m c args cc own nL) (hH : zH w s M H locs) (hsz : ls.size = nL) (hM : Met l y (Cond.code y bytes maxL ret :: zU) rm (zPre w M As) Qc 0 0 free) (ha : zAr y C n)
    (h1 : Cond.methodLink own idx y ∈ zU) (h2 : Cond.static y ∈ zU) (h4 : Cond.initialized C ∈ zU) (h5 : Cond.code y bytes maxL ret ∈ zU) (hrc : rm.cells = 0) (hrs : rm.slots = 0) (hn : As.length = n) (hR1 : rm.frames + 1 ≤ R.frames) (hR2 : 8 + (maxL + 11) + rm.locals ≤ R.locals)
    (hst : st0 = As.reverse ++ rest) (hW : (rest.map fun v => v.category).sum ≤ 8) (hdg : decode cc pc = .ok (.invokestatic idx, 3)) : va_Run p l e R s m args below meth c H locs 0 0 0 0 (F0 m pc ls st0) rest (Qc As.toArray) free := by
  obtain ⟨a1, a2⟩ := ha
  have hcb : CallB R s args own idx y bytes maxL ret (Cond.code y bytes maxL ret :: zU) rm 0 0 n := callB_of n G.2.2.2.2.1 (z_goodU h5) rfl hrc hrs (by rw [a1]; exact G.t h4) (G.t h1) a2 ⟨hR1, hR2⟩
  exact va_runS (g := F0 m pc ls st0) G.f hM ⟨hcb, G.t h2⟩ ⟨zPre.blind G.k, zPre.at _ G hH⟩ rfl hn hsz hst (lv_room hW) hdg ⟨Nat.zero_le _, Nat.zero_le _⟩
/-- super.m(..) -/
theorem z_runSU (G : zG w p s m c args cc own nL) (hH : zH w s M H locs) (hsz : ls.size = nL) (hM : Met l y (Cond.code y bytes maxL ret :: zU) rm (zPre w M (.ref (za w k) :: As)) Qc 0 0 free) (hO : zOB w k ci fs) (hc : vwCl[ci]? = some (C, T, Nf)) {S : String} (ha : zAr y S n) (hno : y.name ≠ "<init>")
    (h1 : Cond.methodLink own idx y ∈ zU) (h2 : Cond.sameMethod y.cls y.cls y.name y.desc ∈ zU) (h3 : Cond.superclass own y.cls ∈ zU) (h6 : Cond.instanceMethod y ∈ zU) (h4 : Cond.initialized S ∈ zU) (h5 : Cond.code y bytes maxL ret ∈ zU) (hrc : rm.cells = 0) (hrs : rm.slots = 0) (hn : As.length = n) (hR1 : rm.frames + 1 ≤ R.frames) (hR2 : 8 + (maxL + 11) + rm.locals ≤ R.locals)
    (hst : st0 = As.reverse ++ .ref (za w k) :: rest) (hW : (rest.map fun v => v.category).sum ≤ 8) (hdg : decode cc pc = .ok (.invokespecial idx, 3)) : va_Run p l e R s m args below meth c H locs 0 0 0 0 (F0 m pc ls st0) rest (Qc (Value.ref (za w k) :: As).toArray) free := by
  obtain ⟨a1, a2, a3, a4⟩ := ha
  have hG : GoodIn zU (Cond.code y bytes maxL ret :: zU) := z_goodU h5
  refine va_runSU (C := C) (cC := (zD w).1 ci) (g := F0 m pc ls st0) (G.K.1 ci _ hc).2 G.f hM ⟨⟨hrc, hrs, hR1, hR2, pay_in G.2.2.2.2.1 hG, List.mem_cons_self⟩, G.t h1, G.t h2, G.t h3, G.t h6, by rw [a1]; exact G.t h4, G.t h5, hno, fun sig h => ?_⟩ ⟨zPre.blind G.k, z_recv G hH.1 hO hc, zPre.at _ G hH⟩ rfl hn hsz hst (lv_room hW) hdg ⟨Nat.zero_le _, Nat.zero_le _⟩
  rw [h] at a4
  exact (Option.some.inj a4).symm
/-- a virtual call: the reference names x, of the class owner; the receiver's class C selects y -/
theorem z_runO {x : MethodName} {owner S : String} {b0 : ByteArray} {m0 : Nat} {r0 : Option FieldType} (G : zG w p s m c args cc own nL) (hH : zH w s M H locs) (hsz : ls.size = nL) (hM : Met l y (Cond.code y bytes maxL ret :: zU) rm (zPre w M (.ref (za w k) :: As)) Qc 0 0 free) (hO : zOB w k ci fs) (hc : vwCl[ci]? = some (C, T, Nf)) (ha : zAr x owner n) (hy : y.cls = S)
    (h1 : Cond.methodLink own idx x ∈ zU) (h2 : Cond.sameMethod x.cls owner x.name x.desc ∈ zU) (h3 : Cond.selects C x y ∈ zU) (h6 : Cond.instanceMethod y ∈ zU) (h7 : Cond.instanceMethod ⟨owner, x.name, x.desc⟩ ∈ zU) (h8 : Cond.code ⟨owner, x.name, x.desc⟩ b0 m0 r0 ∈ zU) (h4 : Cond.initialized S ∈ zU) (h5 : Cond.code y bytes maxL ret ∈ zU) (hrc : rm.cells = 0) (hrs : rm.slots = 0) (hn : As.length = n) (hR1 : rm.frames + 1 ≤ R.frames) (hR2 : 8 + (maxL + 11) + rm.locals ≤ R.locals)
    (hst : st0 = As.reverse ++ .ref (za w k) :: rest) (hW : (rest.map fun v => v.category).sum ≤ 8) (hdg : decode cc pc = .ok (.invokevirtual idx, 3)) : va_Run p l e R s m args below meth c H locs 0 0 0 0 (F0 m pc ls st0) rest (Qc (Value.ref (za w k) :: As).toArray) free := by
  obtain ⟨a1, a2, a3, a4⟩ := ha
  have hG : GoodIn zU (Cond.code y bytes maxL ret :: zU) := z_goodU h5
  refine va_runU (C := C) (owner := owner) (g := F0 m pc ls st0) G.f hM ⟨⟨hrc, hrs, hR1, hR2, pay_in G.2.2.2.2.1 hG, List.mem_cons_self⟩, G.t h5, by rw [hy]; exact G.t h4, by rw [← a1]; exact ⟨a2, a3⟩, fun sig h => ?_, G.t h1, G.t h2, va_Decl.of (G.t h7) (G.t h8), G.t h3, G.t h6⟩ ⟨zPre.blind G.k, z_recv G hH.1 hO hc, zPre.at _ G hH⟩ rfl hn hsz hst (lv_room hW) hdg ⟨Nat.zero_le _, Nat.zero_le _⟩
  rw [h] at a4
  exact (Option.some.inj a4).symm
variable {ov : Option Value} {M' : zM} {a : Array Value}
/-- behind a call that may write -/
theorem z_aft (hr : va_Run p l e R s m args below meth c H locs 0 0 0 0 (F0 m pc ls st0) rest (zQ w ov M' a) (zA w)) (hH : zH w s M H locs)
    (kk : ∀ (H1 : Heap) (locs1 : List Loc), zH w s M' H1 locs1 → W p l e R s m args below meth c H1 locs1 0 0 Q (F0 m (pc + 3) ls (ov.toList ++ rest))) : W p l e R s m args below meth c H locs 0 0 Q (F0 m pc ls st0) := by
  intro T hT X
  obtain ⟨v, st₀, t, T', L, h0, X', hL, e1, e2, ⟨hv, hp, hz, hk⟩, st⟩ := hr T hT X
  cases hv
  rw [h0] at hz hk
  have hS := hH.2
  obtain ⟨t2, a1, b1⟩ := kk T'.heap (locs ++ L) ⟨by rw [e1]; exact hp, Nat.le_trans hS.1 (by rw [e1]; exact hz), fun q h1 h2 => by rw [e1, hk q (Nat.lt_of_lt_of_le h1 hS.1) h2]; exact hS.2.1 q h1 h2, fun q hq => by
      rcases List.mem_append.mp hq with h | h
      · exact hS.2.2 q h
      · exact hL q h⟩ T' rfl X'
  exact ⟨t2, st t2 a1, b1⟩
theorem z_aftI {r : Int32} (hr : va_Run p l e R s m args below meth c H locs 0 0 0 0 (F0 m pc ls st0) rest (zQ w (some (.int r)) M' a) (zA w)) (hH : zH w s M H locs)
    (kk : ∀ (H1 : Heap) (locs1 : List Loc), zH w s M' H1 locs1 → W p l e R s m args below meth c H1 locs1 0 0 Q (F0 m (pc + 3) ls (.int r :: rest))) : W p l e R s m args below meth c H locs 0 0 Q (F0 m pc ls st0) := z_aft hr hH kk
theorem z_aftL {r : Int64} (hr : va_Run p l e R s m args below meth c H locs 0 0 0 0 (F0 m pc ls st0) rest (zQ w (some (.long r)) M' a) (zA w)) (hH : zH w s M H locs)
    (kk : ∀ (H1 : Heap) (locs1 : List Loc), zH w s M' H1 locs1 → W p l e R s m args below meth c H1 locs1 0 0 Q (F0 m (pc + 3) ls (.long r :: rest))) : W p l e R s m args below meth c H locs 0 0 Q (F0 m pc ls st0) := z_aft hr hH kk
theorem z_aftV (hr : va_Run p l e R s m args below meth c H locs 0 0 0 0 (F0 m pc ls st0) rest (zQ w none M' a) (zA w)) (hH : zH w s M H locs)
    (kk : ∀ (H1 : Heap) (locs1 : List Loc), zH w s M' H1 locs1 → W p l e R s m args below meth c H1 locs1 0 0 Q (F0 m (pc + 3) ls rest)) : W p l e R s m args below meth c H locs 0 0 Q (F0 m pc ls st0) := z_aft hr hH kk
/-- behind a call that only reads -/
theorem z_rd (hr : va_Run p l e R s m args below meth c H locs 0 0 0 0 (F0 m pc ls st0) rest (zR ov a) zNo)
    (kk : W p l e R s m args below meth c H locs 0 0 Q (F0 m (pc + 3) ls (ov.toList ++ rest))) : W p l e R s m args below meth c H locs 0 0 Q (F0 m pc ls st0) := by
  intro T hT X
  obtain ⟨v, st₀, t, T', L, h0, X', hL, e1, e2, ⟨hv, hh⟩, st⟩ := hr T hT X
  cases hv
  obtain ⟨t2, a1, b1⟩ := kk T' (by rw [e1, hh, h0]) (Stand.forget X' (fun q h => (hL q h).elim))
  exact ⟨t2, st t2 a1, b1⟩
theorem z_rdI {r : Int32} (hr : va_Run p l e R s m args below meth c H locs 0 0 0 0 (F0 m pc ls st0) rest (zR (some (.int r)) a) zNo)
    (kk : W p l e R s m args below meth c H locs 0 0 Q (F0 m (pc + 3) ls (.int r :: rest))) : W p l e R s m args below meth c H locs 0 0 Q (F0 m pc ls st0) := z_rd hr kk
theorem z_rdL {r : Int64} (hr : va_Run p l e R s m args below meth c H locs 0 0 0 0 (F0 m pc ls st0) rest (zR (some (.long r)) a) zNo)
    (kk : W p l e R s m args below meth c H locs 0 0 Q (F0 m (pc + 3) ls (.long r :: rest))) : W p l e R s m args below meth c H locs 0 0 Q (F0 m pc ls st0) := z_rd hr kk
theorem z_rdA {r : Nat} (hr : va_Run p l e R s m args below meth c H locs 0 0 0 0 (F0 m pc ls st0) rest (zR (some (.ref r)) a) zNo)
    (kk : W p l e R s m args below meth c H locs 0 0 Q (F0 m (pc + 3) ls (.ref r :: rest))) : W p l e R s m args below meth c H locs 0 0 Q (F0 m pc ls st0) := z_rd hr kk
theorem z_rdV (hr : va_Run p l e R s m args below meth c H locs 0 0 0 0 (F0 m pc ls st0) rest (zR none a) zNo)
    (kk : W p l e R s m args below meth c H locs 0 0 Q (F0 m (pc + 3) ls rest)) : W p l e R s m args below meth c H locs 0 0 Q (F0 m pc ls st0) := z_rd hr kk
/-- the ends -/
theorem z_end (hH : zH w s M H locs) : (∀ t : State, t.heap = H → s.WarmedH t.vm → zQ w ov M args s (.returned ov) t) ∧ ∀ q ∈ locs, zA w q.base :=
  ⟨fun t ht _ => ⟨rfl, by rw [ht]; exact hH.1, hH.2.F ht⟩, hH.2.2.2⟩
theorem z_retI {v r : Int32} (G : zG w p s m c args cc own nL) (hr : meth.sig.returnType = some .int) (hlk : meth.locks = false) (hH : zH w s M H locs) (h : some (v, M) = some (r, M')) (hdg : decode cc pc = .ok (.ireturn, 1)) : W p l e R s m args below meth c H locs 0 0 (MQ below (zQ w (some (.int r)) M') args s 0 0 (zA w)) (F0 m pc ls [.int v]) := by
  obtain ⟨rfl, rfl⟩ := Prod.mk.inj (Option.some.inj h)
  exact W.iret G.x G.b hr (z_end hH).1 hH.2.2.2 hdg hlk
theorem z_retZ {v r : Int32} (G : zG w p s m c args cc own nL) (hr : meth.sig.returnType = some .boolean) (hlk : meth.locks = false) (hH : zH w s M H locs) (h : (zbl v).bind (fun v => some (v, M)) = some (r, M')) (hdg : decode cc pc = .ok (.ireturn, 1)) : W p l e R s m args below meth c H locs 0 0 (MQ below (zQ w (some (.int r)) M') args s 0 0 (zA w)) (F0 m pc ls [.int v]) := by
  obtain ⟨u, h1, h⟩ := z_bind h
  obtain ⟨h2, rfl⟩ := zbl_some h1
  obtain ⟨rfl, rfl⟩ := Prod.mk.inj (Option.some.inj h)
  exact W.zret G.x G.b hr (by simp [narrow, h2]) (z_end hH).1 hH.2.2.2 hdg hlk
theorem z_retL {v r : Int64} (G : zG w p s m c args cc own nL) (hr : meth.sig.returnType = some .long) (hlk : meth.locks = false) (hH : zH w s M H locs) (h : some (v, M) = some (r, M')) (hdg : decode cc pc = .ok (.lreturn, 1)) : W p l e R s m args below meth c H locs 0 0 (MQ below (zQ w (some (.long r)) M') args s 0 0 (zA w)) (F0 m pc ls [.long v]) := by
  obtain ⟨rfl, rfl⟩ := Prod.mk.inj (Option.some.inj h)
  exact W.lret G.x G.b hr (z_end hH).1 hH.2.2.2 hdg hlk
theorem z_retV (G : zG w p s m c args cc own nL) (hr : meth.sig.returnType = none) (hlk : meth.locks = false) (hH : zH w s M H locs) (h : some M = some M') (hdg : decode cc pc = .ok (.return_, 1)) : W p l e R s m args below meth c H locs 0 0 (MQ below (zQ w none M') args s 0 0 (zA w)) (F0 m pc ls []) := by
  obtain rfl := Option.some.inj h
  exact W.vret G.x G.b hr (z_end hH).1 hH.2.2.2 hdg hlk
theorem z_endR : (∀ t : State, t.heap = s.heap → s.WarmedH t.vm → zR ov args s (.returned ov) t) ∧ ∀ q ∈ ([] : List Loc), zNo q.base := ⟨fun t ht _ => ⟨rfl, ht⟩, fun q h => by cases h⟩
theorem z_rtI {v r : Int32} (G : zG w p s m c args cc own nL) (hr : meth.sig.returnType = some .int) (hlk : meth.locks = false) (h : some v = some r) (hdg : decode cc pc = .ok (.ireturn, 1)) : W p l e R s m args below meth c s.heap [] 0 0 (MQ below (zR (some (.int r))) args s 0 0 zNo) (F0 m pc ls [.int v]) := by
  obtain rfl := Option.some.inj h
  exact W.iret G.x G.b hr z_endR.1 (z_endR (args := args) (s := s) (ov := none)).2 hdg hlk
theorem z_rtZ {v r : Int32} (G : zG w p s m c args cc own nL) (hr : meth.sig.returnType = some .boolean) (hlk : meth.locks = false) (h : zbl v = some r) (hdg : decode cc pc = .ok (.ireturn, 1)) : W p l e R s m args below meth c s.heap [] 0 0 (MQ below (zR (some (.int r))) args s 0 0 zNo) (F0 m pc ls [.int v]) := by
  obtain ⟨h2, rfl⟩ := zbl_some h
  exact W.zret G.x G.b hr (by simp [narrow, h2]) z_endR.1 (z_endR (args := args) (s := s) (ov := none)).2 hdg hlk
theorem z_rtL {v r : Int64} (G : zG w p s m c args cc own nL) (hr : meth.sig.returnType = some .long) (hlk : meth.locks = false) (h : some v = some r) (hdg : decode cc pc = .ok (.lreturn, 1)) : W p l e R s m args below meth c s.heap [] 0 0 (MQ below (zR (some (.long r))) args s 0 0 zNo) (F0 m pc ls [.long v]) := by
  obtain rfl := Option.some.inj h
  exact W.lret G.x G.b hr z_endR.1 (z_endR (args := args) (s := s) (ov := none)).2 hdg hlk
theorem z_rtV (G : zG w p s m c args cc own nL) (hr : meth.sig.returnType = none) (hlk : meth.locks = false) (hdg : decode cc pc = .ok (.return_, 1)) : W p l e R s m args below meth c s.heap [] 0 0 (MQ below (zR none) args s 0 0 zNo) (F0 m pc ls []) :=
  W.vret G.x G.b hr z_endR.1 (z_endR (args := args) (s := s) (ov := none)).2 hdg hlk
theorem z_rtA {a : Nat} {nm : String} (G : zG w p s m c args cc own nL) (hr : meth.sig.returnType = some (.object nm)) (hlk : meth.locks = false) (hdg : decode cc pc = .ok (.areturn, 1)) : W p l e R s m args below meth c s.heap [] 0 0 (MQ below (zR (some (.ref a))) args s 0 0 zNo) (F0 m pc ls [.ref a]) :=
  W.aret G.x G.b hr (Or.inl ⟨_, rfl⟩) (Or.inr ⟨_, rfl⟩) z_endR.1 (z_endR (args := args) (s := s) (ov := none)).2 hdg hlk
theorem z_rtC {v : Int32} (G : zG w p s m c args cc own nL) (hr : meth.sig.returnType = some .char) (hn : narrow .char (.int v) = .int v) (hlk : meth.locks = false) (hdg : decode cc pc = .ok (.ireturn, 1)) : W p l e R s m args below meth c s.heap [] 0 0 (MQ below (zR (some (.int v))) args s 0 0 zNo) (F0 m pc ls [.int v]) :=
  W.zret G.x G.b hr hn z_endR.1 (z_endR (args := args) (s := s) (ov := none)).2 hdg hlk
theorem z_rtB {v : Int32} (G : zG w p s m c args cc own nL) (hr : meth.sig.returnType = some .byte) (hn : narrow .byte (.int v) = .int v) (hlk : meth.locks = false) (hdg : decode cc pc = .ok (.ireturn, 1)) : W p l e R s m args below meth c s.heap [] 0 0 (MQ below (zR (some (.int v))) args s 0 0 zNo) (F0 m pc ls [.int v]) :=
  W.zret G.x G.b hr hn z_endR.1 (z_endR (args := args) (s := s) (ov := none)).2 hdg hlk
end ZC
