/-! super.m(..) where the class above inherits m: the reference names x, the code is y's -/
section ZSI
variable {p : Program} {l : Launch} {e : Env} {R : Room} {s : State} {m : MethodId} {args : Array Value} {below : List Frame} {meth : Method} {c : Code} {H : Heap} {locs : List Loc}
variable {cc : ByteArray} {pc nL : Nat} {ls : Array Slot} {rest : List Value} {w : zWd} {M : zM} {own : String}
theorem z_subOf {s : State} {A B : String} {a b : ClassId} (ha : s.vm.findClass A = some a) (hb : s.vm.findClass B = some b) (h : (Cond.superclass A B).before args s = true) : s.vm.isSubclass a b = true := by
  obtain ⟨ps, dk, kp, hps, hdk, hkp, hsuper, -, -, -⟩ := Cond.superclass_spec ha h
  have e1 : ps = b := Option.some.inj (hps.symm.trans hb)
  subst e1
  have hs : 0 < s.vm.classes.size := Nat.lt_of_le_of_lt (Nat.zero_le _) (Array.getElem?_eq_some_iff.mp hdk).1
  obtain ⟨n, hn⟩ : ∃ n, s.vm.classes.size = n + 1 := ⟨s.vm.classes.size - 1, by omega⟩
  simp [Vm.isSubclass, Vm.isSubclassAux, hn, hdk, hsuper]
theorem z_runSI {x y : MethodName} {bytes : ByteArray} {maxL n idx k ci Nf : Nat} {ret : Option FieldType} {rm : Room} {Qc : Array Value → State → Outcome → State → Prop} {free : Addr → Prop} {C : String} {T : u_T} {fs : zM → List Value} {As : List Value} {st0 : List Value} {S : String}
    (G : zG w p s m c args cc own nL) (hH : zH w s M H locs) (hsz : ls.size = nL) (hM : Met l y (Cond.code y bytes maxL ret :: zU) rm (zPre w M (.ref (za w k) :: As)) Qc 0 0 free) (hO : zOB w k ci fs) (hc : vwCl[ci]? = some (C, T, Nf)) (ha : zAr y S n) (hnm : x.name = y.name) (hds : x.desc = y.desc) (hno : x.name ≠ "<init>")
    (h1 : Cond.methodLink own idx x ∈ zU) (h2 : Cond.sameMethod x.cls y.cls x.name x.desc ∈ zU) (h3 : Cond.superclass own x.cls ∈ zU) (h7 : Cond.superclass x.cls y.cls ∈ zU) (h6 : Cond.instanceMethod y ∈ zU) (h4 : Cond.initialized S ∈ zU) (h5 : Cond.code y bytes maxL ret ∈ zU) (hrc : rm.cells = 0) (hrs : rm.slots = 0) (hn : As.length = n) (hR1 : rm.frames + 1 ≤ R.frames) (hR2 : 8 + (maxL + 11) + rm.locals ≤ R.locals)
    (hst : st0 = As.reverse ++ .ref (za w k) :: rest) (hW : (rest.map fun v => v.category).sum ≤ 8) (hdg : decode cc pc = .ok (.invokespecial idx, 3)) : va_Run p l e R s m args below meth c H locs 0 0 0 0 (F0 m pc ls st0) rest (Qc (Value.ref (za w k) :: As).toArray) free := by
  obtain ⟨a1, a2, a3, a4⟩ := ha
  have hG : GoodIn zU (Cond.code y bytes maxL ret :: zU) := z_goodU h5
  have hK : Back l R p e below s args y 3 8 (PreOf R 0 0 (zPre w M (.ref (za w k) :: As))) (PostOf Qc 0 0 free) := back_of (bytes := bytes) (maxL := maxL) (ret := ret) hM (zPre.blind G.k) hrc hrs hR1 hR2 (pay_in G.2.2.2.2.1 hG) List.mem_cons_self (fun a' U hW => word_at hW (Or.inl (by first | rfl | simp [Cond.onTables, Cond.keeps, Cond.steady])) (by rw [a1]; exact G.t h4))
  obtain ⟨cellB, hcB, hoB, hclB⟩ := z_recv G hH.1 hO hc
  obtain ⟨hfc, kB, hkB, -⟩ := (G.K.1 ci _ hc).2
  have hkB : s.vm.classes[cellB.cls]? = some kB := by rw [← Option.some.inj (hfc.symm.trans hclB)]; exact hkB
  intro T hT X
  obtain ⟨mk, methM, hnamed, hmethM, hstM, habM⟩ := Cond.instanceMethod_spec (G.t h6)
  obtain ⟨methM', cM, hmethM', -, -, -, -, -, -, hsigM⟩ := Cond.code_spec hnamed (G.t h5)
  cases hmethM.symm.trans hmethM'
  obtain ⟨ps, dk, kp, hps, hdk, hkp, hsuper, -, -, hnid⟩ := Cond.superclass_spec G.o (G.t h3)
  have hn' : s.methodNamed? ⟨y.cls, x.name, x.desc⟩ = some mk := by rw [hnm, hds]; exact hnamed
  have hsub : s.vm.isSubclass ps mk.cls = true := z_subOf hps (findClass_of_methodNamed hnamed) (G.t h7)
  have hlen : As.length = methM.sig.parameters.length := by
    rw [hsigM] at a4
    exact hn.trans (Option.some.inj a4).symm
  have hst' : (F0 m pc ls st0).stack = As.reverse ++ .ref (za w k) :: rest := hst
  have hdg' : decode c.code (F0 m pc ls st0).pc = .ok (.invokespecial idx, 3) := by rw [G.b]; exact hdg
  obtain ⟨vm₁, X₁, hstep₁⟩ := X.invokespecialUp G.x G.o (G.t h1) (G.t h2) hn' hmethM hstM habM hno hdk hnid hps hsuper hsub (a := za w k) (cell := cellB) (by rw [hT]; exact hcB)
    (fun z h => by rw [h] at hoB; cases hoB) hkB (g := F0 m pc ls st0) rfl (argsL := As) (rest := rest) hlen hst' hdg'
  obtain ⟨v, ⟨U', l2, c2, s2⟩, X', ⟨g', mk2, t, L, e1, e2, hq, q1, hL, q2, q3⟩, hsteps⟩ := hK m meth c ⟨T.setVm vm₁, locs, 0, 0⟩ { (F0 m pc ls st0) with stack := rest } (.invokespecial idx) mk (Value.ref (za w k) :: As).toArray X₁ rfl (hsz.trans G.ml.symm) hdg' (lv_room hW) (X₁.named hnamed) ⟨Nat.zero_le _, Nat.zero_le _, zPre.at _ G hH (T.setVm vm₁) hT X₁.warmed⟩
  dsimp only [Pt.U, Pt.locs, Pt.cells, Pt.slots] at X' e1 e2 q1 q2 q3 hsteps
  subst q1; subst q2; subst q3
  exact ⟨v, (T.setVm vm₁).calling g' mk2 (Value.ref (za w k) :: As).toArray, t, U', L, hT, X', hL, e1, e2, hq, fun target h => hstep₁ _ (by rw [doInvoke_state]; exact hsteps.trans h)⟩
end ZSI
