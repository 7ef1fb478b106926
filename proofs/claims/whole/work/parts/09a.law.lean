/-! the law: both worlds, and calls into them -/
def LA (s : State) (wC wM : zWd) (M N : zM) (H : Heap) : Prop := zP wC M H ∧ zP wM N H ∧ s.heap.size ≤ H.size ∧ ∀ q, q < s.heap.size → H[q]? = s.heap[q]?
def LF (s : State) (wC wM : zWd) : Prop := zIsC wC ∧ zIsM wM ∧ va_K (zD wC) vwCl (zt wC) s ∧ va_K (zD wM) vwCl (zt wM) s ∧ (ze wC s s.heap ∧ ze wM s s.heap) ∧ (∀ k, k < zn wC → s.heap.size ≤ za wC k) ∧ (∀ k, k < zn wM → s.heap.size ≤ za wM k) ∧ ∀ i j, i < zn wC → j < zn wM → za wC i ≠ za wM j
section ZL
variable {p : Program} {l : Launch} {e : Env} {R : Room} {s : State} {m : MethodId} {args : Array Value} {below : List Frame} {meth : Method} {c : Code} {H : Heap} {Q : State → Prop} {cells slots : Nat}
variable {cc : ByteArray} {pc nL : Nat} {ls : Array Slot} {rest : List Value} {own : String} {wC wM : zWd} {M N : zM}
theorem w_callC {M' : zM} (S : CallFix p m c cc nL s args zU own) (F : LF s wC wM) (hL : LA s wC wM M N H) (hsz : ls.size = nL) {y : MethodName} {bytes : ByteArray} {maxL n idx : Nat} {ret : Option FieldType} {rm : Room} {As st0 : List Value} {v : Value} (hM : Met l y (Cond.code y bytes maxL ret :: zU) rm (zPre wC M (.ref (za wC 0) :: As)) (zQ wC (some v) M') 0 0 (zA wC)) (ha : zAr y RX9 n)
    (h1 : Cond.methodLink own idx y ∈ zU) (h2 : Cond.instanceMethod y ∈ zU) (h3 : Cond.selects RX9 y y ∈ zU) (h5 : Cond.code y bytes maxL ret ∈ zU) (hrc : rm.cells = 0) (hrs : rm.slots = 0) (hn : As.length = n) (hR1 : rm.frames + 1 ≤ R.frames) (hR2 : 8 + (maxL + 11) + rm.locals ≤ R.locals) (hc : cells ≤ R.cells) (hs : slots ≤ R.slots)
    (hst : st0 = As.reverse ++ .ref (za wC 0) :: rest) (hW : (rest.map fun v => v.category).sum ≤ 8) (hdg : decode cc pc = .ok (.invokevirtual idx, 3)) (kk : ∀ H1 : Heap, LA s wC wM M' N H1 → W p l e R s m args below meth c H1 [] cells slots Q (F0 m (pc + 3) ls (v :: rest))) : W p l e R s m args below meth c H [] cells slots Q (F0 m pc ls st0) := by
  obtain ⟨hC, hMo, kC, kM, zeC, frC, frM, hdis⟩ := F
  obtain ⟨pC, pM, hge, hold⟩ := hL
  obtain ⟨a1, a2⟩ := ha
  have rcv := va_recv (q := (RX9, TX9, 7)) (q0 := 0) (ci := 9) (fs := fs9 wC M) kC pC vc9 (by rw [zL_at (cC0 hC).1, (cC0 hC).2])
  have run := va_runV (g := F0 m pc ls st0) (C := RX9) (b := za wC 0) (H := H) (locs := []) (cells := cells) (slots := slots) (e := e) (below := below) (meth := meth) (R := R) (As := As) (rest := rest) S hM ⟨callB_of n S.2.2.2.2 (z_goodU h5) rfl hrc hrs (by rw [a1]; exact S.2.2.2.2 _ u1) (S.2.2.2.2 _ h1) a2 ⟨hR1, hR2⟩, S.2.2.2.2 _ h2, S.2.2.2.2 _ h3⟩ ⟨zPre.blind hC.1, rcv, fun U hU hWm => ⟨rfl, by rw [hU]; exact pC, va_K.moved hWm.alike kC, hC.1.2.2.1 s U s.heap U.heap zeC.1 hWm (by rw [hU]; exact fun q g1 _ => hold q g1)⟩⟩ rfl hn hsz hst (lv_room hW) hdg ⟨hc, hs⟩
  intro T hT X
  obtain ⟨v', st₀, t, T', L, e0, X', hLl, e1, e2, ⟨hv, hp, hz, hk⟩, st⟩ := run T hT X
  cases hv
  rw [e0] at hz hk
  have frm : ∀ q ∈ L, s.heap.size ≤ q.base := fun q h => by
    obtain ⟨k, g1, g2⟩ := hLl q h
    rw [g2]; exact frC k g1
  have oth : zP wM N T'.heap := pM.kept (fun k x hx => by
    obtain ⟨g1, g2⟩ := zL_of hx
    have g3 := (pM k x hx).lt
    rw [e1]
    refine hk _ g3 (fun ⟨j, j1, j2⟩ => ?_)
    rw [g2] at j2
    exact hdis j k j1 g1 j2.symm)
  obtain ⟨t2, b1, b2⟩ := kk T'.heap ⟨by rw [e1]; exact hp, oth, Nat.le_trans hge (by rw [e1]; exact hz), fun q hq => by rw [e1, hk q (Nat.lt_of_lt_of_le hq hge) (fun ⟨j, j1, j2⟩ => by have := frC j j1; omega)]; exact hold q hq⟩ T' rfl (Stand.forget X' frm)
  exact ⟨t2, st t2 b1, b2⟩
theorem w_callM {M' : zM} (S : CallFix p m c cc nL s args zU own) (F : LF s wC wM) (hL : LA s wC wM M N H) (hsz : ls.size = nL) {y : MethodName} {bytes : ByteArray} {maxL n idx : Nat} {ret : Option FieldType} {rm : Room} {As st0 : List Value} {v : Value} (hM : Met l y (Cond.code y bytes maxL ret :: zU) rm (zPre wM N (.ref (za wM 0) :: As)) (zQ wM (some v) M') 0 0 (zA wM)) (ha : zAr y RX10 n)
    (h1 : Cond.methodLink own idx y ∈ zU) (h2 : Cond.instanceMethod y ∈ zU) (h3 : Cond.selects RX10 y y ∈ zU) (h5 : Cond.code y bytes maxL ret ∈ zU) (hrc : rm.cells = 0) (hrs : rm.slots = 0) (hn : As.length = n) (hR1 : rm.frames + 1 ≤ R.frames) (hR2 : 8 + (maxL + 11) + rm.locals ≤ R.locals) (hc : cells ≤ R.cells) (hs : slots ≤ R.slots)
    (hst : st0 = As.reverse ++ .ref (za wM 0) :: rest) (hW : (rest.map fun v => v.category).sum ≤ 8) (hdg : decode cc pc = .ok (.invokevirtual idx, 3)) (kk : ∀ H1 : Heap, LA s wC wM M M' H1 → W p l e R s m args below meth c H1 [] cells slots Q (F0 m (pc + 3) ls (v :: rest))) : W p l e R s m args below meth c H [] cells slots Q (F0 m pc ls st0) := by
  obtain ⟨hC, hMo, kC, kM, zeC, frC, frM, hdis⟩ := F
  obtain ⟨pC, pM, hge, hold⟩ := hL
  obtain ⟨a1, a2⟩ := ha
  have rcv := va_recv (q := (RX10, TX10, 16)) (q0 := 0) (ci := 10) (fs := fs10 wM N) kM pM vc10 (by rw [zL_at (mM0 hMo).1, (mM0 hMo).2])
  have run := va_runV (g := F0 m pc ls st0) (C := RX10) (b := za wM 0) (H := H) (locs := []) (cells := cells) (slots := slots) (e := e) (below := below) (meth := meth) (R := R) (As := As) (rest := rest) S hM ⟨callB_of n S.2.2.2.2 (z_goodU h5) rfl hrc hrs (by rw [a1]; exact S.2.2.2.2 _ u11) (S.2.2.2.2 _ h1) a2 ⟨hR1, hR2⟩, S.2.2.2.2 _ h2, S.2.2.2.2 _ h3⟩ ⟨zPre.blind hMo.1, rcv, fun U hU hWm => ⟨rfl, by rw [hU]; exact pM, va_K.moved hWm.alike kM, hMo.1.2.2.1 s U s.heap U.heap zeC.2 hWm (by rw [hU]; exact fun q g1 _ => hold q g1)⟩⟩ rfl hn hsz hst (lv_room hW) hdg ⟨hc, hs⟩
  intro T hT X
  obtain ⟨v', st₀, t, T', L, e0, X', hLl, e1, e2, ⟨hv, hp, hz, hk⟩, st⟩ := run T hT X
  cases hv
  rw [e0] at hz hk
  have frm : ∀ q ∈ L, s.heap.size ≤ q.base := fun q h => by
    obtain ⟨k, g1, g2⟩ := hLl q h
    rw [g2]; exact frM k g1
  have oth : zP wC M T'.heap := pC.kept (fun k x hx => by
    obtain ⟨g1, g2⟩ := zL_of hx
    have g3 := (pC k x hx).lt
    rw [e1]
    refine hk _ g3 (fun ⟨j, j1, j2⟩ => ?_)
    rw [g2] at j2
    exact hdis k j g1 j1 j2)
  obtain ⟨t2, b1, b2⟩ := kk T'.heap ⟨oth, by rw [e1]; exact hp, Nat.le_trans hge (by rw [e1]; exact hz), fun q hq => by rw [e1, hk q (Nat.lt_of_lt_of_le hq hge) (fun ⟨j, j1, j2⟩ => by have := frM j j1; omega)]; exact hold q hq⟩ T' rfl (Stand.forget X' frm)
  exact ⟨t2, st t2 b1, b2⟩
end ZL
