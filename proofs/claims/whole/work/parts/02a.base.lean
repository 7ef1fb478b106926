/-! the worlds by number: a memory of ints and a memory of longs, by cell and place -/
abbrev zM : Type := (Nat → Nat → Int32) × (Nat → Nat → Int64)
def zst (M : zM) (k j : Nat) (v : Int32) : zM := (fun a b => if a = k ∧ b = j then v else M.1 a b, M.2)
def zstL (M : zM) (k j : Nat) (v : Int64) : zM := (M.1, fun a b => if a = k ∧ b = j then v else M.2 a b)
def zcp (M : zM) (k0 k1 sp dp n : Nat) : zM := (fun a b => if a = k1 then va_cpy (M.1 k0) (M.1 k1) sp dp n b else M.1 a b, M.2)
def zcpL (M : zM) (k0 k1 sp dp n : Nat) : zM := (M.1, fun a b => if a = k1 then va_cpy (M.2 k0) (M.2 k1) sp dp n b else M.2 a b)
theorem zst_ne {M : zM} {k j : Nat} {v : Int32} : ∀ i, i ≠ k → (zst M k j v).1 i = M.1 i ∧ (zst M k j v).2 i = M.2 i := fun i hi => ⟨by funext b; simp [zst, hi], rfl⟩
theorem zstL_ne {M : zM} {k j : Nat} {v : Int64} : ∀ i, i ≠ k → (zstL M k j v).1 i = M.1 i ∧ (zstL M k j v).2 i = M.2 i := fun i hi => ⟨rfl, by funext b; simp [zstL, hi]⟩
theorem zcp_ne {M : zM} {k0 k1 sp dp n : Nat} : ∀ i, i ≠ k1 → (zcp M k0 k1 sp dp n).1 i = M.1 i ∧ (zcp M k0 k1 sp dp n).2 i = M.2 i := fun i hi => ⟨by funext b; simp [zcp, hi], rfl⟩
theorem zcpL_ne {M : zM} {k0 k1 sp dp n : Nat} : ∀ i, i ≠ k1 → (zcpL M k0 k1 sp dp n).1 i = M.1 i ∧ (zcpL M k0 k1 sp dp n).2 i = M.2 i := fun i hi => ⟨rfl, by funext b; simp [zcpL, hi]⟩
theorem zst_at {M : zM} {k j : Nat} {v : Int32} : (zst M k j v).1 k = upd (M.1 k) j v := by
  funext b
  by_cases h : b = j <;> simp [zst, upd, h]
theorem zstL_at {M : zM} {k j : Nat} {v : Int64} : (zstL M k j v).2 k = vp_updL (M.2 k) j v := by
  funext b
  by_cases h : b = j <;> simp [zstL, vp_updL, h]
theorem zcp_at {M : zM} {k0 k1 sp dp n : Nat} : (zcp M k0 k1 sp dp n).1 k1 = va_cpy (M.1 k0) (M.1 k1) sp dp n := by funext b; simp [zcp]
theorem zcpL_at {M : zM} {k0 k1 sp dp n : Nat} : (zcpL M k0 k1 sp dp n).2 k1 = va_cpy (M.2 k0) (M.2 k1) sp dp n := by funext b; simp [zcpL]
/-- a place of a row of n -/
def zix (i : Int32) (n : Nat) : Option Nat := if i < 0 ∨ n ≤ i.toNatClampNeg then none else some i.toNatClampNeg
theorem zix_some {i : Int32} {n j : Nat} (h : zix i n = some j) : vp_in i n ∧ i.toNatClampNeg = j := by
  unfold zix at h
  by_cases hc : i < 0 ∨ n ≤ i.toNatClampNeg
  · rw [if_pos hc] at h; cases h
  · rw [if_neg hc] at h; exact ⟨hc, Option.some.inj h⟩
theorem zix_lt {i : Int32} {n j : Nat} (h : zix i n = some j) : j < n := by
  obtain ⟨h1, h2⟩ := zix_some h
  rw [← h2]; exact Nat.not_le.mp fun q => h1 (Or.inr q)
/-- a truth -/
def zbl (v : Int32) : Option Int32 := if v &&& 1 = v then some v else none
theorem zbl_some {v r : Int32} (h : zbl v = some r) : v &&& 1 = v ∧ v = r := by
  unfold zbl at h
  by_cases hc : v &&& 1 = v
  · rw [if_pos hc] at h; exact ⟨hc, Option.some.inj h⟩
  · rw [if_neg hc] at h; cases h
/-- a character -/
def zch (v : Int32) : Option Int32 := if (v.toUInt32 % 65536).toInt32 = v then some v else none
def zrem (x y : Int32) : Int32 := x - x / y * y
theorem z_bind {α β : Type} {x : Option α} {f : α → Option β} {b : β} (h : x.bind f = some b) : ∃ a, x = some a ∧ f a = some b := Option.bind_eq_some_iff.mp h
theorem z_let {α β : Type} {a : α} {f : α → Option β} {b : β} (h : (some a).bind f = some b) : ∃ x, x = a ∧ f x = some b := ⟨a, rfl, h⟩
theorem z_if {α : Type} {c : Prop} [Decidable c] {x y b : Option α} (hc : c) (h : (if c then x else y) = b) : x = b := by rw [if_pos hc] at h; exact h
theorem z_ifn {α : Type} {c : Prop} [Decidable c] {x y b : Option α} (hc : ¬ c) (h : (if c then x else y) = b) : y = b := by rw [if_neg hc] at h; exact h
def zFuel : Nat := 1000000
/-- a world: classes and slots, array classes, addresses, how many cells, contents by a memory, what else is known -/
abbrev zWd : Type := va_G × List (ClassId × FieldType) × (Nat → Nat) × Nat × (zM → Nat → va_E) × (State → Heap → Prop)
def zD (w : zWd) : va_G := w.1
def zt (w : zWd) : List (ClassId × FieldType) := w.2.1
def za (w : zWd) : Nat → Nat := w.2.2.1
def zn (w : zWd) : Nat := w.2.2.2.1
def zc (w : zWd) : zM → Nat → va_E := w.2.2.2.2.1
def ze (w : zWd) : State → Heap → Prop := w.2.2.2.2.2
def zA (w : zWd) : Nat → Prop := fun q => ∃ k, k < zn w ∧ q = za w k
def zL (w : zWd) (M : zM) : va_W := (List.range (zn w)).map (fun k => (za w k, zc w M k))
def zOk (w : zWd) : Prop := (∀ i j, i < zn w → j < zn w → za w i = za w j → i = j) ∧ (∀ (M M' : zM) (i : Nat), M.1 i = M'.1 i → M.2 i = M'.2 i → zc w M i = zc w M' i) ∧
  (∀ (s U : State) (H H1 : Heap), ze w s H → s.WarmedH U.vm → (∀ q, q < H.size → ¬ zA w q → H1[q]? = H[q]?) → ze w U H1) ∧ ∀ (U : State) (g : JFrame) (mk : MethodId) (a : Array Value) (H : Heap), ze w U H → ze w (U.calling g mk a) H
theorem zL_at {w : zWd} {M : zM} {k : Nat} (hk : k < zn w) : (zL w M)[k]? = some (za w k, zc w M k) := by
  simp [zL, hk]
theorem zL_of {w : zWd} {M : zM} {k : Nat} {q : Nat × va_E} (h : (zL w M)[k]? = some q) : k < zn w ∧ q = (za w k, zc w M k) := by
  have hk : k < zn w := by
    have := (List.getElem?_eq_some_iff.mp h).1
    simpa [zL] using this
  rw [zL_at hk] at h
  exact ⟨hk, (Option.some.inj h).symm⟩
theorem zL_set {w : zWd} (ho : zOk w) {M M' : zM} {k : Nat} {e : va_E} (hk : k < zn w) (he : zc w M' k = e) (hne : ∀ i, i ≠ k → M'.1 i = M.1 i ∧ M'.2 i = M.2 i) : (zL w M).set k (za w k, e) = zL w M' := by
  apply List.ext_getElem?
  intro i
  by_cases hi : i = k
  · subst hi
    rw [List.getElem?_set_self (by simpa [zL] using hk), zL_at hk, he]
  · rw [List.getElem?_set_ne (Ne.symm hi)]
    by_cases hl : i < zn w
    · rw [zL_at hl, zL_at hl, ho.2.1 M' M i (hne i hi).1 (hne i hi).2]
    · rw [List.getElem?_eq_none (by simp [zL]; omega), List.getElem?_eq_none (by simp [zL]; omega)]
theorem zL_D {w : zWd} (ho : zOk w) (M : zM) : va_D (zA w) (zL w M) := by
  refine ⟨fun i j x y hi hj hxy => ?_, fun k q hk => ?_⟩
  · obtain ⟨h1, rfl⟩ := zL_of hi
    obtain ⟨h2, rfl⟩ := zL_of hj
    exact ho.1 i j h1 h2 hxy
  · obtain ⟨h1, rfl⟩ := zL_of hk
    exact ⟨k, h1, rfl⟩
def zP (w : zWd) (M : zM) (H : Heap) : Prop := va_P (zD w) vwCl (zL w M) H
def zH (w : zWd) (s : State) (M : zM) (H : Heap) (locs : List Loc) : Prop := zP w M H ∧ va_S (zA w) s.heap H locs
def zG (w : zWd) (p : Program) (s : State) (m : MethodId) (c : Code) (args : Array Value) (cc : ByteArray) (own : String) (nL : Nat) : Prop :=
  p.tables.exec = Jvm.exec ∧ c.code = cc ∧ c.maxLocals = nL ∧ s.vm.findClass own = some m.cls ∧ (∀ u ∈ zU, u.before args s = true) ∧ va_K (zD w) vwCl (zt w) s ∧ zOk w ∧ ze w s s.heap
theorem zG.x {w : zWd} {p : Program} {s : State} {m : MethodId} {c : Code} {args : Array Value} {cc : ByteArray} {own : String} {nL : Nat} (G : zG w p s m c args cc own nL) : p.tables.exec = Jvm.exec := G.1
theorem zG.b {w : zWd} {p : Program} {s : State} {m : MethodId} {c : Code} {args : Array Value} {cc : ByteArray} {own : String} {nL : Nat} (G : zG w p s m c args cc own nL) : c.code = cc := G.2.1
theorem zG.ml {w : zWd} {p : Program} {s : State} {m : MethodId} {c : Code} {args : Array Value} {cc : ByteArray} {own : String} {nL : Nat} (G : zG w p s m c args cc own nL) : c.maxLocals = nL := G.2.2.1
theorem zG.o {w : zWd} {p : Program} {s : State} {m : MethodId} {c : Code} {args : Array Value} {cc : ByteArray} {own : String} {nL : Nat} (G : zG w p s m c args cc own nL) : s.vm.findClass own = some m.cls := G.2.2.2.1
theorem zG.t {w : zWd} {p : Program} {s : State} {m : MethodId} {c : Code} {args : Array Value} {cc : ByteArray} {own : String} {nL : Nat} (G : zG w p s m c args cc own nL) {u : Cond} (h : u ∈ zU) : u.before args s = true := G.2.2.2.2.1 u h
theorem zG.K {w : zWd} {p : Program} {s : State} {m : MethodId} {c : Code} {args : Array Value} {cc : ByteArray} {own : String} {nL : Nat} (G : zG w p s m c args cc own nL) : va_K (zD w) vwCl (zt w) s := G.2.2.2.2.2.1
theorem zG.k {w : zWd} {p : Program} {s : State} {m : MethodId} {c : Code} {args : Array Value} {cc : ByteArray} {own : String} {nL : Nat} (G : zG w p s m c args cc own nL) : zOk w := G.2.2.2.2.2.2.1
theorem zG.e {w : zWd} {p : Program} {s : State} {m : MethodId} {c : Code} {args : Array Value} {cc : ByteArray} {own : String} {nL : Nat} (G : zG w p s m c args cc own nL) : ze w s s.heap := G.2.2.2.2.2.2.2
theorem zG.f {w : zWd} {p : Program} {s : State} {m : MethodId} {c : Code} {args : Array Value} {cc : ByteArray} {own : String} {nL : Nat} (G : zG w p s m c args cc own nL) : CallFix p m c cc nL s args zU own := ⟨G.1, G.2.1, G.2.2.1, G.2.2.2.1, G.2.2.2.2.1⟩
/-- what a cell is: an object, a row of ints, of longs, of references -/
def zOB (w : zWd) (k ci : Nat) (fs : zM → List Value) : Prop := k < zn w ∧ ∀ M, zc w M k = .inr (ci, fs M)
def zIA (w : zWd) (k n : Nat) : Prop := k < zn w ∧ ∃ (cA : ClassId) (t : Nat), (zt w)[t]? = some (cA, .int) ∧ ∀ M, zc w M k = .inl (cA, n, .inl (M.1 k))
def zLA (w : zWd) (k n : Nat) : Prop := k < zn w ∧ ∃ (cA : ClassId) (t : Nat), (zt w)[t]? = some (cA, .long) ∧ ∀ M, zc w M k = .inl (cA, n, .inr (.inl (M.2 k)))
def zRA (w : zWd) (k n : Nat) (r : Nat → Nat) : Prop := k < zn w ∧ ∃ (cA : ClassId) (t : Nat) (C : String), (zt w)[t]? = some (cA, .object C) ∧ ∀ M, zc w M k = .inl (cA, n, .inr (.inr (.inr (.inr (fun j => some (za w (r j)))))))
section ZR
variable {p : Program} {l : Launch} {e : Env} {R : Room} {s : State} {m : MethodId} {args : Array Value} {below : List Frame} {meth : Method} {c : Code} {H : Heap} {locs : List Loc} {Q : State → Prop}
variable {cc : ByteArray} {pc nL : Nat} {ls : Array Slot} {rest : List Value} {w : zWd} {M : zM} {own : String}
theorem z_get {ci Nf idx k : Nat} {C : String} {T : u_T} {fs : zM → List Value} {v : Value} (G : zG w p s m c args cc own nL) (hP : zP w M H) (hO : zOB w k ci fs) (hc : vwCl[ci]? = some (C, T, Nf)) (hin : ∀ u ∈ u_ws C T Nf, u ∈ zU) (j : Nat) (hj : j < Nf)
    (hl : Cond.fieldLink own idx (T j).1 (T j).2.1 (T j).2.2.1 ∈ zU) (hv : (fs M)[j]? = some v) (hdg : decode cc pc = .ok (.getfield idx, 3))
    (kk : W p l e R s m args below meth c H locs 0 0 Q (F0 m (pc + 3) ls (v :: rest))) : W p l e R s m args below meth c H locs 0 0 Q (F0 m pc ls (.ref (za w k) :: rest)) :=
  va_get (D := zD w) (ci := ci) (C := C) (T := T) (N := Nf) (Ts := zU) (ref := (T j).1) G.x G.b G.2.2.2.2.1 hin G.o G.K hP k (by rw [zL_at hO.1, hO.2]) hc j hj (G.t hl) (fun _ h => h) hv hdg kk
theorem z_put {ci Nf idx k : Nat} {C : String} {T : u_T} {fs : zM → List Value} {v : Int32} {ty : FieldType} (G : zG w p s m c args cc own nL) (hH : zH w s M H locs) (hO : zOB w k ci fs) (hc : vwCl[ci]? = some (C, T, Nf)) (hin : ∀ u ∈ u_ws C T Nf, u ∈ zU) (ty0 : Nat → FieldType) (hty : ∀ k, k < Nf → parseFieldDescriptor (T k).2.2.1 = some (ty0 k)) (hnm : ∀ a, a < Nf → ∀ b, b < Nf → a ≠ b → (T a).2.1 ≠ (T b).2.1) (j : Nat) (hj : j < Nf)
    (hl : Cond.fieldLink own idx (T j).1 (T j).2.1 (T j).2.2.1 ∈ zU) (hfin : (T j).2.2.2 = false) (hd : ty0 j = ty) (hn : narrow ty (.int v) = .int v) (hfit : fits ty (.int v) = true) (hfs : fs (zst M k j v) = (fs M).set j (.int v)) (hlen : j < (fs M).length) (hdg : decode cc pc = .ok (.putfield idx, 3))
    (kk : ∀ (H1 : Heap) (locs1 : List Loc), zH w s (zst M k j v) H1 locs1 → W p l e R s m args below meth c H1 locs1 0 0 Q (F0 m (pc + 3) ls rest)) : W p l e R s m args below meth c H locs 0 0 Q (F0 m pc ls (.int v :: .ref (za w k) :: rest)) := by
  refine va_put (D := zD w) (ci := ci) (C := C) (T := T) (N := Nf) (Ts := zU) (ref := (T j).1) (ty := ty) G.x G.b G.2.2.2.2.1 hin ty0 hty hnm G.o G.K hH.1 (zL_D G.k M) hH.2 k (by rw [zL_at hO.1, hO.2]) hc j hj (G.t hl) (fun _ h => h) hfin (by rw [hty j hj, hd]) hn hfit hlen hdg (fun H1 locs1 hP hD hS => ?_)
  refine kk H1 locs1 ⟨?_, hS⟩
  rw [zL_set G.k (M' := zst M k j v) hO.1 (by rw [hO.2, hfs]) zst_ne] at hP
  exact hP
theorem z_iald {k n j : Nat} {i : Int32} (G : zG w p s m c args cc own nL) (hP : zP w M H) (hA : zIA w k n) (hj : zix i n = some j) (hdg : decode cc pc = .ok (.iaload, 1))
    (kk : W p l e R s m args below meth c H locs 0 0 Q (F0 m (pc + 1) ls (.int (M.1 k j) :: rest))) : W p l e R s m args below meth c H locs 0 0 Q (F0 m pc ls (.int i :: .ref (za w k) :: rest)) := by
  obtain ⟨hk, cA, t, ht, hA⟩ := hA
  obtain ⟨h1, h2⟩ := zix_some hj
  refine va_iald (D := zD w) G.x G.b G.K hP k t (f := M.1 k) (by rw [zL_at hk, hA]) ht h1 hdg ?_
  rw [h2]; exact kk
theorem z_lald {k n j : Nat} {i : Int32} (G : zG w p s m c args cc own nL) (hP : zP w M H) (hA : zLA w k n) (hj : zix i n = some j) (hdg : decode cc pc = .ok (.laload, 1))
    (kk : W p l e R s m args below meth c H locs 0 0 Q (F0 m (pc + 1) ls (.long (M.2 k j) :: rest))) : W p l e R s m args below meth c H locs 0 0 Q (F0 m pc ls (.int i :: .ref (za w k) :: rest)) := by
  obtain ⟨hk, cA, t, ht, hA⟩ := hA
  obtain ⟨h1, h2⟩ := zix_some hj
  refine va_lald (D := zD w) G.x G.b G.K hP k t (f := M.2 k) (by rw [zL_at hk, hA]) ht h1 hdg ?_
  rw [h2]; exact kk
theorem z_aald {k n j : Nat} {i : Int32} {r : Nat → Nat} (G : zG w p s m c args cc own nL) (hP : zP w M H) (hA : zRA w k n r) (hj : zix i n = some j) (hdg : decode cc pc = .ok (.aaload, 1))
    (kk : W p l e R s m args below meth c H locs 0 0 Q (F0 m (pc + 1) ls (.ref (za w (r j)) :: rest))) : W p l e R s m args below meth c H locs 0 0 Q (F0 m pc ls (.int i :: .ref (za w k) :: rest)) := by
  obtain ⟨hk, cA, t, C, ht, hA⟩ := hA
  obtain ⟨h1, h2⟩ := zix_some hj
  refine va_aldq (D := zD w) G.x G.b G.K hP k t (C := C) (f := fun j => some (za w (r j))) (by rw [zL_at hk, hA]) ht h1 hdg ?_
  rw [h2]; exact kk
theorem z_iast {k n j : Nat} {i v : Int32} (G : zG w p s m c args cc own nL) (hH : zH w s M H locs) (hA : zIA w k n) (hj : zix i n = some j) (hdg : decode cc pc = .ok (.iastore, 1))
    (kk : ∀ (H1 : Heap) (locs1 : List Loc), zH w s (zst M k j v) H1 locs1 → W p l e R s m args below meth c H1 locs1 0 0 Q (F0 m (pc + 1) ls rest)) : W p l e R s m args below meth c H locs 0 0 Q (F0 m pc ls (.int v :: .int i :: .ref (za w k) :: rest)) := by
  obtain ⟨hk, cA, t, ht, hA⟩ := hA
  obtain ⟨h1, h2⟩ := zix_some hj
  refine va_iast (D := zD w) G.x G.b G.K hH.1 (zL_D G.k M) hH.2 k t (f := M.1 k) (by rw [zL_at hk, hA]) ht h1 hdg (fun H1 locs1 hP hD hS => kk H1 locs1 ⟨?_, hS⟩)
  rw [zL_set G.k (M' := zst M k j v) hk (by rw [hA, zst_at, h2]) zst_ne] at hP
  exact hP
theorem z_last {k n j : Nat} {i : Int32} {v : Int64} (G : zG w p s m c args cc own nL) (hH : zH w s M H locs) (hA : zLA w k n) (hj : zix i n = some j) (hdg : decode cc pc = .ok (.lastore, 1))
    (kk : ∀ (H1 : Heap) (locs1 : List Loc), zH w s (zstL M k j v) H1 locs1 → W p l e R s m args below meth c H1 locs1 0 0 Q (F0 m (pc + 1) ls rest)) : W p l e R s m args below meth c H locs 0 0 Q (F0 m pc ls (.long v :: .int i :: .ref (za w k) :: rest)) := by
  obtain ⟨hk, cA, t, ht, hA⟩ := hA
  obtain ⟨h1, h2⟩ := zix_some hj
  refine va_last (D := zD w) G.x G.b G.K hH.1 (zL_D G.k M) hH.2 k t (f := M.2 k) (by rw [zL_at hk, hA]) ht h1 hdg (fun H1 locs1 hP hD hS => kk H1 locs1 ⟨?_, hS⟩)
  rw [zL_set G.k (M' := zstL M k j v) hk (by rw [hA, zstL_at, h2]) zstL_ne] at hP
  exact hP
/-- System.arraycopy of ints: the places are tested ahead -/
def zcpOk (sp dp n : Int32) (n0 n1 : Nat) : Prop := ¬ sp < 0 ∧ ¬ dp < 0 ∧ ¬ n < 0 ∧ sp.toNatClampNeg + n.toNatClampNeg ≤ n0 ∧ dp.toNatClampNeg + n.toNatClampNeg ≤ n1
theorem z_copyi {k0 k1 n0 n1 idx : Nat} {sp dp n : Int32} (G : zG w p s m c args cc own nL) (hH : zH w s M H locs) (hsz : ls.size = nL) (h0 : zIA w k0 n0) (h1 : zIA w k1 n1) (hok : zcpOk sp dp n n0 n1)
    (hl : Cond.methodLink own idx arraycopyName ∈ zU) (hnat : Cond.native arraycopyName ∈ zU) (hstat : Cond.static arraycopyName ∈ zU) (hini : Cond.initialized "java/lang/System" ∈ zU) (hframes : 1 ≤ R.frames) (hlocals : (rest.map fun v => v.category).sum + (nativeFrameWords "java/lang/System" "arraycopy" 5 + 11) ≤ R.locals) (hdg : decode cc pc = .ok (.invokestatic idx, 3))
    (kk : ∀ (H1 : Heap) (locs1 : List Loc), zH w s (zcp M k0 k1 sp.toNatClampNeg dp.toNatClampNeg n.toNatClampNeg) H1 locs1 → W p l e R s m args below meth c H1 locs1 0 0 Q (F0 m (pc + 3) ls rest)) : W p l e R s m args below meth c H locs 0 0 Q (F0 m pc ls (.int n :: .int dp :: .ref (za w k1) :: .int sp :: .ref (za w k0) :: rest)) := by
  obtain ⟨hk0, cA0, t0, ht0, hA0⟩ := h0
  obtain ⟨hk1, cA1, t1, ht1, hA1⟩ := h1
  obtain ⟨a1, a2, a3, a4, a5⟩ := hok
  refine va_copyi (D := zD w) G.x G.b (G.ml.trans hsz.symm) G.o (G.t hl) (G.t hnat) (G.t hstat) (G.t hini) G.K hH.1 (zL_D G.k M) hH.2 k0 k1 t0 t1 (f := M.1 k0) (g := M.1 k1) (ty := .int) (by rw [zL_at hk0, hA0]) (by rw [zL_at hk1, hA1]) ht0 ht1 rfl a1 a2 a3 a4 a5 (fun _ _ => rfl) hframes hlocals hdg (fun H1 locs1 hP hD hS => kk H1 locs1 ⟨?_, hS⟩)
  rw [zL_set G.k (M' := zcp M k0 k1 sp.toNatClampNeg dp.toNatClampNeg n.toNatClampNeg) hk1 (by rw [hA1, zcp_at]) zcp_ne] at hP
  exact hP
theorem z_copyl {k0 k1 n0 n1 idx : Nat} {sp dp n : Int32} (G : zG w p s m c args cc own nL) (hH : zH w s M H locs) (hsz : ls.size = nL) (h0 : zLA w k0 n0) (h1 : zLA w k1 n1) (hok : zcpOk sp dp n n0 n1)
    (hl : Cond.methodLink own idx arraycopyName ∈ zU) (hnat : Cond.native arraycopyName ∈ zU) (hstat : Cond.static arraycopyName ∈ zU) (hini : Cond.initialized "java/lang/System" ∈ zU) (hframes : 1 ≤ R.frames) (hlocals : (rest.map fun v => v.category).sum + (nativeFrameWords "java/lang/System" "arraycopy" 5 + 11) ≤ R.locals) (hdg : decode cc pc = .ok (.invokestatic idx, 3))
    (kk : ∀ (H1 : Heap) (locs1 : List Loc), zH w s (zcpL M k0 k1 sp.toNatClampNeg dp.toNatClampNeg n.toNatClampNeg) H1 locs1 → W p l e R s m args below meth c H1 locs1 0 0 Q (F0 m (pc + 3) ls rest)) : W p l e R s m args below meth c H locs 0 0 Q (F0 m pc ls (.int n :: .int dp :: .ref (za w k1) :: .int sp :: .ref (za w k0) :: rest)) := by
  obtain ⟨hk0, cA0, t0, ht0, hA0⟩ := h0
  obtain ⟨hk1, cA1, t1, ht1, hA1⟩ := h1
  obtain ⟨a1, a2, a3, a4, a5⟩ := hok
  refine va_copyl (D := zD w) G.x G.b (G.ml.trans hsz.symm) G.o (G.t hl) (G.t hnat) (G.t hstat) (G.t hini) G.K hH.1 (zL_D G.k M) hH.2 k0 k1 t0 t1 (f := M.2 k0) (g := M.2 k1) (ty := .long) (by rw [zL_at hk0, hA0]) (by rw [zL_at hk1, hA1]) ht0 ht1 rfl a1 a2 a3 a4 a5 (fun _ _ => rfl) hframes hlocals hdg (fun H1 locs1 hP hD hS => kk H1 locs1 ⟨?_, hS⟩)
  rw [zL_set G.k (M' := zcpL M k0 k1 sp.toNatClampNeg dp.toNatClampNeg n.toNatClampNeg) hk1 (by rw [hA1, zcpL_at]) zcpL_ne] at hP
  exact hP
theorem z_irem {x y : Int32} (G : zG w p s m c args cc own nL) (hdg : decode cc pc = .ok (.irem, 1)) (hne : ¬ y = 0)
    (k : W p l e R s m args below meth c H locs 0 0 Q (F0 m (pc + 1) ls (.int (zrem x y) :: rest))) : W p l e R s m args below meth c H locs 0 0 Q (F0 m pc ls (.int y :: .int x :: rest)) := lv_irem G.x G.b hdg hne k
end ZR
