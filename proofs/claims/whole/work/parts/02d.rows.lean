/-! further rows: names, switches, Math, the table ABOVE, Strings -/
def zb2 {α β γ : Type} (x : Option (α × β)) (f : α → β → Option γ) : Option γ := x.bind (fun r => f r.1 r.2)
theorem z_b2 {α β γ : Type} {x : Option (α × β)} {f : α → β → Option γ} {c : γ} (h : zb2 x f = some c) : ∃ a b, x = some (a, b) ∧ f a b = some c := by
  obtain ⟨⟨a, b⟩, h1, h2⟩ := z_bind h
  exact ⟨a, b, h1, h2⟩
theorem zbl_fit {v : Int32} (h : v &&& 1 = v) : fits .boolean (.int v) = true := by
  obtain ⟨j, hj, e⟩ := pk_andE v (m := 1) 1 (by decide)
  rw [h] at e
  rw [e]
  rcases (show j = 0 ∨ j = 1 by omega) with rfl | rfl <;> rfl
theorem zbl_nar {v : Int32} (h : v &&& 1 = v) : narrow .boolean (.int v) = .int v := by simp [narrow, h]
def zmax (x y : Int32) : Int32 := if x < y then y else x
def zmin (x y : Int32) : Int32 := if y < x then y else x
theorem z_inc_1 (x : Int32) : x + Int32.ofInt 1 = x + 1 := rfl
theorem z_inc_10 (x : Int32) : x + Int32.ofInt 10 = x + 10 := rfl
theorem z_inc_6 (x : Int32) : x + Int32.ofInt 6 = x + 6 := rfl
theorem z_inc_m1 (x : Int32) : x + Int32.ofInt (-1) = x + (-1) := rfl
section ZN
variable {p : Program} {l : Launch} {e : Env} {R : Room} {s : State} {m : MethodId} {args : Array Value} {below : List Frame} {meth : Method} {c : Code} {H : Heap} {locs : List Loc} {Q : State → Prop}
variable {cc : ByteArray} {pc nL : Nat} {ls : Array Slot} {rest : List Value} {w : zWd} {M : zM} {own : String}
theorem z_nmI {x y : Int32} (he : y = x) (k : W p l e R s m args below meth c H locs 0 0 Q (F0 m pc ls (.int y :: rest))) : W p l e R s m args below meth c H locs 0 0 Q (F0 m pc ls (.int x :: rest)) := he ▸ k
theorem z_nmL {x y : Int64} (he : y = x) (k : W p l e R s m args below meth c H locs 0 0 Q (F0 m pc ls (.long y :: rest))) : W p l e R s m args below meth c H locs 0 0 Q (F0 m pc ls (.long x :: rest)) := he ▸ k
theorem z_tab (hexec : p.tables.exec = Jvm.exec) (hb : c.code = cc) {dflt lo hi : Int} {offs : Array Int} {len : Nat} {x k : Int32} {off : Int} {tgt : Nat} (hdg : decode cc pc = .ok (.tableswitch dflt lo hi offs, len)) (hk : x = k) (h1 : ¬ k.toInt < lo) (h2 : ¬ hi < k.toInt) (ho : offs[(k.toInt - lo).toNat]? = some off) (ht : (pc : Int) + off = (tgt : Int))
    (kk : W p l e R s m args below meth c H locs 0 0 Q (F0 m tgt ls rest)) : W p l e R s m args below meth c H locs 0 0 Q (F0 m pc ls (.int x :: rest)) := by
  subst hk
  exact lv_tableIn hexec hb hdg h1 h2 ho ht kk
theorem z_look (hexec : p.tables.exec = Jvm.exec) (hb : c.code = cc) {dflt : Int} {ps : Array (Int × Int)} {len : Nat} {x k : Int32} {off : Int} {tgt : Nat} (hdg : decode cc pc = .ok (.lookupswitch dflt ps, len)) (hp : (ps.toList.zip (ps.toList.drop 1)).all (fun (a, next) => a.1 < next.1) = true) (hk : x = k) (ho : Op.lookupswitch.offset ps.toList dflt k.toInt = off) (ht : (pc : Int) + off = (tgt : Int))
    (kk : W p l e R s m args below meth c H locs 0 0 Q (F0 m tgt ls rest)) : W p l e R s m args below meth c H locs 0 0 Q (F0 m pc ls (.int x :: rest)) := by
  subst hk
  exact lv_lookup hexec hb hdg hp ho ht kk
theorem z_mmax {idx : Nat} {x y : Int32} (G : zG w p s m c args cc own nL) (hsz : ls.size = nL) (h1 : Cond.methodLink own idx Lib.Math.max.name ∈ zU) (h2 : Cond.static Lib.Math.max.name ∈ zU) (h3 : Cond.initialized "java/lang/Math" ∈ zU) (h4 : Cond.code Lib.Math.max.name Lib.Math.max.code 2 (some .int) ∈ zU) (hf : 1 ≤ R.frames) (hlo : (rest.map fun v => v.category).sum + 13 ≤ R.locals) (hdg : decode cc pc = .ok (.invokestatic idx, 3))
    (kk : W p l e R s m args below meth c H locs 0 0 Q (F0 m (pc + 3) ls (.int (zmax x y) :: rest))) : W p l e R s m args below meth c H locs 0 0 Q (F0 m pc ls (.int y :: .int x :: rest)) :=
  va_mmax G.x G.b (G.ml.trans hsz.symm) G.o (G.t h1) (G.t h2) (G.t h3) (G.t h4) hf hlo (Nat.zero_le _) (Nat.zero_le _) hdg kk
theorem z_mmin {idx : Nat} {x y : Int32} (G : zG w p s m c args cc own nL) (hsz : ls.size = nL) (h1 : Cond.methodLink own idx Lib.Math.min.name ∈ zU) (h2 : Cond.static Lib.Math.min.name ∈ zU) (h3 : Cond.initialized "java/lang/Math" ∈ zU) (h4 : Cond.code Lib.Math.min.name Lib.Math.min.code 2 (some .int) ∈ zU) (hf : 1 ≤ R.frames) (hlo : (rest.map fun v => v.category).sum + 13 ≤ R.locals) (hdg : decode cc pc = .ok (.invokestatic idx, 3))
    (kk : W p l e R s m args below meth c H locs 0 0 Q (F0 m (pc + 3) ls (.int (zmin x y) :: rest))) : W p l e R s m args below meth c H locs 0 0 Q (F0 m pc ls (.int y :: .int x :: rest)) :=
  va_mmin G.x G.b (G.ml.trans hsz.symm) G.o (G.t h1) (G.t h2) (G.t h3) (G.t h4) hf hlo (Nat.zero_le _) (Nat.zero_le _) hdg kk
/-- the table ABOVE -/
theorem z_abvG {idx : Nat} (hw : zIsC w) (G : zG w p s m c args cc own nL) (hH : zH w s M H locs) (hl : Cond.fieldLink own idx "BeardHire" "ABOVE" "[I" ∈ zU) (hdg : decode cc pc = .ok (.getstatic idx, 3))
    (kk : W p l e R s m args below meth c H locs 0 0 Q (F0 m (pc + 3) ls (.ref (za w 300) :: rest))) : W p l e R s m args below meth c H locs 0 0 Q (F0 m pc ls rest) :=
  va_gets G.x G.b (cE hw G.e).2.2.2.2.1 hH.2 G.o (G.t hl) (fun _ h => h) hdg kk
theorem z_abv {i : Int32} {j : Nat} (hw : zIsC w) (G : zG w p s m c args cc own nL) (hH : zH w s M H locs) (hj : zix i 6 = some j) (hdg : decode cc pc = .ok (.iaload, 1))
    (kk : W p l e R s m args below meth c H locs 0 0 Q (F0 m (pc + 1) ls (.int (zAbv j) :: rest))) : W p l e R s m args below meth c H locs 0 0 Q (F0 m pc ls (.int i :: .ref (za w 300) :: rest)) := by
  obtain ⟨h1, h2⟩ := zix_some hj
  exact va_ti G.x G.b (cE hw G.e).2.2.2.2.2 hH.2 h1 (by rw [h2]) hdg kk
/-- a call on a receiver that is no cell of the world's -/
theorem z_runX {y : MethodName} {bytes : ByteArray} {maxL n idx b : Nat} {ret : Option FieldType} {rm : Room} {Qc : Array Value → State → Outcome → State → Prop} {free : Addr → Prop} {C : String} {As : List Value} {st0 : List Value} (G : zG w p s m c args cc own nL) (hH : zH w s M H locs) (hsz : ls.size = nL) (hM : Met l y (Cond.code y bytes maxL ret :: zU) rm (zPre w M (.ref b :: As)) Qc 0 0 free) (hrv : ∃ cell : Cell, H[b]? = some cell ∧ cell.vm.isStatics = false ∧ s.vm.findClass C = some cell.cls) (ha : zAr y C n)
    (h1 : Cond.methodLink own idx y ∈ zU) (h2 : Cond.instanceMethod y ∈ zU) (h3 : Cond.selects C y y ∈ zU) (h4 : Cond.initialized C ∈ zU) (h5 : Cond.code y bytes maxL ret ∈ zU) (hrc : rm.cells = 0) (hrs : rm.slots = 0) (hn : As.length = n) (hR1 : rm.frames + 1 ≤ R.frames) (hR2 : 8 + (maxL + 11) + rm.locals ≤ R.locals)
    (hst : st0 = As.reverse ++ .ref b :: rest) (hW : (rest.map fun v => v.category).sum ≤ 8) (hdg : decode cc pc = .ok (.invokevirtual idx, 3)) : va_Run p l e R s m args below meth c H locs 0 0 0 0 (F0 m pc ls st0) rest (Qc (Value.ref b :: As).toArray) free := by
  obtain ⟨a1, a2⟩ := ha
  have hcb : CallB R s args own idx y bytes maxL ret (Cond.code y bytes maxL ret :: zU) rm 0 0 n := callB_of n G.2.2.2.2.1 (z_goodU h5) rfl hrc hrs (by rw [a1]; exact G.t h4) (G.t h1) a2 ⟨hR1, hR2⟩
  exact va_runV (g := F0 m pc ls st0) G.f hM ⟨hcb, G.t h2, G.t h3⟩ ⟨zPre.blind G.k, hrv, zPre.at _ G hH⟩ rfl hn hsz hst (lv_room hW) hdg ⟨Nat.zero_le _, Nat.zero_le _⟩
theorem z_strV {i : Nat} (hw : zIsC w) (G : zG w p s m c args cc own nL) (hH : zH w s M H locs) (hi : i < 14) : ∃ cell : Cell, H[za w (100 + i)]? = some cell ∧ cell.vm.isStatics = false ∧ s.vm.findClass RJ0 = some cell.cls :=
  vk_recv (i := i) (adK := fun i => za w (100 + i)) (cE hw G.e).1 hi hH.2
end ZN
theorem zKc_ok {k : Nat} (hk : k < 6) : ∃ (C : String) (T : u_T) (N : Nat), vwCl[zKc k]? = some (C, T, N) := by
  rcases (show k = 0 ∨ k = 1 ∨ k = 2 ∨ k = 3 ∨ k = 4 ∨ k = 5 by omega) with rfl | rfl | rfl | rfl | rfl | rfl <;> exact ⟨_, _, _, rfl⟩
