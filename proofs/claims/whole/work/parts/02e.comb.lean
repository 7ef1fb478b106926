/-! combinators of the generated functions: a named continuation, loops by fuel; stores with a name for the new memory -/
def zj {α R : Type} (J : α) (K : α → Option R) : Option R := K J
theorem z_j {α R : Type} {J : α} {K : α → Option R} {r : Option R} (h : zj J K = r) : ∃ J' : α, J' = J ∧ K J' = r := ⟨J, rfl, h⟩
def zL1 {A1 R : Type} (F : (A1 → Option R) → A1 → Option R) : Nat → A1 → Option R
  | 0 => fun _ => none
  | n + 1 => F (zL1 F n)
theorem zL1_0 {A1 R : Type} {F : (A1 → Option R) → A1 → Option R} {x1 : A1} {r : R} (h : zL1 F 0 x1 = some r) : False := by cases h
theorem zL1_s {A1 R : Type} {F : (A1 → Option R) → A1 → Option R} {x1 : A1} {n : Nat} {r : Option R} (h : zL1 F (n + 1) x1 = r) : ∃ rc, rc = zL1 F n ∧ F rc x1 = r := ⟨_, rfl, h⟩
theorem zL1_e {A1 R : Type} {F : (A1 → Option R) → A1 → Option R} {x1 : A1} {n : Nat} : zL1 F (n + 1) x1 = F (zL1 F n) x1 := rfl
def zL2 {A1 A2 R : Type} (F : (A1 → A2 → Option R) → A1 → A2 → Option R) : Nat → A1 → A2 → Option R
  | 0 => fun _ _ => none
  | n + 1 => F (zL2 F n)
theorem zL2_0 {A1 A2 R : Type} {F : (A1 → A2 → Option R) → A1 → A2 → Option R} {x1 : A1} {x2 : A2} {r : R} (h : zL2 F 0 x1 x2 = some r) : False := by cases h
theorem zL2_s {A1 A2 R : Type} {F : (A1 → A2 → Option R) → A1 → A2 → Option R} {x1 : A1} {x2 : A2} {n : Nat} {r : Option R} (h : zL2 F (n + 1) x1 x2 = r) : ∃ rc, rc = zL2 F n ∧ F rc x1 x2 = r := ⟨_, rfl, h⟩
theorem zL2_e {A1 A2 R : Type} {F : (A1 → A2 → Option R) → A1 → A2 → Option R} {x1 : A1} {x2 : A2} {n : Nat} : zL2 F (n + 1) x1 x2 = F (zL2 F n) x1 x2 := rfl
def zL3 {A1 A2 A3 R : Type} (F : (A1 → A2 → A3 → Option R) → A1 → A2 → A3 → Option R) : Nat → A1 → A2 → A3 → Option R
  | 0 => fun _ _ _ => none
  | n + 1 => F (zL3 F n)
theorem zL3_0 {A1 A2 A3 R : Type} {F : (A1 → A2 → A3 → Option R) → A1 → A2 → A3 → Option R} {x1 : A1} {x2 : A2} {x3 : A3} {r : R} (h : zL3 F 0 x1 x2 x3 = some r) : False := by cases h
theorem zL3_s {A1 A2 A3 R : Type} {F : (A1 → A2 → A3 → Option R) → A1 → A2 → A3 → Option R} {x1 : A1} {x2 : A2} {x3 : A3} {n : Nat} {r : Option R} (h : zL3 F (n + 1) x1 x2 x3 = r) : ∃ rc, rc = zL3 F n ∧ F rc x1 x2 x3 = r := ⟨_, rfl, h⟩
theorem zL3_e {A1 A2 A3 R : Type} {F : (A1 → A2 → A3 → Option R) → A1 → A2 → A3 → Option R} {x1 : A1} {x2 : A2} {x3 : A3} {n : Nat} : zL3 F (n + 1) x1 x2 x3 = F (zL3 F n) x1 x2 x3 := rfl
def zL4 {A1 A2 A3 A4 R : Type} (F : (A1 → A2 → A3 → A4 → Option R) → A1 → A2 → A3 → A4 → Option R) : Nat → A1 → A2 → A3 → A4 → Option R
  | 0 => fun _ _ _ _ => none
  | n + 1 => F (zL4 F n)
theorem zL4_0 {A1 A2 A3 A4 R : Type} {F : (A1 → A2 → A3 → A4 → Option R) → A1 → A2 → A3 → A4 → Option R} {x1 : A1} {x2 : A2} {x3 : A3} {x4 : A4} {r : R} (h : zL4 F 0 x1 x2 x3 x4 = some r) : False := by cases h
theorem zL4_s {A1 A2 A3 A4 R : Type} {F : (A1 → A2 → A3 → A4 → Option R) → A1 → A2 → A3 → A4 → Option R} {x1 : A1} {x2 : A2} {x3 : A3} {x4 : A4} {n : Nat} {r : Option R} (h : zL4 F (n + 1) x1 x2 x3 x4 = r) : ∃ rc, rc = zL4 F n ∧ F rc x1 x2 x3 x4 = r := ⟨_, rfl, h⟩
theorem zL4_e {A1 A2 A3 A4 R : Type} {F : (A1 → A2 → A3 → A4 → Option R) → A1 → A2 → A3 → A4 → Option R} {x1 : A1} {x2 : A2} {x3 : A3} {x4 : A4} {n : Nat} : zL4 F (n + 1) x1 x2 x3 x4 = F (zL4 F n) x1 x2 x3 x4 := rfl
def zL5 {A1 A2 A3 A4 A5 R : Type} (F : (A1 → A2 → A3 → A4 → A5 → Option R) → A1 → A2 → A3 → A4 → A5 → Option R) : Nat → A1 → A2 → A3 → A4 → A5 → Option R
  | 0 => fun _ _ _ _ _ => none
  | n + 1 => F (zL5 F n)
theorem zL5_0 {A1 A2 A3 A4 A5 R : Type} {F : (A1 → A2 → A3 → A4 → A5 → Option R) → A1 → A2 → A3 → A4 → A5 → Option R} {x1 : A1} {x2 : A2} {x3 : A3} {x4 : A4} {x5 : A5} {r : R} (h : zL5 F 0 x1 x2 x3 x4 x5 = some r) : False := by cases h
theorem zL5_s {A1 A2 A3 A4 A5 R : Type} {F : (A1 → A2 → A3 → A4 → A5 → Option R) → A1 → A2 → A3 → A4 → A5 → Option R} {x1 : A1} {x2 : A2} {x3 : A3} {x4 : A4} {x5 : A5} {n : Nat} {r : Option R} (h : zL5 F (n + 1) x1 x2 x3 x4 x5 = r) : ∃ rc, rc = zL5 F n ∧ F rc x1 x2 x3 x4 x5 = r := ⟨_, rfl, h⟩
theorem zL5_e {A1 A2 A3 A4 A5 R : Type} {F : (A1 → A2 → A3 → A4 → A5 → Option R) → A1 → A2 → A3 → A4 → A5 → Option R} {x1 : A1} {x2 : A2} {x3 : A3} {x4 : A4} {x5 : A5} {n : Nat} : zL5 F (n + 1) x1 x2 x3 x4 x5 = F (zL5 F n) x1 x2 x3 x4 x5 := rfl
def zL6 {A1 A2 A3 A4 A5 A6 R : Type} (F : (A1 → A2 → A3 → A4 → A5 → A6 → Option R) → A1 → A2 → A3 → A4 → A5 → A6 → Option R) : Nat → A1 → A2 → A3 → A4 → A5 → A6 → Option R
  | 0 => fun _ _ _ _ _ _ => none
  | n + 1 => F (zL6 F n)
theorem zL6_0 {A1 A2 A3 A4 A5 A6 R : Type} {F : (A1 → A2 → A3 → A4 → A5 → A6 → Option R) → A1 → A2 → A3 → A4 → A5 → A6 → Option R} {x1 : A1} {x2 : A2} {x3 : A3} {x4 : A4} {x5 : A5} {x6 : A6} {r : R} (h : zL6 F 0 x1 x2 x3 x4 x5 x6 = some r) : False := by cases h
theorem zL6_s {A1 A2 A3 A4 A5 A6 R : Type} {F : (A1 → A2 → A3 → A4 → A5 → A6 → Option R) → A1 → A2 → A3 → A4 → A5 → A6 → Option R} {x1 : A1} {x2 : A2} {x3 : A3} {x4 : A4} {x5 : A5} {x6 : A6} {n : Nat} {r : Option R} (h : zL6 F (n + 1) x1 x2 x3 x4 x5 x6 = r) : ∃ rc, rc = zL6 F n ∧ F rc x1 x2 x3 x4 x5 x6 = r := ⟨_, rfl, h⟩
theorem zL6_e {A1 A2 A3 A4 A5 A6 R : Type} {F : (A1 → A2 → A3 → A4 → A5 → A6 → Option R) → A1 → A2 → A3 → A4 → A5 → A6 → Option R} {x1 : A1} {x2 : A2} {x3 : A3} {x4 : A4} {x5 : A5} {x6 : A6} {n : Nat} : zL6 F (n + 1) x1 x2 x3 x4 x5 x6 = F (zL6 F n) x1 x2 x3 x4 x5 x6 := rfl
def zL7 {A1 A2 A3 A4 A5 A6 A7 R : Type} (F : (A1 → A2 → A3 → A4 → A5 → A6 → A7 → Option R) → A1 → A2 → A3 → A4 → A5 → A6 → A7 → Option R) : Nat → A1 → A2 → A3 → A4 → A5 → A6 → A7 → Option R
  | 0 => fun _ _ _ _ _ _ _ => none
  | n + 1 => F (zL7 F n)
theorem zL7_0 {A1 A2 A3 A4 A5 A6 A7 R : Type} {F : (A1 → A2 → A3 → A4 → A5 → A6 → A7 → Option R) → A1 → A2 → A3 → A4 → A5 → A6 → A7 → Option R} {x1 : A1} {x2 : A2} {x3 : A3} {x4 : A4} {x5 : A5} {x6 : A6} {x7 : A7} {r : R} (h : zL7 F 0 x1 x2 x3 x4 x5 x6 x7 = some r) : False := by cases h
theorem zL7_s {A1 A2 A3 A4 A5 A6 A7 R : Type} {F : (A1 → A2 → A3 → A4 → A5 → A6 → A7 → Option R) → A1 → A2 → A3 → A4 → A5 → A6 → A7 → Option R} {x1 : A1} {x2 : A2} {x3 : A3} {x4 : A4} {x5 : A5} {x6 : A6} {x7 : A7} {n : Nat} {r : Option R} (h : zL7 F (n + 1) x1 x2 x3 x4 x5 x6 x7 = r) : ∃ rc, rc = zL7 F n ∧ F rc x1 x2 x3 x4 x5 x6 x7 = r := ⟨_, rfl, h⟩
theorem zL7_e {A1 A2 A3 A4 A5 A6 A7 R : Type} {F : (A1 → A2 → A3 → A4 → A5 → A6 → A7 → Option R) → A1 → A2 → A3 → A4 → A5 → A6 → A7 → Option R} {x1 : A1} {x2 : A2} {x3 : A3} {x4 : A4} {x5 : A5} {x6 : A6} {x7 : A7} {n : Nat} : zL7 F (n + 1) x1 x2 x3 x4 x5 x6 x7 = F (zL7 F n) x1 x2 x3 x4 x5 x6 x7 := rfl
def zL8 {A1 A2 A3 A4 A5 A6 A7 A8 R : Type} (F : (A1 → A2 → A3 → A4 → A5 → A6 → A7 → A8 → Option R) → A1 → A2 → A3 → A4 → A5 → A6 → A7 → A8 → Option R) : Nat → A1 → A2 → A3 → A4 → A5 → A6 → A7 → A8 → Option R
  | 0 => fun _ _ _ _ _ _ _ _ => none
  | n + 1 => F (zL8 F n)
theorem zL8_0 {A1 A2 A3 A4 A5 A6 A7 A8 R : Type} {F : (A1 → A2 → A3 → A4 → A5 → A6 → A7 → A8 → Option R) → A1 → A2 → A3 → A4 → A5 → A6 → A7 → A8 → Option R} {x1 : A1} {x2 : A2} {x3 : A3} {x4 : A4} {x5 : A5} {x6 : A6} {x7 : A7} {x8 : A8} {r : R} (h : zL8 F 0 x1 x2 x3 x4 x5 x6 x7 x8 = some r) : False := by cases h
theorem zL8_s {A1 A2 A3 A4 A5 A6 A7 A8 R : Type} {F : (A1 → A2 → A3 → A4 → A5 → A6 → A7 → A8 → Option R) → A1 → A2 → A3 → A4 → A5 → A6 → A7 → A8 → Option R} {x1 : A1} {x2 : A2} {x3 : A3} {x4 : A4} {x5 : A5} {x6 : A6} {x7 : A7} {x8 : A8} {n : Nat} {r : Option R} (h : zL8 F (n + 1) x1 x2 x3 x4 x5 x6 x7 x8 = r) : ∃ rc, rc = zL8 F n ∧ F rc x1 x2 x3 x4 x5 x6 x7 x8 = r := ⟨_, rfl, h⟩
theorem zL8_e {A1 A2 A3 A4 A5 A6 A7 A8 R : Type} {F : (A1 → A2 → A3 → A4 → A5 → A6 → A7 → A8 → Option R) → A1 → A2 → A3 → A4 → A5 → A6 → A7 → A8 → Option R} {x1 : A1} {x2 : A2} {x3 : A3} {x4 : A4} {x5 : A5} {x6 : A6} {x7 : A7} {x8 : A8} {n : Nat} : zL8 F (n + 1) x1 x2 x3 x4 x5 x6 x7 x8 = F (zL8 F n) x1 x2 x3 x4 x5 x6 x7 x8 := rfl
def zL9 {A1 A2 A3 A4 A5 A6 A7 A8 A9 R : Type} (F : (A1 → A2 → A3 → A4 → A5 → A6 → A7 → A8 → A9 → Option R) → A1 → A2 → A3 → A4 → A5 → A6 → A7 → A8 → A9 → Option R) : Nat → A1 → A2 → A3 → A4 → A5 → A6 → A7 → A8 → A9 → Option R
  | 0 => fun _ _ _ _ _ _ _ _ _ => none
  | n + 1 => F (zL9 F n)
theorem zL9_0 {A1 A2 A3 A4 A5 A6 A7 A8 A9 R : Type} {F : (A1 → A2 → A3 → A4 → A5 → A6 → A7 → A8 → A9 → Option R) → A1 → A2 → A3 → A4 → A5 → A6 → A7 → A8 → A9 → Option R} {x1 : A1} {x2 : A2} {x3 : A3} {x4 : A4} {x5 : A5} {x6 : A6} {x7 : A7} {x8 : A8} {x9 : A9} {r : R} (h : zL9 F 0 x1 x2 x3 x4 x5 x6 x7 x8 x9 = some r) : False := by cases h
theorem zL9_s {A1 A2 A3 A4 A5 A6 A7 A8 A9 R : Type} {F : (A1 → A2 → A3 → A4 → A5 → A6 → A7 → A8 → A9 → Option R) → A1 → A2 → A3 → A4 → A5 → A6 → A7 → A8 → A9 → Option R} {x1 : A1} {x2 : A2} {x3 : A3} {x4 : A4} {x5 : A5} {x6 : A6} {x7 : A7} {x8 : A8} {x9 : A9} {n : Nat} {r : Option R} (h : zL9 F (n + 1) x1 x2 x3 x4 x5 x6 x7 x8 x9 = r) : ∃ rc, rc = zL9 F n ∧ F rc x1 x2 x3 x4 x5 x6 x7 x8 x9 = r := ⟨_, rfl, h⟩
theorem zL9_e {A1 A2 A3 A4 A5 A6 A7 A8 A9 R : Type} {F : (A1 → A2 → A3 → A4 → A5 → A6 → A7 → A8 → A9 → Option R) → A1 → A2 → A3 → A4 → A5 → A6 → A7 → A8 → A9 → Option R} {x1 : A1} {x2 : A2} {x3 : A3} {x4 : A4} {x5 : A5} {x6 : A6} {x7 : A7} {x8 : A8} {x9 : A9} {n : Nat} : zL9 F (n + 1) x1 x2 x3 x4 x5 x6 x7 x8 x9 = F (zL9 F n) x1 x2 x3 x4 x5 x6 x7 x8 x9 := rfl
def zL10 {A1 A2 A3 A4 A5 A6 A7 A8 A9 A10 R : Type} (F : (A1 → A2 → A3 → A4 → A5 → A6 → A7 → A8 → A9 → A10 → Option R) → A1 → A2 → A3 → A4 → A5 → A6 → A7 → A8 → A9 → A10 → Option R) : Nat → A1 → A2 → A3 → A4 → A5 → A6 → A7 → A8 → A9 → A10 → Option R
  | 0 => fun _ _ _ _ _ _ _ _ _ _ => none
  | n + 1 => F (zL10 F n)
theorem zL10_0 {A1 A2 A3 A4 A5 A6 A7 A8 A9 A10 R : Type} {F : (A1 → A2 → A3 → A4 → A5 → A6 → A7 → A8 → A9 → A10 → Option R) → A1 → A2 → A3 → A4 → A5 → A6 → A7 → A8 → A9 → A10 → Option R} {x1 : A1} {x2 : A2} {x3 : A3} {x4 : A4} {x5 : A5} {x6 : A6} {x7 : A7} {x8 : A8} {x9 : A9} {x10 : A10} {r : R} (h : zL10 F 0 x1 x2 x3 x4 x5 x6 x7 x8 x9 x10 = some r) : False := by cases h
theorem zL10_s {A1 A2 A3 A4 A5 A6 A7 A8 A9 A10 R : Type} {F : (A1 → A2 → A3 → A4 → A5 → A6 → A7 → A8 → A9 → A10 → Option R) → A1 → A2 → A3 → A4 → A5 → A6 → A7 → A8 → A9 → A10 → Option R} {x1 : A1} {x2 : A2} {x3 : A3} {x4 : A4} {x5 : A5} {x6 : A6} {x7 : A7} {x8 : A8} {x9 : A9} {x10 : A10} {n : Nat} {r : Option R} (h : zL10 F (n + 1) x1 x2 x3 x4 x5 x6 x7 x8 x9 x10 = r) : ∃ rc, rc = zL10 F n ∧ F rc x1 x2 x3 x4 x5 x6 x7 x8 x9 x10 = r := ⟨_, rfl, h⟩
theorem zL10_e {A1 A2 A3 A4 A5 A6 A7 A8 A9 A10 R : Type} {F : (A1 → A2 → A3 → A4 → A5 → A6 → A7 → A8 → A9 → A10 → Option R) → A1 → A2 → A3 → A4 → A5 → A6 → A7 → A8 → A9 → A10 → Option R} {x1 : A1} {x2 : A2} {x3 : A3} {x4 : A4} {x5 : A5} {x6 : A6} {x7 : A7} {x8 : A8} {x9 : A9} {x10 : A10} {n : Nat} : zL10 F (n + 1) x1 x2 x3 x4 x5 x6 x7 x8 x9 x10 = F (zL10 F n) x1 x2 x3 x4 x5 x6 x7 x8 x9 x10 := rfl
abbrev zGo (p : Program) (l : Launch) (e : Env) (R : Room) (s : State) (m : MethodId) (args : Array Value) (below : List Frame) (meth : Method) (c : Code) (Qc : Array Value → State → Outcome → State → Prop) (free : Addr → Prop) (H : Heap) (locs : List Loc) (g : JFrame) : Prop := W p l e R s m args below meth c H locs 0 0 (MQ below Qc args s 0 0 free) g
theorem z_metN {l : Launch} {w : zWd} {M : zM} {y : MethodName} {cc : ByteArray} {maxL : Nat} {ret : Option FieldType} {rm : Room} {av : List Value} {Qc : Array Value → State → Outcome → State → Prop} {free : Addr → Prop} {own : String} {lv : List (Nat × Value)} (ho : zOk w) (hy : plainName y.cls = true) (hm : (lg_sl av).length ≤ maxL) (hown : y.cls = own) (hlv : lv_args 0 av = lv)
    (body : ∀ (p : Program) (e : Env) (s : State) (m : MethodId) (args : Array Value) (below : List Frame) (meth : Method) (c : Code), zG w p s m c args cc own maxL → meth.sig.returnType = ret → meth.locks = false → zH w s M s.heap [] → ∀ ls : Array Slot, lv_has ls maxL lv →
      zGo p l e rm s m args below meth c Qc free s.heap [] (F0 m 0 ls [])) : Met l y (Cond.code y cc maxL ret :: zU) rm (zPre w M av) Qc 0 0 free := by
  subst hown hlv
  exact z_met ho hy hm (fun p e s m below meth c G hr hlk hH ls hl => body p e s m av.toArray below meth c G hr hlk hH ls hl)
section ZS
variable {p : Program} {l : Launch} {e : Env} {R : Room} {s : State} {m : MethodId} {args : Array Value} {below : List Frame} {meth : Method} {c : Code} {H : Heap} {locs : List Loc} {Q : State → Prop}
variable {cc : ByteArray} {pc nL : Nat} {ls : Array Slot} {rest : List Value} {w : zWd} {M M1 : zM} {own : String}
theorem z_putN {ci Nf idx k : Nat} {C : String} {T : u_T} {fs : zM → List Value} {v : Int32} {ty : FieldType} (G : zG w p s m c args cc own nL) (hH : zH w s M H locs) (hO : zOB w k ci fs) (hc : vwCl[ci]? = some (C, T, Nf)) (hin : ∀ u ∈ u_ws C T Nf, u ∈ zU) (ty0 : Nat → FieldType) (hty : ∀ k, k < Nf → parseFieldDescriptor (T k).2.2.1 = some (ty0 k)) (hnm : ∀ a, a < Nf → ∀ b, b < Nf → a ≠ b → (T a).2.1 ≠ (T b).2.1) (j : Nat) (hj : j < Nf)
    (hl : Cond.fieldLink own idx (T j).1 (T j).2.1 (T j).2.2.1 ∈ zU) (hfin : (T j).2.2.2 = false) (hd : ty0 j = ty) (hn : narrow ty (.int v) = .int v) (hfit : fits ty (.int v) = true) (hfs : fs (zst M k j v) = (fs M).set j (.int v)) (hlen : j < (fs M).length) (hdg : decode cc pc = .ok (.putfield idx, 3)) (eM : M1 = zst M k j v)
    (kk : ∀ (H1 : Heap) (locs1 : List Loc), zH w s M1 H1 locs1 → W p l e R s m args below meth c H1 locs1 0 0 Q (F0 m (pc + 3) ls rest)) : W p l e R s m args below meth c H locs 0 0 Q (F0 m pc ls (.int v :: .ref (za w k) :: rest)) := by
  subst eM
  exact z_put G hH hO hc hin ty0 hty hnm j hj hl hfin hd hn hfit hfs hlen hdg kk
theorem z_iastN {k n j : Nat} {i v : Int32} (G : zG w p s m c args cc own nL) (hH : zH w s M H locs) (hA : zIA w k n) (hj : zix i n = some j) (hdg : decode cc pc = .ok (.iastore, 1)) (eM : M1 = zst M k j v)
    (kk : ∀ (H1 : Heap) (locs1 : List Loc), zH w s M1 H1 locs1 → W p l e R s m args below meth c H1 locs1 0 0 Q (F0 m (pc + 1) ls rest)) : W p l e R s m args below meth c H locs 0 0 Q (F0 m pc ls (.int v :: .int i :: .ref (za w k) :: rest)) := by
  subst eM
  exact z_iast G hH hA hj hdg kk
theorem z_lastN {k n j : Nat} {i : Int32} {v : Int64} (G : zG w p s m c args cc own nL) (hH : zH w s M H locs) (hA : zLA w k n) (hj : zix i n = some j) (hdg : decode cc pc = .ok (.lastore, 1)) (eM : M1 = zstL M k j v)
    (kk : ∀ (H1 : Heap) (locs1 : List Loc), zH w s M1 H1 locs1 → W p l e R s m args below meth c H1 locs1 0 0 Q (F0 m (pc + 1) ls rest)) : W p l e R s m args below meth c H locs 0 0 Q (F0 m pc ls (.long v :: .int i :: .ref (za w k) :: rest)) := by
  subst eM
  exact z_last G hH hA hj hdg kk
theorem z_copyiN {k0 k1 n0 n1 idx : Nat} {sp dp n : Int32} {a b d : Nat} (G : zG w p s m c args cc own nL) (hH : zH w s M H locs) (hsz : ls.size = nL) (h0 : zIA w k0 n0) (h1 : zIA w k1 n1) (hok : zcpOk sp dp n n0 n1)
    (hl : Cond.methodLink own idx arraycopyName ∈ zU) (hnat : Cond.native arraycopyName ∈ zU) (hstat : Cond.static arraycopyName ∈ zU) (hini : Cond.initialized "java/lang/System" ∈ zU) (hframes : 1 ≤ R.frames) (hlocals : (rest.map fun v => v.category).sum + (nativeFrameWords "java/lang/System" "arraycopy" 5 + 11) ≤ R.locals) (hdg : decode cc pc = .ok (.invokestatic idx, 3)) (ea : sp.toNatClampNeg = a) (eb : dp.toNatClampNeg = b) (ed : n.toNatClampNeg = d) (eM : M1 = zcp M k0 k1 a b d)
    (kk : ∀ (H1 : Heap) (locs1 : List Loc), zH w s M1 H1 locs1 → W p l e R s m args below meth c H1 locs1 0 0 Q (F0 m (pc + 3) ls rest)) : W p l e R s m args below meth c H locs 0 0 Q (F0 m pc ls (.int n :: .int dp :: .ref (za w k1) :: .int sp :: .ref (za w k0) :: rest)) := by
  subst eM ea eb ed
  exact z_copyi G hH hsz h0 h1 hok hl hnat hstat hini hframes hlocals hdg kk
theorem z_copylN {k0 k1 n0 n1 idx : Nat} {sp dp n : Int32} {a b d : Nat} (G : zG w p s m c args cc own nL) (hH : zH w s M H locs) (hsz : ls.size = nL) (h0 : zLA w k0 n0) (h1 : zLA w k1 n1) (hok : zcpOk sp dp n n0 n1)
    (hl : Cond.methodLink own idx arraycopyName ∈ zU) (hnat : Cond.native arraycopyName ∈ zU) (hstat : Cond.static arraycopyName ∈ zU) (hini : Cond.initialized "java/lang/System" ∈ zU) (hframes : 1 ≤ R.frames) (hlocals : (rest.map fun v => v.category).sum + (nativeFrameWords "java/lang/System" "arraycopy" 5 + 11) ≤ R.locals) (hdg : decode cc pc = .ok (.invokestatic idx, 3)) (ea : sp.toNatClampNeg = a) (eb : dp.toNatClampNeg = b) (ed : n.toNatClampNeg = d) (eM : M1 = zcpL M k0 k1 a b d)
    (kk : ∀ (H1 : Heap) (locs1 : List Loc), zH w s M1 H1 locs1 → W p l e R s m args below meth c H1 locs1 0 0 Q (F0 m (pc + 3) ls rest)) : W p l e R s m args below meth c H locs 0 0 Q (F0 m pc ls (.int n :: .int dp :: .ref (za w k1) :: .int sp :: .ref (za w k0) :: rest)) := by
  subst eM ea eb ed
  exact z_copyl G hH hsz h0 h1 hok hl hnat hstat hini hframes hlocals hdg kk
end ZS
/-- the places of a copy, tested -/
def zcpT (sp dp n : Int32) (n0 n1 : Nat) : Option Unit := if sp < 0 ∨ dp < 0 ∨ n < 0 ∨ n0 < sp.toNatClampNeg + n.toNatClampNeg ∨ n1 < dp.toNatClampNeg + n.toNatClampNeg then none else some ()
theorem zcpT_ok {sp dp n : Int32} {n0 n1 : Nat} {u : Unit} (h : zcpT sp dp n n0 n1 = some u) : zcpOk sp dp n n0 n1 := by
  unfold zcpT at h
  by_cases hc : sp < 0 ∨ dp < 0 ∨ n < 0 ∨ n0 < sp.toNatClampNeg + n.toNatClampNeg ∨ n1 < dp.toNatClampNeg + n.toNatClampNeg
  · rw [if_pos hc] at h; cases h
  · simp only [not_or, Nat.not_lt] at hc
    exact hc
theorem z_i2 (x : Int32) (n : Int) : x + Int32.ofInt n = x + Int32.ofInt n := rfl
