/-! the two worlds: the class (50 cells) and the model (11 cells) -/
def zStr : List (String × Nat × String) := [("BeardHire$Kind", 7, "beard"), ("BeardHire$Ginger", 7, "ginger"), ("BeardHire$White", 7, "white"), ("BeardHire$Moustache", 7, "moustache"), ("BeardHire$Imperial", 7, "imperial"), ("BeardHire$Patriarch", 7, "patriarch"), ("BeardHire$Text", 57, "wearer"), ("BeardHire$Text", 62, "house"), ("BeardHire$Text", 67, "hire"), ("BeardHire$Text", 78, "fame"), ("BeardHire$Text", 90, "hoard"), ("BeardHire$Text", 101, "round"), ("BeardHire$Text", 106, "cross"), ("BeardHire$Text", 108, "fond")]
def zLen : List Nat := [5, 6, 5, 9, 8, 9, 6, 5, 4, 4, 5, 5, 5, 4]
def zByt : List (List Int32) := [[98, 101, 97, 114, 100], [103, 105, 110, 103, 101, 114], [119, 104, 105, 116, 101], [109, 111, 117, 115, 116, 97, 99, 104, 101], [105, 109, 112, 101, 114, 105, 97, 108], [112, 97, 116, 114, 105, 97, 114, 99, 104], [119, 101, 97, 114, 101, 114], [104, 111, 117, 115, 101], [104, 105, 114, 101], [102, 97, 109, 101], [104, 111, 97, 114, 100], [114, 111, 117, 110, 100], [99, 114, 111, 115, 115], [102, 111, 110, 100]]
def zAbv (j : Nat) : Int32 := ([-1, 0, 0, 0, 1, 2] : List Int32).getD j 0
/-- what is known of the constants: the Strings (addresses 100 and on, their bytes 200 and on), the table ABOVE (300), two statics of the JDK -/
def zEC (ad : Nat → Nat) (A : Nat → Prop) (U : State) (H : Heap) : Prop :=
  vk_S 14 zLen zByt (fun i => ad (100 + i)) (fun i => ad (200 + i)) A U H ∧ (∀ i, i < 14 → vk_R (zStr.getD i ("", 0, "")).1 (zStr.getD i ("", 0, "")).2.1 (zStr.getD i ("", 0, "")).2.2 (ad (100 + i)) U) ∧
  va_Z "java/lang/String" "COMPACT_STRINGS" "Z" (.int 1) A U H ∧ va_Zq "jdk/internal/util/Preconditions" "SIOOBE_FORMATTER" "Ljava/util/function/BiFunction;" A U H ∧
  va_Z "BeardHire" "ABOVE" "[I" (.ref (ad 300)) A U H ∧ va_T .int (ad 300) 6 (fun j => .int (zAbv j)) A U H
theorem zEC.go {ad : Nat → Nat} {A : Nat → Prop} {s U : State} {H H1 : Heap} (h : zEC ad A s H) (hW : s.WarmedH U.vm) (hq : ∀ q, q < H.size → ¬ A q → H1[q]? = H[q]?) : zEC ad A U H1 := by
  obtain ⟨h1, h2, h3, h4, h5, h6⟩ := h
  exact ⟨vk_S.moved hW.alike (h1.kept hq), fun i hi => (h2 i hi).warm hW, va_Z.moved hW.alike (h3.kept hq), va_Zq.moved hW.alike (h4.kept hq), va_Z.moved hW.alike (h5.kept hq), va_T.moved hW.alike (h6.kept hq)⟩
theorem zEC.call {ad : Nat → Nat} {A : Nat → Prop} {U : State} {H : Heap} {g : JFrame} {mk : MethodId} {a : Array Value} (h : zEC ad A U H) : zEC ad A (U.calling g mk a) H := by
  obtain ⟨h1, h2, h3, h4, h5, h6⟩ := h
  have hv : U.vm.Alike (U.calling g mk a).vm := Vm.Alike.refl U.vm
  exact ⟨vk_S.moved hv h1, fun i hi => vk_R.same rfl (h2 i hi), va_Z.moved hv h3, va_Zq.moved hv h4, va_Z.moved hv h5, va_T.moved hv h6⟩
def zKc (k : Nat) : Nat := ([2, 0, 8, 3, 1, 4] : List Nat).getD k 0
def zCe (ad : Nat → Nat) (cI cJ cK cS : ClassId) (f : Nat → Int32) (g : Nat → Int64) (k : Nat) : va_E :=
  if k = 0 then .inr (9, [.ref (ad 1), .ref (ad 11), .ref (ad 21), .int (f 3), .ref (ad 31), .ref (ad 34), .ref (ad 33)])
  else if k = 1 ∨ k = 11 ∨ k = 21 then .inr (7, [.ref (ad 35), .int (f 1), .int (f 2), .int (f 3), .ref (ad (k + 1)), .ref (ad (k + 2)), .ref (ad (k + 3)), .ref (ad (k + 4)), .ref (ad (k + 5)), .ref (ad (k + 6)), .ref (ad (k + 7)), .ref (ad (k + 8)), .ref (ad (k + 9))])
  else if k < 31 then .inl (cI, if (k - 1) % 10 < 5 then 8 else 6, .inl f)
  else if k = 31 then .inr (6, [.ref (ad 35), .ref (ad 32), .int (f 2), .ref (ad 11), .int (f 4), .int (f 5), .int (f 6), .int (f 7)])
  else if k = 32 then .inl (cI, 120, .inl f)
  else if k = 33 then .inl (cI, 7, .inl f)
  else if k = 34 then .inl (cS, 4, .inr (.inr (.inr (.inr (fun j => some (ad (42 + 2 * j)))))))
  else if k = 35 then .inl (cK, 6, .inr (.inr (.inr (.inr (fun j => some (ad (36 + j)))))))
  else if k < 42 then .inr (zKc (k - 36), [])
  else if k % 2 = 0 then .inr (5, [.ref (ad (k + 1)), .int (f 1), .int (f 2)])
  else .inl (cJ, 40, .inr (.inl g))
def cWd (D : va_G) (cI cJ cK cS : ClassId) (ad : Nat → Nat) : zWd := (D, [(cI, .int), (cJ, .long), (cK, .object "BeardHire$Kind"), (cS, .object "BeardHire$Sheet")], ad, 50, fun M k => zCe ad cI cJ cK cS (M.1 k) (M.2 k) k, fun U H => zEC ad (fun q => ∃ k, k < 50 ∧ q = ad k) U H)
def zIsC (w : zWd) : Prop := zOk w ∧ zn w = 50 ∧ (∃ cI cJ cK cS : ClassId, zt w = [(cI, .int), (cJ, .long), (cK, .object "BeardHire$Kind"), (cS, .object "BeardHire$Sheet")] ∧ ∀ M k, zc w M k = zCe (za w) cI cJ cK cS (M.1 k) (M.2 k) k) ∧ ∀ U H, ze w U H → zEC (za w) (zA w) U H
theorem cWd_is {D : va_G} {cI cJ cK cS : ClassId} {ad : Nat → Nat} (hi : ∀ i j, i < 50 → j < 50 → ad i = ad j → i = j) : zIsC (cWd D cI cJ cK cS ad) :=
  ⟨⟨hi, fun M M' i h1 h2 => by show zCe _ _ _ _ _ _ _ _ = zCe _ _ _ _ _ _ _ _; rw [h1, h2], fun s U H H1 h hW hq => zEC.go h hW hq, fun U g mk a H h => zEC.call h⟩, rfl, ⟨cI, cJ, cK, cS, rfl, fun _ _ => rfl⟩, fun _ _ h => h⟩
def zT (t : Nat) : Prop := t = 1 ∨ t = 11 ∨ t = 21
def zS (q : Nat) : Prop := q = 42 ∨ q = 44 ∨ q = 46 ∨ q = 48
theorem zT1 : zT 1 := Or.inl rfl
theorem zT11 : zT 11 := Or.inr (Or.inl rfl)
theorem zT21 : zT 21 := Or.inr (Or.inr rfl)
theorem zS_of {i : Int32} {j : Nat} (h : zix i 4 = some j) : zS (42 + 2 * j) := by
  have := zix_lt h
  unfold zS; omega
def fs9 (w : zWd) : zM → List Value := fun M => [.ref (za w 1), .ref (za w 11), .ref (za w 21), .int (M.1 0 3), .ref (za w 31), .ref (za w 34), .ref (za w 33)]
def fs7 (w : zWd) (t : Nat) : zM → List Value := fun M => [.ref (za w 35), .int (M.1 t 1), .int (M.1 t 2), .int (M.1 t 3), .ref (za w (t + 1)), .ref (za w (t + 2)), .ref (za w (t + 3)), .ref (za w (t + 4)), .ref (za w (t + 5)), .ref (za w (t + 6)), .ref (za w (t + 7)), .ref (za w (t + 8)), .ref (za w (t + 9))]
def fs6 (w : zWd) : zM → List Value := fun M => [.ref (za w 35), .ref (za w 32), .int (M.1 31 2), .ref (za w 11), .int (M.1 31 4), .int (M.1 31 5), .int (M.1 31 6), .int (M.1 31 7)]
def fs5 (w : zWd) (q : Nat) : zM → List Value := fun M => [.ref (za w (q + 1)), .int (M.1 q 1), .int (M.1 q 2)]
def fs0 : zM → List Value := fun _ => []
theorem cC0 {w : zWd} (h : zIsC w) : zOB w 0 9 (fs9 w) := by
  obtain ⟨-, hn, ⟨cI, cJ, cK, cS, -, hc⟩, -⟩ := h
  exact ⟨by omega, fun M => by rw [hc]; rfl⟩
theorem cCt {w : zWd} (h : zIsC w) {t : Nat} (ht : zT t) : zOB w t 7 (fs7 w t) := by
  obtain ⟨-, hn, ⟨cI, cJ, cK, cS, -, hc⟩, -⟩ := h
  rcases ht with rfl | rfl | rfl <;> exact ⟨by omega, fun M => by rw [hc]; rfl⟩
theorem cC31 {w : zWd} (h : zIsC w) : zOB w 31 6 (fs6 w) := by
  obtain ⟨-, hn, ⟨cI, cJ, cK, cS, -, hc⟩, -⟩ := h
  exact ⟨by omega, fun M => by rw [hc]; rfl⟩
theorem cC32 {w : zWd} (h : zIsC w) : zIA w 32 120 := by
  obtain ⟨-, hn, ⟨cI, cJ, cK, cS, ht, hc⟩, -⟩ := h
  exact ⟨by omega, cI, 0, by rw [ht]; rfl, fun M => by rw [hc]; rfl⟩
theorem cC33 {w : zWd} (h : zIsC w) : zIA w 33 7 := by
  obtain ⟨-, hn, ⟨cI, cJ, cK, cS, ht, hc⟩, -⟩ := h
  exact ⟨by omega, cI, 0, by rw [ht]; rfl, fun M => by rw [hc]; rfl⟩
theorem cC34 {w : zWd} (h : zIsC w) : zRA w 34 4 (fun j => 42 + 2 * j) := by
  obtain ⟨-, hn, ⟨cI, cJ, cK, cS, ht, hc⟩, -⟩ := h
  exact ⟨by omega, cS, 3, _, by rw [ht]; rfl, fun M => by rw [hc]; rfl⟩
theorem cC35 {w : zWd} (h : zIsC w) : zRA w 35 6 (fun j => 36 + j) := by
  obtain ⟨-, hn, ⟨cI, cJ, cK, cS, ht, hc⟩, -⟩ := h
  exact ⟨by omega, cK, 2, _, by rw [ht]; rfl, fun M => by rw [hc]; rfl⟩
theorem cCk {w : zWd} (h : zIsC w) {k : Nat} (hk : k < 6) : zOB w (36 + k) (zKc k) fs0 := by
  obtain ⟨-, hn, ⟨cI, cJ, cK, cS, -, hc⟩, -⟩ := h
  refine ⟨by omega, fun M => ?_⟩
  rw [hc]
  rcases (show k = 0 ∨ k = 1 ∨ k = 2 ∨ k = 3 ∨ k = 4 ∨ k = 5 by omega) with rfl | rfl | rfl | rfl | rfl | rfl <;> rfl
theorem cCs {w : zWd} (h : zIsC w) {q : Nat} (hq : zS q) : zOB w q 5 (fs5 w q) := by
  obtain ⟨-, hn, ⟨cI, cJ, cK, cS, -, hc⟩, -⟩ := h
  rcases hq with rfl | rfl | rfl | rfl <;> exact ⟨by omega, fun M => by rw [hc]; rfl⟩
theorem cCs1 {w : zWd} (h : zIsC w) {q : Nat} (hq : zS q) : zLA w (q + 1) 40 := by
  obtain ⟨-, hn, ⟨cI, cJ, cK, cS, ht, hc⟩, -⟩ := h
  rcases hq with rfl | rfl | rfl | rfl <;> exact ⟨by omega, cJ, 1, by rw [ht]; rfl, fun M => by rw [hc]; rfl⟩
theorem cCt1 {w : zWd} (h : zIsC w) {t : Nat} (ht : zT t) : zIA w (t + 1) 8 := by
  obtain ⟨-, hn, ⟨cI, cJ, cK, cS, hy, hc⟩, -⟩ := h
  rcases ht with rfl | rfl | rfl <;> exact ⟨by omega, cI, 0, by rw [hy]; rfl, fun M => by rw [hc]; rfl⟩
theorem cCt2 {w : zWd} (h : zIsC w) {t : Nat} (ht : zT t) : zIA w (t + 2) 8 := by
  obtain ⟨-, hn, ⟨cI, cJ, cK, cS, hy, hc⟩, -⟩ := h
  rcases ht with rfl | rfl | rfl <;> exact ⟨by omega, cI, 0, by rw [hy]; rfl, fun M => by rw [hc]; rfl⟩
theorem cCt3 {w : zWd} (h : zIsC w) {t : Nat} (ht : zT t) : zIA w (t + 3) 8 := by
  obtain ⟨-, hn, ⟨cI, cJ, cK, cS, hy, hc⟩, -⟩ := h
  rcases ht with rfl | rfl | rfl <;> exact ⟨by omega, cI, 0, by rw [hy]; rfl, fun M => by rw [hc]; rfl⟩
theorem cCt4 {w : zWd} (h : zIsC w) {t : Nat} (ht : zT t) : zIA w (t + 4) 8 := by
  obtain ⟨-, hn, ⟨cI, cJ, cK, cS, hy, hc⟩, -⟩ := h
  rcases ht with rfl | rfl | rfl <;> exact ⟨by omega, cI, 0, by rw [hy]; rfl, fun M => by rw [hc]; rfl⟩
theorem cCt5 {w : zWd} (h : zIsC w) {t : Nat} (ht : zT t) : zIA w (t + 5) 6 := by
  obtain ⟨-, hn, ⟨cI, cJ, cK, cS, hy, hc⟩, -⟩ := h
  rcases ht with rfl | rfl | rfl <;> exact ⟨by omega, cI, 0, by rw [hy]; rfl, fun M => by rw [hc]; rfl⟩
theorem cCt6 {w : zWd} (h : zIsC w) {t : Nat} (ht : zT t) : zIA w (t + 6) 6 := by
  obtain ⟨-, hn, ⟨cI, cJ, cK, cS, hy, hc⟩, -⟩ := h
  rcases ht with rfl | rfl | rfl <;> exact ⟨by omega, cI, 0, by rw [hy]; rfl, fun M => by rw [hc]; rfl⟩
theorem cCt7 {w : zWd} (h : zIsC w) {t : Nat} (ht : zT t) : zIA w (t + 7) 6 := by
  obtain ⟨-, hn, ⟨cI, cJ, cK, cS, hy, hc⟩, -⟩ := h
  rcases ht with rfl | rfl | rfl <;> exact ⟨by omega, cI, 0, by rw [hy]; rfl, fun M => by rw [hc]; rfl⟩
theorem cCt8 {w : zWd} (h : zIsC w) {t : Nat} (ht : zT t) : zIA w (t + 8) 6 := by
  obtain ⟨-, hn, ⟨cI, cJ, cK, cS, hy, hc⟩, -⟩ := h
  rcases ht with rfl | rfl | rfl <;> exact ⟨by omega, cI, 0, by rw [hy]; rfl, fun M => by rw [hc]; rfl⟩
theorem cCt9 {w : zWd} (h : zIsC w) {t : Nat} (ht : zT t) : zIA w (t + 9) 6 := by
  obtain ⟨-, hn, ⟨cI, cJ, cK, cS, hy, hc⟩, -⟩ := h
  rcases ht with rfl | rfl | rfl <;> exact ⟨by omega, cI, 0, by rw [hy]; rfl, fun M => by rw [hc]; rfl⟩
theorem cE {w : zWd} (h : zIsC w) {U : State} {H : Heap} (he : ze w U H) : zEC (za w) (zA w) U H := h.2.2.2 U H he
theorem cP9_3 {w : zWd} {M : zM} {v : Int32} : fs9 w (zst M 0 3 v) = (fs9 w M).set 3 (.int v) := by simp [fs9, zst]
theorem cP7_1 {w : zWd} {t : Nat} {M : zM} {v : Int32} : fs7 w t (zst M t 1 v) = (fs7 w t M).set 1 (.int v) := by simp [fs7, zst]
theorem cP7_2 {w : zWd} {t : Nat} {M : zM} {v : Int32} : fs7 w t (zst M t 2 v) = (fs7 w t M).set 2 (.int v) := by simp [fs7, zst]
theorem cP7_3 {w : zWd} {t : Nat} {M : zM} {v : Int32} : fs7 w t (zst M t 3 v) = (fs7 w t M).set 3 (.int v) := by simp [fs7, zst]
theorem cP6_2 {w : zWd} {M : zM} {v : Int32} : fs6 w (zst M 31 2 v) = (fs6 w M).set 2 (.int v) := by simp [fs6, zst]
theorem cP6_4 {w : zWd} {M : zM} {v : Int32} : fs6 w (zst M 31 4 v) = (fs6 w M).set 4 (.int v) := by simp [fs6, zst]
theorem cP6_5 {w : zWd} {M : zM} {v : Int32} : fs6 w (zst M 31 5 v) = (fs6 w M).set 5 (.int v) := by simp [fs6, zst]
theorem cP6_6 {w : zWd} {M : zM} {v : Int32} : fs6 w (zst M 31 6 v) = (fs6 w M).set 6 (.int v) := by simp [fs6, zst]
theorem cP6_7 {w : zWd} {M : zM} {v : Int32} : fs6 w (zst M 31 7 v) = (fs6 w M).set 7 (.int v) := by simp [fs6, zst]
theorem cP5_1 {w : zWd} {q : Nat} {M : zM} {v : Int32} : fs5 w q (zst M q 1 v) = (fs5 w q M).set 1 (.int v) := by simp [fs5, zst]
theorem cP5_2 {w : zWd} {q : Nat} {M : zM} {v : Int32} : fs5 w q (zst M q 2 v) = (fs5 w q M).set 2 (.int v) := by simp [fs5, zst]
def fs10 (w : zWd) : zM → List Value := fun M => [.ref (za w 1), .ref (za w 2), .ref (za w 3), .ref (za w 4), .ref (za w 5), .int (M.1 0 5), .ref (za w 6), .int (M.1 0 7), .int (M.1 0 8), .int (M.1 0 9), .int (M.1 0 10), .int (M.1 0 11), .ref (za w 7), .ref (za w 8), .ref (za w 9), .ref (za w 10)]
def zMe (ad : Nat → Nat) (cI cJ : ClassId) (f : Nat → Int32) (g : Nat → Int64) (k : Nat) : va_E :=
  if k = 0 then .inr (10, [.ref (ad 1), .ref (ad 2), .ref (ad 3), .ref (ad 4), .ref (ad 5), .int (f 5), .ref (ad 6), .int (f 7), .int (f 8), .int (f 9), .int (f 10), .int (f 11), .ref (ad 7), .ref (ad 8), .ref (ad 9), .ref (ad 10)])
  else if k < 5 then .inl (cI, 59, .inl f)
  else if k = 5 then .inl (cI, 7, .inl f)
  else if k = 6 then .inl (cI, 120, .inl f)
  else if k < 9 then .inl (cI, 4, .inl f)
  else .inl (cJ, if k = 9 then 160 else 40, .inr (.inl g))
def mWd (D : va_G) (cI cJ : ClassId) (ad : Nat → Nat) : zWd := (D, [(cI, .int), (cJ, .long)], ad, 11, fun M k => zMe ad cI cJ (M.1 k) (M.2 k) k, fun _ _ => True)
def zIsM (w : zWd) : Prop := zOk w ∧ zn w = 11 ∧ ∃ cI cJ : ClassId, zt w = [(cI, .int), (cJ, .long)] ∧ ∀ M k, zc w M k = zMe (za w) cI cJ (M.1 k) (M.2 k) k
theorem mWd_is {D : va_G} {cI cJ : ClassId} {ad : Nat → Nat} (hi : ∀ i j, i < 11 → j < 11 → ad i = ad j → i = j) : zIsM (mWd D cI cJ ad) :=
  ⟨⟨hi, fun M M' i h1 h2 => by show zMe _ _ _ _ _ _ = zMe _ _ _ _ _ _; rw [h1, h2], fun _ _ _ _ _ _ _ => trivial, fun _ _ _ _ _ _ => trivial⟩, rfl, cI, cJ, rfl, fun _ _ => rfl⟩
theorem mM0 {w : zWd} (h : zIsM w) : zOB w 0 10 (fs10 w) := by
  obtain ⟨-, hn, cI, cJ, -, hc⟩ := h
  exact ⟨by omega, fun M => by rw [hc]; rfl⟩
theorem mM1 {w : zWd} (h : zIsM w) : zIA w 1 59 := by
  obtain ⟨-, hn, cI, cJ, ht, hc⟩ := h
  exact ⟨by omega, cI, 0, by rw [ht]; rfl, fun M => by rw [hc]; rfl⟩
theorem mM2 {w : zWd} (h : zIsM w) : zIA w 2 59 := by
  obtain ⟨-, hn, cI, cJ, ht, hc⟩ := h
  exact ⟨by omega, cI, 0, by rw [ht]; rfl, fun M => by rw [hc]; rfl⟩
theorem mM3 {w : zWd} (h : zIsM w) : zIA w 3 59 := by
  obtain ⟨-, hn, cI, cJ, ht, hc⟩ := h
  exact ⟨by omega, cI, 0, by rw [ht]; rfl, fun M => by rw [hc]; rfl⟩
theorem mM4 {w : zWd} (h : zIsM w) : zIA w 4 59 := by
  obtain ⟨-, hn, cI, cJ, ht, hc⟩ := h
  exact ⟨by omega, cI, 0, by rw [ht]; rfl, fun M => by rw [hc]; rfl⟩
theorem mM5 {w : zWd} (h : zIsM w) : zIA w 5 7 := by
  obtain ⟨-, hn, cI, cJ, ht, hc⟩ := h
  exact ⟨by omega, cI, 0, by rw [ht]; rfl, fun M => by rw [hc]; rfl⟩
theorem mM6 {w : zWd} (h : zIsM w) : zIA w 6 120 := by
  obtain ⟨-, hn, cI, cJ, ht, hc⟩ := h
  exact ⟨by omega, cI, 0, by rw [ht]; rfl, fun M => by rw [hc]; rfl⟩
theorem mM7 {w : zWd} (h : zIsM w) : zIA w 7 4 := by
  obtain ⟨-, hn, cI, cJ, ht, hc⟩ := h
  exact ⟨by omega, cI, 0, by rw [ht]; rfl, fun M => by rw [hc]; rfl⟩
theorem mM8 {w : zWd} (h : zIsM w) : zIA w 8 4 := by
  obtain ⟨-, hn, cI, cJ, ht, hc⟩ := h
  exact ⟨by omega, cI, 0, by rw [ht]; rfl, fun M => by rw [hc]; rfl⟩
theorem mM9 {w : zWd} (h : zIsM w) : zLA w 9 160 := by
  obtain ⟨-, hn, cI, cJ, ht, hc⟩ := h
  exact ⟨by omega, cJ, 1, by rw [ht]; rfl, fun M => by rw [hc]; rfl⟩
theorem mM10 {w : zWd} (h : zIsM w) : zLA w 10 40 := by
  obtain ⟨-, hn, cI, cJ, ht, hc⟩ := h
  exact ⟨by omega, cJ, 1, by rw [ht]; rfl, fun M => by rw [hc]; rfl⟩
theorem mP10_5 {w : zWd} {M : zM} {v : Int32} : fs10 w (zst M 0 5 v) = (fs10 w M).set 5 (.int v) := by simp [fs10, zst]
theorem mP10_7 {w : zWd} {M : zM} {v : Int32} : fs10 w (zst M 0 7 v) = (fs10 w M).set 7 (.int v) := by simp [fs10, zst]
theorem mP10_8 {w : zWd} {M : zM} {v : Int32} : fs10 w (zst M 0 8 v) = (fs10 w M).set 8 (.int v) := by simp [fs10, zst]
theorem mP10_9 {w : zWd} {M : zM} {v : Int32} : fs10 w (zst M 0 9 v) = (fs10 w M).set 9 (.int v) := by simp [fs10, zst]
theorem mP10_10 {w : zWd} {M : zM} {v : Int32} : fs10 w (zst M 0 10 v) = (fs10 w M).set 10 (.int v) := by simp [fs10, zst]
theorem mP10_11 {w : zWd} {M : zM} {v : Int32} : fs10 w (zst M 0 11 v) = (fs10 w M).set 11 (.int v) := by simp [fs10, zst]
theorem vc0 : vwCl[0]? = some (RX0, TX0, 0) := rfl
theorem vc1 : vwCl[1]? = some (RX1, TX1, 0) := rfl
theorem vc2 : vwCl[2]? = some (RX2, TX2, 0) := rfl
theorem vc3 : vwCl[3]? = some (RX3, TX3, 0) := rfl
theorem vc4 : vwCl[4]? = some (RX4, TX4, 0) := rfl
theorem vc5 : vwCl[5]? = some (RX5, TX5, 3) := rfl
theorem vc6 : vwCl[6]? = some (RX6, TX6, 8) := rfl
theorem vc7 : vwCl[7]? = some (RX7, TX7, 13) := rfl
theorem vc8 : vwCl[8]? = some (RX8, TX8, 0) := rfl
theorem vc9 : vwCl[9]? = some (RX9, TX9, 7) := rfl
theorem vc10 : vwCl[10]? = some (RX10, TX10, 16) := rfl
