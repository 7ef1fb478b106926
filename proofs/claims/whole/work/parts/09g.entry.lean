/-! the law: its entry -/
theorem i_fr {A : Nat → Prop} {ws : va_W} {x : Nat × va_E} (hD : va_D A (ws ++ [x])) {i : Nat} {y : Nat × va_E} (hy : ws[i]? = some y) : y.1 ≠ x.1 := fun e => by
  have hi := (List.getElem?_eq_some_iff.mp hy).1
  have h := hD.1 i ws.length y x (by rw [List.getElem?_append_left hi]; exact hy) (by simp) e
  omega
theorem i_pl {D : va_G} {cl : List vw_C} {ws : va_W} {x : Nat × va_E} {H : Heap} (hP : va_P D cl (ws ++ [x]) H) : va_P D cl ws H ∧ va_P D cl [x] H :=
  ⟨fun k q hq => hP k q (by rw [List.getElem?_append_left (List.getElem?_eq_some_iff.mp hq).1]; exact hq), fun k q hq => hP (ws.length + k) q (by rw [List.getElem?_append_right (Nat.le_add_right _ _), Nat.add_sub_cancel_left]; exact hq)⟩
theorem i_d1 {x : Nat × va_E} : va_D (fun _ => True) [x] := ⟨fun i j p q hi hj _ => by
  have a : i < 1 := (List.getElem?_eq_some_iff.mp hi).1
  have b : j < 1 := (List.getElem?_eq_some_iff.mp hj).1
  omega, fun _ _ _ => trivial⟩
theorem i_dl {A : Nat → Prop} {ws : va_W} {x : Nat × va_E} (hD : va_D A (ws ++ [x])) : A x.1 := hD.2 ws.length x (by simp)
theorem i_fA {A : Nat → Prop} {x : Nat × va_E} {H0 H : Heap} (hA : ∀ q, H0.size ≤ q → A q) (hz : H0.size ≤ H.size) (hx : A x.1) : ∀ q, va_A [x] H.size q → A q := by
  intro q h
  rcases h with ⟨k, e, hk⟩ | h
  · have a : k < 1 := (List.getElem?_eq_some_iff.mp hk).1
    obtain rfl : k = 0 := by omega
    have h1 : x = (q, e) := Option.some.inj hk
    rw [h1] at hx
    exact hx
  · exact hA q (Nat.le_trans hz h)
theorem i_A1 {x : Nat × va_E} {sz q : Nat} (h : va_A [x] sz q) : q = x.1 ∨ sz ≤ q := by
  rcases h with ⟨k, e, hk⟩ | h
  · have a : k < 1 := (List.getElem?_eq_some_iff.mp hk).1
    obtain rfl : k = 0 := by omega
    have h1 : x = (q, e) := Option.some.inj hk
    rw [h1]
    exact Or.inl rfl
  · exact Or.inr h
theorem zCe_ext {ad ad0 : Nat → Nat} {cI cJ cK cS : ClassId} {f : Nat → Int32} {g : Nat → Int64} (h : ∀ k, k < 50 → ad k = ad0 k) (i : Nat) (hi : i < 50) (h34 : i ≠ 34) (h35 : i ≠ 35) : zCe ad cI cJ cK cS f g i = zCe ad0 cI cJ cK cS f g i := by
  unfold zCe
  by_cases c0 : i = 0
  · rw [if_pos c0, if_pos c0, h 1 (by omega), h 11 (by omega), h 21 (by omega), h 31 (by omega), h 34 (by omega), h 33 (by omega)]
  rw [if_neg c0, if_neg c0]
  by_cases c1 : i = 1 ∨ i = 11 ∨ i = 21
  · rw [if_pos c1, if_pos c1, h 35 (by omega), h (i + 1) (by omega), h (i + 2) (by omega), h (i + 3) (by omega), h (i + 4) (by omega), h (i + 5) (by omega), h (i + 6) (by omega), h (i + 7) (by omega), h (i + 8) (by omega), h (i + 9) (by omega)]
  rw [if_neg c1, if_neg c1]
  by_cases c2 : i < 31
  · rw [if_pos c2, if_pos c2]
  rw [if_neg c2, if_neg c2]
  by_cases c3 : i = 31
  · rw [if_pos c3, if_pos c3, h 35 (by omega), h 32 (by omega), h 11 (by omega)]
  rw [if_neg c3, if_neg c3]
  by_cases c4 : i = 32
  · rw [if_pos c4, if_pos c4]
  rw [if_neg c4, if_neg c4]
  by_cases c5 : i = 33
  · rw [if_pos c5, if_pos c5]
  rw [if_neg c5, if_neg c5, if_neg h34, if_neg h34, if_neg h35, if_neg h35]
  by_cases c6 : i < 42
  · rw [if_pos c6, if_pos c6]
  rw [if_neg c6, if_neg c6]
  by_cases c7 : i % 2 = 0
  · rw [if_pos c7, if_pos c7, h (i + 1) (by omega)]
  rw [if_neg c7, if_neg c7]
theorem zC_ext {D : va_G} {cI cJ cK cS : ClassId} {ad ad0 : Nat → Nat} {M : zM} {H : Heap} (h : ∀ k, k < 50 → ad k = ad0 k) (hP : va_P D vwCl (zL (cWd D cI cJ cK cS ad0) M) H) : va_P D vwCl (zL (cWd D cI cJ cK cS ad) M) H := by
  intro i q hq
  obtain ⟨hi, rfl⟩ := zL_of hq
  have hi : i < 50 := hi
  have hz : (zL (cWd D cI cJ cK cS ad0) M)[i]? = some (ad0 i, zCe ad0 cI cJ cK cS (M.1 i) (M.2 i) i) := zL_at (w := cWd D cI cJ cK cS ad0) hi
  show va_at D vwCl (ad i, zCe ad cI cJ cK cS (M.1 i) (M.2 i) i) H
  rw [h i hi]
  by_cases h34 : i = 34
  · subst h34
    have h1 := va_P_q (k := 34) (a := ad0 34) (n := 4) (cA := cS) (f := fun j => some (ad0 (42 + 2 * j))) (g := fun j => some (ad (42 + 2 * j))) hP hz (fun j hj => by rw [h _ (by omega)])
    exact h1 34 _ (List.getElem?_set_self (List.getElem?_eq_some_iff.mp hz).1)
  · by_cases h35 : i = 35
    · subst h35
      have h1 := va_P_q (k := 35) (a := ad0 35) (n := 6) (cA := cK) (f := fun j => some (ad0 (36 + j))) (g := fun j => some (ad (36 + j))) hP hz (fun j hj => by rw [h _ (by omega)])
      exact h1 35 _ (List.getElem?_set_self (List.getElem?_eq_some_iff.mp hz).1)
    · rw [zCe_ext h i hi h34 h35]
      exact hP i _ hz
/-- both worlds behind the constructors -/
theorem i_both {s : State} {D : va_G} {cI cJ cK cS : ClassId} {kA : Nat → Nat} {us : List Nat} {f1 f2 f3 : Nat → Int32} {h0 h1 : Nat} {q : Nat → Nat} {x : va_E} {H H1 : Heap} {locs : List Loc} (hK : va_K D vwCl (iT cI cJ cK cS) s) (hE : ∀ (ad : Nat → Nat) (A : Nat → Prop), (∀ k, 50 ≤ k → ad k = kA k) → (∀ q, A q → s.heap.size ≤ q) → zEC ad A s s.heap)
    (hP : va_P D vwCl (zL (cWd D cI cJ cK cS (fun k => us.getD k 0)) (iM0 f1 f2 f3) ++ [(h1, x)]) H) (hD : va_D (fun q => s.heap.size ≤ q) (zL (cWd D cI cJ cK cS (fun k => us.getD k 0)) (iM0 f1 f2 f3) ++ [(h1, x)]))
    (hk1 : ∀ q : Nat, q < H.size → ¬ va_A [(h1, x)] H.size q → H1[q]? = H[q]?) (hz : s.heap.size ≤ H.size) (hP1 : va_P D vwCl (wMo cI cJ h1 q (fM0 6)) H1) (hD1 : va_D (va_A [(h1, x)] H.size) (wMo cI cJ h1 q (fM0 6))) (hS : va_S (fun q => s.heap.size ≤ q) s.heap H1 locs) (hu : us[0]? = some h0) :
    ∃ ad am : Nat → Nat, LF s (cWd D cI cJ cK cS ad) (mWd D cI cJ am) ∧ LA s (cWd D cI cJ cK cS ad) (mWd D cI cJ am) (iM0 f1 f2 f3) iN0 H1 ∧ ad 0 = h0 ∧ am 0 = h1 := by
  have eC : ∀ k, k < 50 → (fun k => if k < 50 then us.getD k 0 else kA k) k = (fun k => us.getD k 0) k := fun k hk => if_pos hk
  have aC : ∀ k, k < 50 → (zL (cWd D cI cJ cK cS (fun k => us.getD k 0)) (iM0 f1 f2 f3))[k]? = some (us.getD k 0, zc (cWd D cI cJ cK cS (fun k => us.getD k 0)) (iM0 f1 f2 f3) k) := fun k hk => zL_at (w := cWd D cI cJ cK cS (fun k => us.getD k 0)) hk
  have aM : ∀ k, k < 11 → (wMo cI cJ h1 q (fM0 6))[k]? = some ((fun k => if k = 0 then h1 else q k) k, zc (mWd D cI cJ (fun k => if k = 0 then h1 else q k)) iN0 k) := fun k hk => zL_at (w := mWd D cI cJ (fun k => if k = 0 then h1 else q k)) (M := iN0) hk
  have hl : ∀ k, k < 50 → (zL (cWd D cI cJ cK cS (fun k => us.getD k 0)) (iM0 f1 f2 f3) ++ [(h1, x)])[k]? = some (us.getD k 0, zc (cWd D cI cJ cK cS (fun k => us.getD k 0)) (iM0 f1 f2 f3) k) := fun k hk => by
    rw [List.getElem?_append_left (List.getElem?_eq_some_iff.mp (aC k hk)).1]
    exact aC k hk
  have ltC : ∀ k, k < 50 → us.getD k 0 < H.size := fun k hk => (hP k _ (hl k hk)).lt
  have neC : ∀ k, k < 50 → us.getD k 0 ≠ h1 := fun k hk => i_fr hD (aC k hk)
  have geC : ∀ k, k < 50 → s.heap.size ≤ us.getD k 0 := fun k hk => hD.2 k _ (hl k hk)
  have inM : ∀ k, k < 11 → (fun k => if k = 0 then h1 else q k) k = h1 ∨ H.size ≤ (fun k => if k = 0 then h1 else q k) k := fun k hk => i_A1 (hD1.2 k _ (aM k hk))
  have geM : ∀ k, k < 11 → s.heap.size ≤ (fun k => if k = 0 then h1 else q k) k := fun k hk => by
    rcases inM k hk with e | e
    · rw [e]; exact i_dl hD
    · exact Nat.le_trans hz e
  refine ⟨fun k => if k < 50 then us.getD k 0 else kA k, fun k => if k = 0 then h1 else q k, ⟨cWd_is (fun i j hi hj e => ?_), mWd_is (fun i j hi hj e => ?_), hK, hK.sub [0, 1] rfl, ⟨hE _ _ (fun k hk => if_neg (Nat.not_lt.mpr hk)) (fun q hq => ?_), trivial⟩, fun k hk => ?_, fun k hk => geM k hk, fun i j hi hj e => ?_⟩, ⟨?_, ?_, hS.1, fun q hq => hS.2.1 q hq (Nat.not_le.mpr hq)⟩, ?_, rfl⟩
  · rw [eC i hi, eC j hj] at e
    exact hD.1 i j _ _ (hl i hi) (hl j hj) e
  · exact hD1.1 i j _ _ (aM i hi) (aM j hj) e
  · obtain ⟨k, hk, rfl⟩ := hq
    rw [eC k hk]
    exact geC k hk
  · show s.heap.size ≤ (fun k => if k < 50 then us.getD k 0 else kA k) k
    rw [eC k hk]
    exact geC k hk
  · have hi : i < 50 := hi
    have e1 : (fun k => if k < 50 then us.getD k 0 else kA k) i = (fun k => if k = 0 then h1 else q k) j := e
    rw [eC i hi] at e1
    have e2 : us.getD i 0 = (fun k => if k = 0 then h1 else q k) j := e1
    have g1 := ltC i hi
    have g2 := neC i hi
    rcases inM j hj with g | g
    · exact g2 (e2.trans g)
    · omega
  · refine zC_ext (D := D) eC ((i_pl hP).1.kept (fun k y hy => ?_))
    obtain ⟨hk, rfl⟩ := zL_of hy
    have hk : k < 50 := hk
    refine hk1 (us.getD k 0) (ltC k hk) (fun z => ?_)
    have g1 := ltC k hk
    have g2 := neC k hk
    rcases i_A1 z with g | g
    · exact g2 g
    · omega
  · exact hP1
  · show (if 0 < 50 then us.getD 0 0 else kA 0) = h0
    rw [if_pos (by decide), List.getD_eq_getElem?_getD, hu]
    rfl
