/-! the law: its entry -/
theorem i_fr {A : Nat → Prop} {ws : va_W} {x : Nat × va_E} (hD : va_D A (ws ++ [x])) {i : Nat} {y : Nat × va_E} (hy : ws[i]? = some y) : y.1 ≠ x.1 := fun e => by
  have hi := (List.getElem?_eq_some_iff.mp hy).1
  have h := hD.1 i ws.length y x (by rw [List.getElem?_append_left hi]; exact hy) (by simp) e
  omega
theorem i_pl {D : va_G} {cl : List vw_C} {ws : va_W} {x : Nat × va_E} {H : Heap} (hP : va_P D cl (ws ++ [x]) H) : va_P D cl ws H ∧ va_P D cl [x] H :=
  ⟨fun k q hq => hP k q (by rw [List.getElem?_append_left (List.getElem?_eq_some_iff.mp hq).1]; exact hq), fun k q hq => hP (ws.length + k) q (by rw [List.getElem?_append_right (Nat.le_add_right _ _), Nat.add_sub_cancel_left]; exact hq)⟩
theorem i_d1 {x : Nat × va_E} : va_D (fun _ => True) [x] := ⟨fun i j p q hi hj _ => by
  have a : i < 1 := (List.getElem?_eq_some_iff.mp hi).1
  have b : j < 1 := (List.getElem?_eq_some_iff.mp hj).1
  omega, fun _ _ _ => trivial⟩
theorem i_dl {A : Nat → Prop} {ws : va_W} {x : Nat × va_E} (hD : va_D A (ws ++ [x])) : A x.1 := hD.2 ws.length x (by simp)
theorem i_fA {A : Nat → Prop} {x : Nat × va_E} {H0 H : Heap} (hA : ∀ q, H0.size ≤ q → A q) (hz : H0.size ≤ H.size) (hx : A x.1) : ∀ q, va_A [x] H.size q → A q := by
  intro q h
  rcases h with ⟨k, e, hk⟩ | h
  · have a : k < 1 := (List.getElem?_eq_some_iff.mp hk).1
    obtain rfl : k = 0 := by omega
    have h1 : x = (q, e) := Option.some.inj hk
    rw [h1] at hx
    exact hx
  · exact hA q (Nat.le_trans hz h)
theorem i_A1 {x : Nat × va_E} {sz q : Nat} (h : va_A [x] sz q) : q = x.1 ∨ sz ≤ q := by
  rcases h with ⟨k, e, hk⟩ | h
  · have a : k < 1 := (List.getElem?_eq_some_iff.mp hk).1
    obtain rfl : k = 0 := by omega
    have h1 : x = (q, e) := Option.some.inj hk
    rw [h1]
    exact Or.inl rfl
  · exact Or.inr h
theorem zCe_ext {ad ad0 : Nat → Nat} {cI cJ cK cS : ClassId} {f : Nat → Int32} {g : Nat → Int64} (h : ∀ k, k < 50 → ad k = ad0 k) (i : Nat) (hi : i < 50) (h34 : i ≠ 34) (h35 : i ≠ 35) : zCe ad cI cJ cK cS f g i = zCe ad0 cI cJ cK cS f g i := by
  unfold zCe
  by_cases c0 : i = 0
  · rw [if_pos c0, if_pos c0, h 1 (by omega), h 11 (by omega), h 21 (by omega), h 31 (by omega), h 34 (by omega), h 33 (by omega)]
  rw [if_neg c0, if_neg c0]
  by_cases c1 : i = 1 ∨ i = 11 ∨ i = 21
  · rw [if_pos c1, if_pos c1, h 35 (by omega), h (i + 1) (by omega), h (i + 2) (by omega), h (i + 3) (by omega), h (i + 4) (by omega), h (i + 5) (by omega), h (i + 6) (by omega), h (i + 7) (by omega), h (i + 8) (by omega), h (i + 9) (by omega)]
  rw [if_neg c1, if_neg c1]
  by_cases c2 : i < 31
  · rw [if_pos c2, if_pos c2]
  rw [if_neg c2, if_neg c2]
  by_cases c3 : i = 31
  · rw [if_pos c3, if_pos c3, h 35 (by omega), h 32 (by omega), h 11 (by omega)]
  rw [if_neg c3, if_neg c3]
  by_cases c4 : i = 32
  · rw [if_pos c4, if_pos c4]
  rw [if_neg c4, if_neg c4]
  by_cases c5 : i = 33
  · rw [if_pos c5, if_pos c5]
  rw [if_neg c5, if_neg c5, if_neg h34, if_neg h34, if_neg h35, if_neg h35]
  by_cases c6 : i < 42
  · rw [if_pos c6, if_pos c6]
  rw [if_neg c6, if_neg c6]
  by_cases c7 : i % 2 = 0
  · rw [if_pos c7, if_pos c7, h (i + 1) (by omega)]
  rw [if_neg c7, if_neg c7]
theorem zC_ext {D : va_G} {cI cJ cK cS : ClassId} {ad ad0 : Nat → Nat} {M : zM} {H : Heap} (h : ∀ k, k < 50 → ad k = ad0 k) (hP : va_P D vwCl (zL (cWd D cI cJ cK cS ad0) M) H) : va_P D vwCl (zL (cWd D cI cJ cK cS ad) M) H := by
  intro i q hq
  obtain ⟨hi, rfl⟩ := zL_of hq
  have hi : i < 50 := hi
  have hz : (zL (cWd D cI cJ cK cS ad0) M)[i]? = some (ad0 i, zCe ad0 cI cJ cK cS (M.1 i) (M.2 i) i) := zL_at (w := cWd D cI cJ cK cS ad0) hi
  show va_at D vwCl (ad i, zCe ad cI cJ cK cS (M.1 i) (M.2 i) i) H
  rw [h i hi]
  by_cases h34 : i = 34
  · subst h34
    have h1 := va_P_q (k := 34) (a := ad0 34) (n := 4) (cA := cS) (f := fun j => some (ad0 (42 + 2 * j))) (g := fun j => some (ad (42 + 2 * j))) hP hz (fun j hj => by rw [h _ (by omega)])
    exact h1 34 _ (List.getElem?_set_self (List.getElem?_eq_some_iff.mp hz).1)
  · by_cases h35 : i = 35
    · subst h35
      have h1 := va_P_q (k := 35) (a := ad0 35) (n := 6) (cA := cK) (f := fun j => some (ad0 (36 + j))) (g := fun j => some (ad (36 + j))) hP hz (fun j hj => by rw [h _ (by omega)])
      exact h1 35 _ (List.getElem?_set_self (List.getElem?_eq_some_iff.mp hz).1)
    · rw [zCe_ext h i hi h34 h35]
      exact hP i _ hz
/-- both worlds behind the constructors -/
theorem i_both {s : State} {D : va_G} {cI cJ cK cS : ClassId} {kA ad am : Nat → Nat} {us : List Nat} {f1 f2 f3 : Nat → Int32} {h1 : Nat} {wm : va_W} {x : va_E} {H H1 : Heap} {locs : List Loc} (had : ∀ k, k < 50 → ad k = us.getD k 0) (hadK : ∀ k, 50 ≤ k → ad k = kA k) (ham : wm = zL (mWd D cI cJ am) iN0) (hK : va_K D vwCl (iT cI cJ cK cS) s) (hE : ∀ (ad : Nat → Nat) (A : Nat → Prop), (∀ k, 50 ≤ k → ad k = kA k) → (∀ q, A q → s.heap.size ≤ q) → zEC ad A s s.heap)
    (hP : va_P D vwCl (zL (cWd D cI cJ cK cS (fun k => us.getD k 0)) (iM0 f1 f2 f3) ++ [(h1, x)]) H) (hD : va_D (fun q => s.heap.size ≤ q) (zL (cWd D cI cJ cK cS (fun k => us.getD k 0)) (iM0 f1 f2 f3) ++ [(h1, x)]))
    (hk1 : ∀ q : Nat, q < H.size → ¬ va_A [(h1, x)] H.size q → H1[q]? = H[q]?) (hz : s.heap.size ≤ H.size) (hP1 : va_P D vwCl wm H1) (hD1 : va_D (va_A [(h1, x)] H.size) wm) (hS : va_S (fun q => s.heap.size ≤ q) s.heap H1 locs) :
    LF s (cWd D cI cJ cK cS ad) (mWd D cI cJ am) ∧ LA s (cWd D cI cJ cK cS ad) (mWd D cI cJ am) (iM0 f1 f2 f3) iN0 H1 := by
  have aC : ∀ k, k < 50 → (zL (cWd D cI cJ cK cS (fun k => us.getD k 0)) (iM0 f1 f2 f3))[k]? = some (us.getD k 0, zc (cWd D cI cJ cK cS (fun k => us.getD k 0)) (iM0 f1 f2 f3) k) := fun k hk => zL_at (w := cWd D cI cJ cK cS (fun k => us.getD k 0)) hk
  have aM : ∀ k, k < 11 → wm[k]? = some (am k, zc (mWd D cI cJ am) iN0 k) := fun k hk => by rw [ham]; exact zL_at (w := mWd D cI cJ am) hk
  have hl : ∀ k, k < 50 → (zL (cWd D cI cJ cK cS (fun k => us.getD k 0)) (iM0 f1 f2 f3) ++ [(h1, x)])[k]? = some (us.getD k 0, zc (cWd D cI cJ cK cS (fun k => us.getD k 0)) (iM0 f1 f2 f3) k) := fun k hk => by
    rw [List.getElem?_append_left (List.getElem?_eq_some_iff.mp (aC k hk)).1]
    exact aC k hk
  have ltC : ∀ k, k < 50 → us.getD k 0 < H.size := fun k hk => (hP k _ (hl k hk)).lt
  have neC : ∀ k, k < 50 → us.getD k 0 ≠ h1 := fun k hk => i_fr hD (aC k hk)
  have geC : ∀ k, k < 50 → s.heap.size ≤ us.getD k 0 := fun k hk => hD.2 k _ (hl k hk)
  have inM : ∀ k, k < 11 → am k = h1 ∨ H.size ≤ am k := fun k hk => i_A1 (hD1.2 k _ (aM k hk))
  have geM : ∀ k, k < 11 → s.heap.size ≤ am k := fun k hk => by
    rcases inM k hk with e | e
    · rw [e]; exact i_dl hD
    · exact Nat.le_trans hz e
  have k1 : zIsC (cWd D cI cJ cK cS ad) := cWd_is (fun i j hi hj e => hD.1 i j _ _ (hl i hi) (hl j hj) (show us.getD i 0 = us.getD j 0 from (had i hi).symm.trans (e.trans (had j hj))))
  have k2 : zIsM (mWd D cI cJ am) := mWd_is (fun i j hi hj e => hD1.1 i j _ _ (aM i hi) (aM j hj) e)
  have k4 : ∀ k, k < 50 → s.heap.size ≤ ad k := fun k hk => by rw [had k hk]; exact geC k hk
  have k3 : zEC ad (fun q => ∃ k, k < 50 ∧ q = ad k) s s.heap := hE ad (fun q => ∃ k, k < 50 ∧ q = ad k) hadK (fun q hq => by
    obtain ⟨k, hk, e⟩ := hq
    rw [e]; exact k4 k hk)
  have k5 : ∀ i j, i < 50 → j < 11 → ad i ≠ am j := fun i j hi hj e => by
    have e2 : us.getD i 0 = am j := (had i hi).symm.trans e
    have g1 := ltC i hi
    have g2 := neC i hi
    rcases inM j hj with g | g
    · exact g2 (e2.trans g)
    · rw [e2] at g1
      exact absurd g1 (Nat.not_lt.mpr g)
  have k6 : va_P D vwCl (zL (cWd D cI cJ cK cS (fun k => us.getD k 0)) (iM0 f1 f2 f3)) H1 := (i_pl hP).1.kept (fun k y hy => by
    obtain ⟨hk, e⟩ := zL_of hy
    have hk : k < 50 := hk
    rw [e]
    refine hk1 (us.getD k 0) (ltC k hk) (fun z => ?_)
    rcases i_A1 z with g | g
    · exact neC k hk g
    · exact absurd (ltC k hk) (Nat.not_lt.mpr g))
  have k7 : va_P D vwCl (zL (mWd D cI cJ am) iN0) H1 := by rw [← ham]; exact hP1
  exact ⟨⟨k1, k2, hK, hK.sub [0, 1] rfl, ⟨k3, trivial⟩, k4, geM, k5⟩, zC_ext (ad0 := fun k => us.getD k 0) had k6, k7, hS.1, fun q hq => hS.2.1 q hq (Nat.not_le.mpr hq)⟩
