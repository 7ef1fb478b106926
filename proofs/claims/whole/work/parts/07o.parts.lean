/-! the text: numbers, what must come, parts of an item -/
section TO
variable {M N M' N' : zM}
theorem zst_id {k j : Nat} {v : Int32} (h : M.1 k j = v) : zst M k j v = M := by
  refine Prod.ext ?_ rfl
  funext x y
  show (if x = k ∧ y = j then v else M.1 x y) = M.1 x y
  by_cases c : x = k ∧ y = j
  · rw [if_pos c, c.1, c.2, h]
  · rw [if_neg c]
theorem m_must1 (h : N.1 0 11 = 0) (e : fX10_token N = some N') : fX10_must N 1 = some N' := by
  unfold fX10_must
  simp only [zj_n, h, o1, zbl0, z_bn, zst_id h, e, if_true]
theorem m_must0 {a : Int32} (h : a = 0 ∨ ¬ N.1 0 11 = 0) : fX10_must N a = some (zst N 0 11 1) := by
  have h1 : ¬ (zst N 0 11 1).1 0 11 = 0 := by rw [zs]; decide
  unfold fX10_must
  by_cases c : N.1 0 11 = 0
  · have h2 : a = 0 := h.elim id (fun z => absurd c z)
    simp only [zj_n, if_pos c, if_pos h2, zbl1, z_bn, if_neg h1]
  · simp only [zj_n, if_neg c, zbl1, z_bn, if_neg h1]
/-- what changes -/
def FC (M M' : zM) : Prop := (∀ x, x < 11 ∨ 21 ≤ x → x ≠ 31 → M'.1 x = M.1 x) ∧ M'.2 = M.2 ∧ M'.1 31 2 = M.1 31 2
def FM (N N' : zM) : Prop := (∀ x, x ≠ 0 → x ≠ 1 → N'.1 x = N.1 x) ∧ N'.2 = N.2 ∧ ∀ j, j < 8 → N'.1 0 j = N.1 0 j
theorem FC.tr {M'' : zM} (h : FC M M') (h' : FC M' M'') : FC M M'' := ⟨fun x a b => (h'.1 x a b).trans (h.1 x a b), h'.2.1.trans h.2.1, h'.2.2.trans h.2.2⟩
theorem FM.tr {N'' : zM} (h : FM N N') (h' : FM N' N'') : FM N N'' := ⟨fun x a b => (h'.1 x a b).trans (h.1 x a b), h'.2.1.trans h.2.1, fun j hj => (h'.2.2 j hj).trans (h.2.2 j hj)⟩
theorem FC.rf : FC M M := ⟨fun _ _ _ => rfl, rfl, rfl⟩
theorem FM.rf : FM N N := ⟨fun _ _ _ => rfl, rfl, fun _ _ => rfl⟩
theorem FC.t (h : FrT 11 M M') : FC M M' := ⟨fun x a b => h.1 x a, h.2, by rw [h.1 31 (by decide)]⟩
theorem FM.n (h : FrN N N') : FM N N' := ⟨fun x a b => h.1 x b, h.2, fun j _ => by rw [h.1 0 (by decide)]⟩
theorem FM.s {j : Nat} {v : Int32} (h : 8 ≤ j) : FM N (zst N 0 j v) := ⟨fun x a b => st_ne a, rfl, fun i hi => zf (by omega)⟩
/-- the same but for the token -/
def SC (M M' : zM) : Prop := (∀ x, x ≠ 31 → M'.1 x = M.1 x) ∧ M'.2 = M.2 ∧ M'.1 31 2 = M.1 31 2
def SM (N N' : zM) : Prop := (∀ x, x ≠ 0 → N'.1 x = N.1 x) ∧ N'.2 = N.2 ∧ ∀ j, j < 8 → N'.1 0 j = N.1 0 j
theorem SC.tr {M'' : zM} (h : SC M M') (h' : SC M' M'') : SC M M'' := ⟨fun x a => (h'.1 x a).trans (h.1 x a), h'.2.1.trans h.2.1, h'.2.2.trans h.2.2⟩
theorem SM.tr {N'' : zM} (h : SM N N') (h' : SM N' N'') : SM N N'' := ⟨fun x a => (h'.1 x a).trans (h.1 x a), h'.2.1.trans h.2.1, fun j hj => (h'.2.2 j hj).trans (h.2.2 j hj)⟩
theorem SC.c (h : SC M M') : FC M M' := ⟨fun x _ b => h.1 x b, h.2.1, h.2.2⟩
theorem SM.m (h : SM N N') : FM N N' := ⟨fun x a _ => h.1 x a, h.2.1, h.2.2⟩
theorem SM.s {j : Nat} {v : Int32} (h : 8 ≤ j) : SM N (zst N 0 j v) := ⟨fun x a => st_ne a, rfl, fun i hi => zf (by omega)⟩
theorem SC.sim {n nb nw : Nat} {s : Nat → Int32} (h : SC M M') (hS : Sim 11 n nb nw M s) : Sim 11 n nb nw M' s := hS.congrM (fun x a b => h.1 x (by omega))
theorem TP.mv {L p q : Nat} {k : Int32} (h : TP M N L p q k) (h1 : M'.1 31 = M.1 31) (h2 : M'.1 32 = M.1 32) (h3 : ∀ j, j ≠ 10 → N'.1 0 j = N.1 0 j) (h4 : N'.1 6 = N.1 6) : TP M' N' L p q k := by
  obtain ⟨⟨hL, l1, l2, l3⟩, hpq, hqL, f5, f8, f6, f9, f11, f4, ht, h7⟩ := h
  refine ⟨⟨hL, by rw [h1]; exact l1, by rw [h3 7 (by decide)]; exact l2, fun j hj => by rw [h2, h4]; exact l3 j hj⟩, hpq, hqL, by rw [h1]; exact f5, by rw [h3 8 (by decide)]; exact f8, by rw [h1]; exact f6, by rw [h3 9 (by decide)]; exact f9, by rw [h3 11 (by decide)]; exact f11, by rw [h1]; exact f4, by rw [h4]; exact ht, by rw [h1, h4]; exact h7⟩
theorem t_adv {L p q : Nat} {k : Int32} (h : TP M N L p q k) : ∃ M' N' p' q' k', fX6_advance M = some M' ∧ fX10_must N 1 = some N' ∧ TP M' N' L p' q' k' ∧ q ≤ p' ∧ SC M M' ∧ SM N N' ∧ N'.1 0 10 = N.1 0 10 := by
  obtain ⟨hx, hpq, hqL, f5, f8, f6, f9, f11, f4, ht, h7⟩ := h
  obtain ⟨M', N', p', q', k', a1, a2, a3, a4, a5, ⟨b1, b2, b3, b4, b5, b6⟩, ⟨d1, d2, d3, d4, d5⟩, a8, a9⟩ := adv_sim hx hqL f6 f9
  obtain ⟨hL, l1, l2, l3⟩ := hx
  refine ⟨M', N', p', q', k', a1, m_must1 f11 a2, ⟨⟨hL, by rw [b1]; exact l1, by rw [d3 7 (by decide) (by decide)]; exact l2, fun j hj => by rw [b2 32 (by decide), d1 6 (by decide)]; exact l3 j hj⟩, a4, a5, b4, d4, b5, d5, by rw [d3 11 (by decide) (by decide)]; exact f11, b6, by rw [d1 6 (by decide)]; exact a8, by rw [d1 6 (by decide)]; exact a9⟩, a3, ⟨b2, b3, b1⟩, ⟨d1, d2, fun j hj => d3 j (by omega) (by omega)⟩, d3 10 (by decide) (by decide)⟩
def mv (m : Nat) (tp : Nat → Int32) (p : Nat) : Nat → Nat
  | 0 => 0
  | i + 1 => if mv m tp p i ≤ m then 10 * mv m tp p i + dgv (tp (p + i)) else mv m tp p i
theorem mv_cv {m : Nat} (hm : m ≤ 9999) (tp : Nat → Int32) (p : Nat) : ∀ i, (∀ x, x < i → dg (tp (p + x))) → (cv tp p i ≤ m → mv m tp p i = cv tp p i) ∧ (m < cv tp p i → m < mv m tp p i) ∧ mv m tp p i ≤ 10 * m + 9 := by
  intro i
  induction i with
  | zero => exact fun _ => ⟨fun _ => rfl, fun h => h, Nat.zero_le _⟩
  | succ i ih =>
    intro hd
    obtain ⟨a, b, c⟩ := ih (fun x hx => hd x (by omega))
    have h9 := (dg_nI (hd i (by omega))).2
    have hc := cv_le tp p i
    have e1 : cv tp p (i + 1) = min 10000 (cv tp p i * 10 + dgv (tp (p + i))) := rfl
    have e2 : mv m tp p (i + 1) = if mv m tp p i ≤ m then 10 * mv m tp p i + dgv (tp (p + i)) else mv m tp p i := rfl
    by_cases w : cv tp p i ≤ m
    · have := a w
      rw [e2, if_pos (by omega), e1]
      omega
    · have := b (by omega)
      rw [e2, if_neg (by omega), e1]
      omega
theorem mv_st {m c : Nat} {x : Int32} (h : dg x) : ((10 : Int32) * nI c + x) - 48 = nI (10 * c + dgv x) := by
  obtain ⟨h1, h2⟩ := dg_nI h
  refine (congrArg (fun z => ((10 : Int32) * nI c + z) - 48) h1).trans ?_
  show (nI 10 * nI c + nI (48 + dgv x)) - nI 48 = _
  rw [pk_mul, nI_add, pk_sub (by omega)]; congr 1; omega
theorem m_numL {L p q : Nat} {E : Int32 → Option zM} (hL : L ≤ 120) (hqL : q ≤ L) (e9 : N.1 0 9 = nI q) (hm : ∀ x, x < q - p → dg (N.1 6 (p + x))) : ∀ (d j f : Nat), j + d = q - p → d < f → p ≤ q → zL2 (bX10_number_29 N 1 E) f (nI (mv 9999 (N.1 6) p j)) (nI (p + j)) = E (nI (mv 9999 (N.1 6) p (q - p))) := by
  intro d
  induction d with
  | zero =>
    intro j f hj hf hpq
    obtain ⟨f, rfl⟩ : ∃ g, f = g + 1 := ⟨f - 1, by omega⟩
    have : j = q - p := by omega
    subst this
    rw [zL2_e]; unfold bX10_number_29
    rw [e9, if_pos (nI_le (show q ≤ p + (q - p) by omega) (by omega))]
  | succ d ih =>
    intro j f hj hf hpq
    obtain ⟨f, rfl⟩ : ∃ g, f = g + 1 := ⟨f - 1, by omega⟩
    have hb := (mv_cv (m := 9999) (by decide) (N.1 6) p j (fun x hx => hm x (by omega))).2.2
    have h2 := mv_st (m := 0) (c := mv 9999 (N.1 6) p j) (hm j (by omega))
    have hlt : ¬ nI q ≤ nI (p + j) := nI_ge (show p + j < q by omega) (by omega)
    rw [zL2_e, ← ih (j + 1) f (by omega) (by omega) hpq]
    generalize zL2 (bX10_number_29 N 1 E) f = rc
    unfold bX10_number_29
    have hw : mv 9999 (N.1 6) p (j + 1) = if mv 9999 (N.1 6) p j ≤ 9999 then 10 * mv 9999 (N.1 6) p j + dgv (N.1 6 (p + j)) else mv 9999 (N.1 6) p j := rfl
    by_cases c : mv 9999 (N.1 6) p j ≤ 9999
    · have c1 : nI (mv 9999 (N.1 6) p j) ≤ 9999 := nI_le (b := 9999) c (by decide)
      simp only [e9, if_neg hlt, o1, zj_n, if_pos c1, ix120 (show p + j < 120 by omega), z_bn, h2, hw, if_pos c, nI_1, Nat.add_assoc]
    · have c1 : ¬ nI (mv 9999 (N.1 6) p j) ≤ 9999 := nI_ge (a := 9999) (by omega) (by omega)
      simp only [e9, if_neg hlt, o1, zj_n, if_neg c1, z_bn, hw, if_neg c, nI_1, Nat.add_assoc]
theorem m_hereL {L p q : Nat} {E : Int32 → Option Int32} (hL : L ≤ 120) (hqL : q ≤ L) (e9 : N.1 0 9 = nI q) (hm : ∀ x, x < q - p → dg (N.1 6 (p + x))) : ∀ (d j f : Nat), j + d = q - p → d < f → p ≤ q → zL2 (bX10_numberHere_7 N E) f (nI (mv 99 (N.1 6) p j)) (nI (p + j)) = E (nI (mv 99 (N.1 6) p (q - p))) := by
  intro d
  induction d with
  | zero =>
    intro j f hj hf hpq
    obtain ⟨f, rfl⟩ : ∃ g, f = g + 1 := ⟨f - 1, by omega⟩
    have : j = q - p := by omega
    subst this
    rw [zL2_e]; unfold bX10_numberHere_7
    rw [e9, if_pos (nI_le (show q ≤ p + (q - p) by omega) (by omega))]
  | succ d ih =>
    intro j f hj hf hpq
    obtain ⟨f, rfl⟩ : ∃ g, f = g + 1 := ⟨f - 1, by omega⟩
    have hb := (mv_cv (m := 99) (by decide) (N.1 6) p j (fun x hx => hm x (by omega))).2.2
    have h2 := mv_st (m := 0) (c := mv 99 (N.1 6) p j) (hm j (by omega))
    have hlt : ¬ nI q ≤ nI (p + j) := nI_ge (show p + j < q by omega) (by omega)
    rw [zL2_e, ← ih (j + 1) f (by omega) (by omega) hpq]
    generalize zL2 (bX10_numberHere_7 N E) f = rc
    unfold bX10_numberHere_7
    have hw : mv 99 (N.1 6) p (j + 1) = if mv 99 (N.1 6) p j ≤ 99 then 10 * mv 99 (N.1 6) p j + dgv (N.1 6 (p + j)) else mv 99 (N.1 6) p j := rfl
    by_cases c : mv 99 (N.1 6) p j ≤ 99
    · have c1 : nI (mv 99 (N.1 6) p j) ≤ 99 := nI_le (b := 99) c (by decide)
      simp only [e9, if_neg hlt, zj_n, if_pos c1, ix120 (show p + j < 120 by omega), z_bn, h2, hw, if_pos c, nI_1, Nat.add_assoc]
    · have c1 : ¬ nI (mv 99 (N.1 6) p j) ≤ 99 := nI_ge (a := 99) (by omega) (by omega)
      simp only [e9, if_neg hlt, zj_n, if_neg c1, z_bn, hw, if_neg c, nI_1, Nat.add_assoc]
theorem m_hereS {L q : Nat} {E : Int32 → Option Int32} (hL : L ≤ 120) (hqL : q ≤ L) (e9 : N.1 0 9 = nI q) : ∀ (d j f : Nat) (y : Int32), j + d = q → d < f → ∃ z, zL2 (bX10_numberHere_7 N E) f y (nI j) = E z := by
  intro d
  induction d with
  | zero =>
    intro j f y hj hf
    obtain ⟨f, rfl⟩ : ∃ g, f = g + 1 := ⟨f - 1, by omega⟩
    refine ⟨y, ?_⟩
    rw [zL2_e]; unfold bX10_numberHere_7
    rw [e9, if_pos (nI_le (show q ≤ j by omega) (by omega))]
  | succ d ih =>
    intro j f y hj hf
    obtain ⟨f, rfl⟩ : ∃ g, f = g + 1 := ⟨f - 1, by omega⟩
    have hlt : ¬ nI q ≤ nI j := nI_ge (show j < q by omega) (by omega)
    by_cases c : y ≤ 99
    · obtain ⟨z, hz⟩ := ih (j + 1) f ((((10 : Int32) * y) + (N.1 6 j)) - (48 : Int32)) (by omega) (by omega)
      refine ⟨z, ?_⟩
      rw [zL2_e, ← hz]
      generalize zL2 (bX10_numberHere_7 N E) f = rc
      unfold bX10_numberHere_7
      simp only [e9, if_neg hlt, zj_n, if_pos c, ix120 (show j < 120 by omega), z_bn, nI_1]
    · obtain ⟨z, hz⟩ := ih (j + 1) f y (by omega) (by omega)
      refine ⟨z, ?_⟩
      rw [zL2_e, ← hz]
      generalize zL2 (bX10_numberHere_7 N E) f = rc
      unfold bX10_numberHere_7
      simp only [e9, if_neg hlt, zj_n, if_neg c, z_bn, nI_1]
end TO
