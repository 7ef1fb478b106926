/-! the text: what stands here -/
section TQ
variable {M N M' N' : zM}
/-- where the model stands, wrong or not -/
def AT (N : zM) (L p q : Nat) (k : Int32) : Prop := L ≤ 120 ∧ p ≤ q ∧ q ≤ L ∧ N.1 0 7 = nI L ∧ N.1 0 8 = nI p ∧ N.1 0 9 = nI q ∧ TokC (N.1 6) L p q k
theorem TP.at {L p q : Nat} {k : Int32} (h : TP M N L p q k) : AT N L p q k := by
  obtain ⟨⟨hL, l1, l2, l3⟩, hpq, hqL, f5, f8, f6, f9, f11, f4, ht, h7⟩ := h
  exact ⟨hL, hpq, hqL, l2, f8, f9, ht⟩
theorem AT.w {L p q : Nat} {k v : Int32} (h : AT N L p q k) : AT (zst N 0 11 v) L p q k := by
  obtain ⟨hL, hpq, hqL, l2, f8, f9, ht⟩ := h
  exact ⟨hL, hpq, hqL, by rw [zf (by decide)]; exact l2, by rw [zf (by decide)]; exact f8, by rw [zf (by decide)]; exact f9, by rw [st_ne (by decide)]; exact ht⟩
theorem t_dig {L p q : Nat} {k : Int32} (h : AT N L p q k) : (k = 2 ∧ p < q ∧ (∀ x, x < q - p → dg (N.1 6 (p + x))) ∧ ∃ b, fX10_byteAt N (nI p) = some b ∧ fX10_isDigit b = some 1) ∨ (¬ k = 2 ∧ ∃ b, fX10_byteAt N (nI p) = some b ∧ fX10_isDigit b = some 0) := by
  obtain ⟨hL, hpq, hqL, l2, f8, f9, ht⟩ := h
  have neg : ∀ b : Int32, ¬ dg b → fX10_isDigit b = some 0 := fun b hb => by
    rcases c_dg b with ⟨z, _⟩ | ⟨_, _, z⟩
    · exact absurd z hb
    · exact z
  rcases ht with ⟨rfl, a, b⟩ | ⟨rfl, a, b, c⟩ | ⟨rfl, a, b, c⟩ | ⟨rfl, a, b, c⟩ | ⟨rfl, a, b, c, d, -⟩
  · exact Or.inr ⟨by decide, -1, by rw [a]; exact m_byteO hL l2, neg (-1) (by unfold dg; decide)⟩
  · exact Or.inr ⟨by decide, _, m_byteI hL l2 (by omega), neg _ (lt_ne (c p (Nat.le_refl _) a))⟩
  · refine Or.inl ⟨rfl, a, fun x hx => c (p + x) (by omega) (by omega), _, m_byteI hL l2 (by omega), ?_⟩
    rcases c_dg (N.1 6 p) with ⟨_, _, z⟩ | ⟨z, _⟩
    · exact z
    · exact absurd (c p (Nat.le_refl _) a) z
  · exact Or.inr ⟨by decide, _, m_byteI hL l2 a, neg _ (by rw [c]; unfold dg; decide)⟩
  · exact Or.inr ⟨by decide, _, m_byteI hL l2 a, neg _ d⟩
theorem m_number0 {a b : Int32} (h : ¬ N.1 0 11 = 0) : fX10_number N a b = some N := by
  unfold fX10_number; rw [if_neg h]
theorem t_num {L p q : Nat} {k : Int32} (h : TP M N L p q k) {hi : Nat} (hh : hi ≤ 9999) : (∃ v M' N' p' q' k', v ≤ hi ∧ fX6_isNumber M (nI hi) = some 1 ∧ fX6_takeNumber M = some (nI v, M') ∧ fX10_number N 0 (nI hi) = some N' ∧ N'.1 0 10 = nI v ∧ TP M' N' L p' q' k' ∧ p < p' ∧ SC M M' ∧ SM N N') ∨ (fX6_isNumber M (nI hi) = some 0 ∧ ∃ N', fX10_number N 0 (nI hi) = some N' ∧ N'.1 0 11 = 1 ∧ AT N' L p q k ∧ SM N N') := by
  have hat := h.at
  have hd := t_dig hat
  have h' := h
  obtain ⟨⟨hL, l1, l2, l3⟩, hpq, hqL, f5, f8, f6, f9, f11, f4, ht, h7⟩ := h'
  have hif : ∀ v : Nat, v ≤ 99999 → fX10_in (nI v).toInt64 (0 : Int32).toInt64 (nI hi).toInt64 = some (if v ≤ hi then 1 else 0) := by
    intro v hv
    rw [m_in, Int32.toInt_toInt64, Int32.toInt_toInt64, Int32.toInt_toInt64, nI_toInt (show v < 2 ^ 31 by omega), nI_toInt (show hi < 2 ^ 31 by omega), show (0 : Int32).toInt = 0 from rfl]
    by_cases c : v ≤ hi
    · rw [if_pos c, if_pos (by omega)]
    · rw [if_neg c, if_neg (by omega)]
  have bad : ∀ v : Int32, ∃ N', fX10_must (zst N 0 10 v) 0 = some N' ∧ N'.1 0 11 = 1 ∧ AT N' L p q k ∧ SM N N' := by
    intro v
    refine ⟨_, m_must0 (Or.inl rfl), by rw [zs], AT.w ?_, (SM.s (by decide)).tr (SM.s (by decide))⟩
    exact ⟨hL, hpq, hqL, by rw [zf (by decide)]; exact l2, by rw [zf (by decide)]; exact f8, by rw [zf (by decide)]; exact f9, by rw [st_ne (by decide)]; exact ht⟩
  rcases hd with ⟨rfl, hlt, hdg, b, hb1, hb2⟩ | ⟨hk, b, hb1, hb2⟩
  · obtain ⟨v1, v2, v3⟩ := mv_cv (m := 9999) (Nat.le_refl _) (N.1 6) p (q - p) hdg
    have hcl := cv_le (N.1 6) p (q - p)
    have lp : ∀ E : Int32 → Option zM, lX10_number_29 N 1 E zFuel 0 (nI p) = E (nI (mv 9999 (N.1 6) p (q - p))) := fun E => m_numL hL hqL f9 hdg (q - p) 0 zFuel (by omega) (zF0 (by omega)) hpq
    have e7 := h7 rfl
    by_cases c : cv (N.1 6) p (q - p) ≤ hi
    · have e := v1 (by omega)
      refine Or.inl ?_
      obtain ⟨M', N', p', q', k', a1, a2, a3, a4, a5, a6, a7⟩ := t_adv (h.mv (M' := M) (N' := zst N 0 10 (nI (cv (N.1 6) p (q - p)))) rfl rfl (fun j hj => zf hj) (st_ne (by decide)))
      refine ⟨cv (N.1 6) p (q - p), M', N', p', q', k', c, ?_, ?_, ?_, ?_, a3, by omega, a5, (SM.s (by decide)).tr a6⟩
      · unfold fX6_isNumber
        rw [f4, if_pos rfl, e7, if_neg (nI_nlt c (by omega)), zbl1]
      · unfold fX6_takeNumber
        rw [z_bn, e7, a1, z_bn]
      · unfold fX10_number
        simp only [if_pos f11, f8, hb1, hb2, z_bn, zj_n, lp, e, o1, hif _ (show cv (N.1 6) p (q - p) ≤ 99999 by omega), if_pos c, a2]
      · rw [a7, zs]
    · have e : ¬ mv 9999 (N.1 6) p (q - p) ≤ hi := by
        by_cases w : cv (N.1 6) p (q - p) ≤ 9999
        · have := v1 w; omega
        · have := v2 (by omega); omega
      refine Or.inr ⟨?_, ?_⟩
      · unfold fX6_isNumber
        rw [f4, if_pos rfl, e7, if_pos (nI_lt (show hi < cv (N.1 6) p (q - p) by omega) (by omega)), zbl0]
      · obtain ⟨N', n1, n2⟩ := bad (nI (mv 9999 (N.1 6) p (q - p)))
        refine ⟨N', ?_, n2⟩
        unfold fX10_number
        simp only [if_pos f11, f8, hb1, hb2, z_bn, zj_n, lp, o1, hif _ (show mv 9999 (N.1 6) p (q - p) ≤ 99999 by omega), if_neg e, n1, if_true]
  · refine Or.inr ⟨?_, ?_⟩
    · unfold fX6_isNumber
      rw [f4, if_neg hk, zbl0]
    · have lp : ∀ E : Int32 → Option zM, lX10_number_29 N 0 E zFuel 0 (nI p) = E 0 := by
        intro E
        have g : ∀ f, 0 < f → zL2 (bX10_number_29 N 0 E) f 0 (nI p) = E 0 := by
          intro f hf
          obtain ⟨f, rfl⟩ : ∃ g, f = g + 1 := ⟨f - 1, by omega⟩
          rw [zL2_e]; unfold bX10_number_29
          by_cases c : N.1 0 9 ≤ nI p
          · rw [if_pos c]
          · rw [if_neg c, if_pos rfl]
        exact g zFuel (zF0 (by omega))
      obtain ⟨N', n1, n2⟩ := bad 0
      refine ⟨N', ?_, n2⟩
      unfold fX10_number
      simp only [if_pos f11, f8, hb1, hb2, z_bn, zj_n, lp, n1, if_true]
/-- the number of a wearer or a beard that stands here -/
theorem m_here {L p q : Nat} {k : Int32} (h : AT N L p q k) : ∃ x, fX10_numberHere N = some x ∧ ((k = 2 ∧ cv (N.1 6) p (q - p) < 8 ∧ x = nI (cv (N.1 6) p (q - p))) ∨ ((k = 2 → 8 ≤ cv (N.1 6) p (q - p)) ∧ x = -1)) := by
  have hd := t_dig h
  obtain ⟨hL, hpq, hqL, l2, f8, f9, ht⟩ := h
  rcases hd with ⟨rfl, hlt, hdg, b, hb1, hb2⟩ | ⟨hk, b, hb1, hb2⟩
  · obtain ⟨v1, v2, v3⟩ := mv_cv (m := 99) (by decide) (N.1 6) p (q - p) hdg
    have lp : ∀ E : Int32 → Option Int32, lX10_numberHere_7 N E zFuel 0 (nI p) = E (nI (mv 99 (N.1 6) p (q - p))) := fun E => m_hereL hL hqL f9 hdg (q - p) 0 zFuel (by omega) (zF0 (by omega)) hpq
    by_cases c : cv (N.1 6) p (q - p) < 8
    · have e := v1 (by omega)
      refine ⟨_, ?_, Or.inl ⟨rfl, c, rfl⟩⟩
      unfold fX10_numberHere
      have c2 : ¬ (8 : Int32) ≤ nI (cv (N.1 6) p (q - p)) := nI_ge (b := 8) c (by decide)
      simp only [f8, z_bn, zj_n, lp, e, hb1, hb2, o1, if_neg c2]
    · refine ⟨-1, ?_, Or.inr ⟨fun _ => by omega, rfl⟩⟩
      have e : 8 ≤ mv 99 (N.1 6) p (q - p) := by
        by_cases w : cv (N.1 6) p (q - p) ≤ 99
        · have := v1 w; omega
        · have := v2 (by omega); omega
      have c2 : (8 : Int32) ≤ nI (mv 99 (N.1 6) p (q - p)) := nI_le (a := 8) e (by omega)
      unfold fX10_numberHere
      simp only [f8, z_bn, zj_n, lp, hb1, hb2, o1, if_pos c2]
  · refine ⟨-1, ?_, Or.inr ⟨fun z => absurd z hk, rfl⟩⟩
    unfold fX10_numberHere
    obtain ⟨z, hz⟩ := m_hereS (N := N) (E := fun x2 => (fX10_byteAt N (N.1 0 8)).bind fun x4 => (fX10_isDigit x4).bind fun x5 => if x5 = (0 : Int32) then (some (-1 : Int32)) else (if (8 : Int32) ≤ x2 then (some (-1 : Int32)) else (some x2))) hL hqL f9 (q - p) p zFuel 0 (by omega) (zF0 (by omega))
    rw [z_bn, zj_n, f8]
    rw [f8] at hz
    refine Eq.trans hz ?_
    simp only [hb1, hb2, z_bn, if_true]
theorem t_word {L p q : Nat} {k : Int32} (h : TP M N L p q k) : ∃ y, fX10_word N = some y ∧ ∀ i, i < 14 → (fX6_isWord M i = some 1 ∧ lg_cmp y (lN (zK i)) = 0 ∧ p < q) ∨ (fX6_isWord M i = some 0 ∧ ¬ lg_cmp y (lN (zK i)) = 0) := by
  obtain ⟨y, hy, hi⟩ := m_word h
  refine ⟨y, hy, fun i h14 => ?_⟩
  rcases c_isWord h h14 with ⟨a, b⟩ | ⟨a, b⟩
  · refine Or.inl ⟨b, (lg_cmp_eq _ _).mpr ((hi i h14).mpr a), ?_⟩
    have h1 := a.1
    have h2 := h.at.2.2.2.2.2.2
    rcases h2 with ⟨rfl, _⟩ | ⟨_, z, _⟩ | ⟨rfl, _⟩ | ⟨rfl, _⟩ | ⟨rfl, _⟩
    · exact absurd h1 (by decide)
    · exact z
    · exact absurd h1 (by decide)
    · exact absurd h1 (by decide)
    · exact absurd h1 (by decide)
  · exact Or.inr ⟨b, fun z => a ((hi i h14).mp ((lg_cmp_eq _ _).mp z))⟩
/-- no word once it is wrong -/
theorem m_word0 {L p q : Nat} {k : Int32} (h : AT N L p q k) (hw : ¬ N.1 0 11 = 0) : fX10_word N = some 0 := by
  obtain ⟨hL, hpq, hqL, l2, f8, f9, ht⟩ := h
  unfold fX10_word
  obtain ⟨z, hz⟩ := m_wordS (N := N) (p := p) (E := fun y2 => if (N.1 0 11) = (0 : Int32) then ((fX10_byteAt N (N.1 0 8)).bind fun x5 => (fX10_isLetter x5).bind fun x6 => if x6 = (0 : Int32) then (some (0 : Int64)) else (some y2)) else (some (0 : Int64))) hL hqL f9 (q - p) p zFuel 0 (by omega) (zF0 (by omega))
  rw [z_bn, zj_n, f8]
  rw [f8] at hz
  refine Eq.trans hz ?_
  rw [if_neg hw]
theorem t_part {L p q i s hi : Nat} {k : Int32} (h : TP M N L p q k) (hi14 : i < 14) (hs : s < 59) (hh : hi ≤ 9999) {y : Int64} (hy : y = lN (zK i)) : (fX6_isWord M i = some 0 ∧ fX10_partItem N y (nI s) (nI hi) = some N) ∨ (fX6_isWord M i = some 1 ∧ ∃ M1, fX6_advance M = some M1 ∧ ((∃ v M' N' p' q' k', v ≤ hi ∧ fX6_isNumber M1 (nI hi) = some 1 ∧ fX6_takeNumber M1 = some (nI v, M') ∧ fX10_partItem N y (nI s) (nI hi) = some (zst N' 1 s (nI v)) ∧ TP M' N' L p' q' k' ∧ p < p' ∧ SC M M' ∧ SM N N') ∨ (fX6_isNumber M1 (nI hi) = some 0 ∧ ∃ N' p' q' k', fX10_partItem N y (nI s) (nI hi) = some N' ∧ N'.1 0 11 = 1 ∧ M1.1 31 5 = nI p' ∧ AT N' L p' q' k' ∧ SC M M1 ∧ SM N N'))) := by
  subst hy
  obtain ⟨y, hy, hw⟩ := t_word h
  unfold fX10_partItem
  rcases hw i hi14 with ⟨w1, w2, w3⟩ | ⟨w1, w2⟩
  · refine Or.inr ⟨w1, ?_⟩
    obtain ⟨M1, N1, p1, q1, k1, a1, a2, a3, a4, a5, a6, a7⟩ := t_adv h
    refine ⟨M1, a1, ?_⟩
    rcases t_num a3 hh with ⟨v, M', N', p', q', k', b1, b2, b3, b4, b5, b6, b7, b8, b9⟩ | ⟨b1, N', b2, b3, b4, b5⟩
    · refine Or.inl ⟨v, M', N', p', q', k', b1, b2, b3, ?_, b6, by have := h.2.1; omega, a5.tr b8, a6.tr b9⟩
      have f := b6.2.2.2.2.2.2.2.1
      simp only [hy, z_bn, if_pos w2, a2, b4, if_pos f, ix59 hs, b5]
    · refine Or.inr ⟨b1, N', p1, q1, k1, ?_, b3, a3.2.2.2.1, b4, a5, a6.tr b5⟩
      have f : ¬ N'.1 0 11 = 0 := by rw [b3]; decide
      simp only [hy, z_bn, if_pos w2, a2, b2, if_neg f, ix59 hs, zst_id (show N'.1 1 s = N'.1 1 s from rfl)]
  · refine Or.inl ⟨w1, ?_⟩
    simp only [hy, z_bn, if_neg w2]
theorem m_part0 {L p q : Nat} {k : Int32} (h : AT N L p q k) (hw : ¬ N.1 0 11 = 0) {i : Nat} (hi : i < 14) {s v : Int32} {y : Int64} (hy : y = lN (zK i)) : fX10_partItem N y s v = some N := by
  subst hy
  have hk := (kv_K i hi).2
  have c : ¬ lg_cmp 0 (lN (zK i)) = 0 := fun z => by
    have e : (0 : Nat) = zK i := (pk_lEQ (by decide) (by omega)).mp (show lN 0 = lN (zK i) from (lg_cmp_eq _ _).mp z)
    omega
  unfold fX10_partItem
  simp only [m_word0 h hw, z_bn, if_neg c]
end TQ
