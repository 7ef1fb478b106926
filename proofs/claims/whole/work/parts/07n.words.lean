/-! the text: words and numbers -/
section TN
variable {M N M' N' : zM}
def TP (M N : zM) (L p q : Nat) (k : Int32) : Prop := zTx M N L ∧ p ≤ q ∧ q ≤ L ∧ M.1 31 5 = nI p ∧ N.1 0 8 = nI p ∧ M.1 31 6 = nI q ∧ N.1 0 9 = nI q ∧ N.1 0 11 = 0 ∧ M.1 31 4 = k ∧ TokC (N.1 6) L p q k ∧ (k = 2 → M.1 31 7 = nI (cv (N.1 6) p (q - p)))
def Wd (tp : Nat → Int32) (p q : Nat) (k : Int32) (i : Nat) : Prop := k = 1 ∧ q - p = zLen.getD i 0 ∧ ∀ j, j < zLen.getD i 0 → tp (p + j) = zSc i j
theorem c_wordL {L p i : Nat} (hi : i < 14) (hL : L ≤ 120) (hp : p + zLen.getD i 0 ≤ L) (e5 : M.1 31 5 = nI p) : ∀ (d j f : Nat), j + d = zLen.getD i 0 → d < f → ((∀ x, j ≤ x → x < zLen.getD i 0 → M.1 32 (p + x) = zSc i x) ∧ zL1 (bX6_isWord_28 M i (some 1)) f (nI j) = some 1) ∨ (¬ (∀ x, j ≤ x → x < zLen.getD i 0 → M.1 32 (p + x) = zSc i x) ∧ zL1 (bX6_isWord_28 M i (some 1)) f (nI j) = some 0) := by
  have hl := zSl_le i hi
  intro d
  induction d with
  | zero =>
    intro j f hj hf
    obtain ⟨f, rfl⟩ : ∃ g, f = g + 1 := ⟨f - 1, by omega⟩
    refine Or.inl ⟨fun x h1 h2 => by omega, ?_⟩
    rw [zL1_e]; unfold bX6_isWord_28
    rw [if_pos (show zSl i ≤ nI j from nI_le (show zLen.getD i 0 ≤ j by omega) (by omega))]
  | succ d ih =>
    intro j f hj hf
    obtain ⟨f, rfl⟩ : ∃ g, f = g + 1 := ⟨f - 1, by omega⟩
    have hle : ¬ zSl i ≤ nI j := nI_ge (show j < zLen.getD i 0 by omega) (by omega)
    have hix : zix (nI p + nI j) 120 = some (p + j) := by rw [nI_add]; exact ix120 (by omega)
    have hix2 : zix (nI j) (zLen.getD i 0) = some j := zix_nI (by omega) (by omega)
    by_cases q : M.1 32 (p + j) = zSc i j
    · have st : zL1 (bX6_isWord_28 M i (some 1)) (f + 1) (nI j) = zL1 (bX6_isWord_28 M i (some 1)) f (nI (j + 1)) := by
        rw [zL1_e]
        generalize zL1 (bX6_isWord_28 M i (some 1)) f = rc
        unfold bX6_isWord_28
        simp only [if_neg hle, e5, hix, z_bs, hix2, if_pos q, nI_1]
      rw [st]
      rcases ih (j + 1) f (by omega) (by omega) with ⟨a, b⟩ | ⟨a, b⟩
      · refine Or.inl ⟨fun x h1 h2 => ?_, b⟩
        by_cases w : x = j
        · rw [w]; exact q
        · exact a x (by omega) h2
      · exact Or.inr ⟨fun z => a (fun x h1 h2 => z x (by omega) h2), b⟩
    · refine Or.inr ⟨fun z => q (z j (Nat.le_refl _) (by omega)), ?_⟩
      rw [zL1_e]; unfold bX6_isWord_28
      simp only [if_neg hle, e5, hix, z_bs, hix2, if_neg q, zbl0]
theorem c_isWord {L p q : Nat} {k : Int32} (h : TP M N L p q k) {i : Nat} (hi : i < 14) : (Wd (N.1 6) p q k i ∧ fX6_isWord M i = some 1) ∨ (¬ Wd (N.1 6) p q k i ∧ fX6_isWord M i = some 0) := by
  obtain ⟨⟨hL, l1, l2, l3⟩, hpq, hqL, f5, -, f6, -, -, f4, -, -⟩ := h
  have hl := zSl_le i hi
  unfold fX6_isWord Wd
  rw [f4, f5, f6, pk_sub hpq]
  by_cases k1 : k = 1
  · rw [if_pos k1]
    by_cases e : q - p = zLen.getD i 0
    · have e' : nI (q - p) = zSl i := by rw [e]; rfl
      rw [if_pos e', zj_n, zbl1]
      rcases c_wordL (M := M) (L := L) (p := p) hi hL (by omega) f5 (zLen.getD i 0) 0 zFuel (by omega) (zF0 (by omega)) with ⟨a, b⟩ | ⟨a, b⟩
      · exact Or.inl ⟨⟨k1, e, fun j hj => by rw [← l3 (p + j) (by omega)]; exact a j (Nat.zero_le _) hj⟩, b⟩
      · exact Or.inr ⟨fun z => a (fun x _ hx => by rw [l3 (p + x) (by omega)]; exact z.2.2 x hx), b⟩
    · have e' : ¬ nI (q - p) = zSl i := fun z => e (nI_inj (by omega) (by omega) z)
      rw [if_neg e', zbl0]
      exact Or.inr ⟨fun z => e z.2.1, rfl⟩
  · rw [if_neg k1, zbl0]
    exact Or.inr ⟨fun z => k1 z.1, rfl⟩
def ltv (x : Int32) : Nat := (x.toInt - 96).toNat
theorem lt_nI {x : Int32} (h : lt x) : x = nI (96 + ltv x) ∧ 1 ≤ ltv x ∧ ltv x ≤ 26 := by
  unfold lt at h
  unfold ltv
  refine ⟨?_, by omega, by omega⟩
  have := nI_toNat (a := x) (by omega)
  rw [show 96 + (x.toInt - 96).toNat = x.toInt.toNat by omega]; exact this
def wv (tp : Nat → Int32) (p : Nat) : Nat → Nat
  | 0 => 0
  | i + 1 => if wv tp p i ≤ 36028797018963967 then 32 * wv tp p i + ltv (tp (p + i)) else wv tp p i
theorem wv_le {tp : Nat → Int32} {p m : Nat} (h : ∀ j, j < m → lt (tp (p + j))) : ∀ i, i ≤ m → wv tp p i < 2 ^ 61 := by
  intro i
  induction i with
  | zero => intro _; exact Nat.two_pow_pos 61
  | succ i ih =>
    intro hi
    have := ih (by omega)
    have h2 := (lt_nI (h i (by omega))).2
    show (if wv tp p i ≤ 36028797018963967 then 32 * wv tp p i + ltv (tp (p + i)) else wv tp p i) < 2 ^ 61
    by_cases q : wv tp p i ≤ 36028797018963967
    · rw [if_pos q]; omega
    · rw [if_neg q]; exact this
def kv (i : Nat) : Nat → Nat
  | 0 => 0
  | j + 1 => 32 * kv i j + ltv (zSc i j)
def zK (i : Nat) : Nat := [2262596, 244784306, 24389253, 14832254356741, 323739001900, 17648634087528, 777046194, 8902245, 271941, 198053, 8881732, 19387844, 3751539, 212420].getD i 0
theorem kv_K : ∀ i, i < 14 → kv i (zLen.getD i 0) = zK i ∧ 0 < zK i ∧ zK i < 2 ^ 61 := by decide +kernel
theorem kv_le : ∀ i, i < 14 → ∀ j, j < 10 → kv i j ≤ 36028797018963967 := by decide +kernel
theorem zSc_lt : ∀ i, i < 14 → ∀ j, j < zLen.getD i 0 → 97 ≤ (zSc i j).toInt ∧ (zSc i j).toInt ≤ 122 := by decide +kernel
theorem wd_iff {tp : Nat → Int32} {p i : Nat} (hi : i < 14) : ∀ (j m : Nat), j ≤ zLen.getD i 0 → (∀ x, x < m → lt (tp (p + x))) → (wv tp p m = kv i j ↔ m = j ∧ ∀ x, x < j → tp (p + x) = zSc i x) := by
  have hl := zSl_le i hi
  intro j
  induction j with
  | zero =>
    intro m hj hm
    refine ⟨fun h => ?_, fun h => by rw [h.1]; rfl⟩
    cases m with
    | zero => exact ⟨rfl, fun x hx => by omega⟩
    | succ m =>
      have h2 := (lt_nI (hm m (by omega))).2
      have h3 : (if wv tp p m ≤ 36028797018963967 then 32 * wv tp p m + ltv (tp (p + m)) else wv tp p m) = 0 := h
      by_cases q : wv tp p m ≤ 36028797018963967
      · rw [if_pos q] at h3; omega
      · rw [if_neg q] at h3; omega
  | succ j ih =>
    intro m hj hm
    have hk := kv_le i hi (j + 1) (by omega)
    have hz : lt (zSc i j) := zSc_lt i hi j (by omega)
    have hz2 := lt_nI hz
    have hkd : kv i (j + 1) = 32 * kv i j + ltv (zSc i j) := rfl
    cases m with
    | zero =>
      refine ⟨fun h => ?_, fun h => by omega⟩
      have h0 : (0 : Nat) = kv i (j + 1) := h
      omega
    | succ m =>
      have h2 := lt_nI (hm m (by omega))
      have hw : wv tp p (m + 1) = if wv tp p m ≤ 36028797018963967 then 32 * wv tp p m + ltv (tp (p + m)) else wv tp p m := rfl
      have ihm := ih m (by omega) (fun x hx => hm x (by omega))
      constructor
      · intro h
        rw [hw] at h
        by_cases q : wv tp p m ≤ 36028797018963967
        · rw [if_pos q, hkd] at h
          have e1 : wv tp p m = kv i j := by omega
          have e2 : ltv (tp (p + m)) = ltv (zSc i j) := by omega
          obtain ⟨e3, e4⟩ := ihm.mp e1
          subst e3
          refine ⟨rfl, fun x hx => ?_⟩
          by_cases w : x = m
          · rw [w, h2.1, hz2.1, e2]
          · exact e4 x (by omega)
        · rw [if_neg q] at h; omega
      · rintro ⟨e3, e4⟩
        have e3 : m = j := by omega
        subst e3
        have e1 := ihm.mpr ⟨rfl, fun x hx => e4 x (by omega)⟩
        have hkm := kv_le i hi m (by omega)
        rw [hw, hkd, if_pos (by omega), e1, e4 m (by omega)]
theorem m_wordL {L p q : Nat} {E : Int64 → Option Int64} (hL : L ≤ 120) (hqL : q ≤ L) (e9 : N.1 0 9 = nI q) (hm : ∀ x, x < q - p → lt (N.1 6 (p + x))) : ∀ (d j f : Nat), j + d = q - p → d < f → p ≤ q → zL2 (bX10_word_7 N E) f (lN (wv (N.1 6) p j)) (nI (p + j)) = E (lN (wv (N.1 6) p (q - p))) := by
  intro d
  induction d with
  | zero =>
    intro j f hj hf hpq
    obtain ⟨f, rfl⟩ : ∃ g, f = g + 1 := ⟨f - 1, by omega⟩
    have : j = q - p := by omega
    subst this
    rw [zL2_e]; unfold bX10_word_7
    rw [e9, if_pos (nI_le (show q ≤ p + (q - p) by omega) (by omega))]
  | succ d ih =>
    intro j f hj hf hpq
    obtain ⟨f, rfl⟩ : ∃ g, f = g + 1 := ⟨f - 1, by omega⟩
    have hb := wv_le hm j (by omega)
    have h2 := lt_nI (hm j (by omega))
    have hlt : ¬ nI q ≤ nI (p + j) := nI_ge (show p + j < q by omega) (by omega)
    rw [zL2_e, ← ih (j + 1) f (by omega) (by omega) hpq]
    generalize zL2 (bX10_word_7 N E) f = rc
    unfold bX10_word_7
    have hw : wv (N.1 6) p (j + 1) = if wv (N.1 6) p j ≤ 36028797018963967 then 32 * wv (N.1 6) p j + ltv (N.1 6 (p + j)) else wv (N.1 6) p j := rfl
    by_cases c : wv (N.1 6) p j ≤ 36028797018963967
    · have c1 : lg_cmp (lN (wv (N.1 6) p j)) 36028797018963967 ≤ 0 := (lg_cmp_le _ _).mpr ((pk_lLE (a := wv (N.1 6) p j) (b := 36028797018963967) (by omega) (by decide)).mpr c)
      have c2 : (32 : Int64) * lN (wv (N.1 6) p j) + (N.1 6 (p + j) - 96).toInt64 = lN (32 * wv (N.1 6) p j + ltv (N.1 6 (p + j))) := by
        have c3 : N.1 6 (p + j) - 96 = nI (ltv (N.1 6 (p + j))) := by
          refine (congrArg (fun z => z - (96 : Int32)) h2.1).trans ?_
          show nI (96 + ltv (N.1 6 (p + j))) - nI 96 = _
          rw [pk_sub (by omega)]; congr 1; omega
        rw [c3, nI_l (by omega), show (32 : Int64) = lN 32 from rfl, lN_mul, lN_add]
      simp only [e9, if_neg hlt, zj_n, if_pos c1, ix120 (show p + j < 120 by omega), z_bn, c2, hw, if_pos c, nI_1, Nat.add_assoc]
    · have c1 : ¬ lg_cmp (lN (wv (N.1 6) p j)) 36028797018963967 ≤ 0 := fun z => c ((pk_lLE (a := wv (N.1 6) p j) (b := 36028797018963967) (by omega) (by decide)).mp ((lg_cmp_le _ _).mp z))
      simp only [e9, if_neg hlt, zj_n, if_neg c1, z_bn, hw, if_neg c, nI_1, Nat.add_assoc]
theorem m_wordS {L p q : Nat} {E : Int64 → Option Int64} (hL : L ≤ 120) (hqL : q ≤ L) (e9 : N.1 0 9 = nI q) : ∀ (d j f : Nat) (y : Int64), j + d = q → d < f → ∃ z, zL2 (bX10_word_7 N E) f y (nI j) = E z := by
  intro d
  induction d with
  | zero =>
    intro j f y hj hf
    obtain ⟨f, rfl⟩ : ∃ g, f = g + 1 := ⟨f - 1, by omega⟩
    refine ⟨y, ?_⟩
    rw [zL2_e]; unfold bX10_word_7
    rw [e9, if_pos (nI_le (show q ≤ j by omega) (by omega))]
  | succ d ih =>
    intro j f y hj hf
    obtain ⟨f, rfl⟩ : ∃ g, f = g + 1 := ⟨f - 1, by omega⟩
    have hlt : ¬ nI q ≤ nI j := nI_ge (show j < q by omega) (by omega)
    by_cases c : lg_cmp y 36028797018963967 ≤ 0
    · obtain ⟨z, hz⟩ := ih (j + 1) f (((32 : Int64) * y) + ((N.1 6 j) - (96 : Int32)).toInt64) (by omega) (by omega)
      refine ⟨z, ?_⟩
      rw [zL2_e, ← hz]
      generalize zL2 (bX10_word_7 N E) f = rc
      unfold bX10_word_7
      simp only [e9, if_neg hlt, zj_n, if_pos c, ix120 (show j < 120 by omega), z_bn, nI_1]
    · obtain ⟨z, hz⟩ := ih (j + 1) f y (by omega) (by omega)
      refine ⟨z, ?_⟩
      rw [zL2_e, ← hz]
      generalize zL2 (bX10_word_7 N E) f = rc
      unfold bX10_word_7
      simp only [e9, if_neg hlt, zj_n, if_neg c, z_bn, nI_1]
theorem m_word {L p q : Nat} {k : Int32} (h : TP M N L p q k) : ∃ y, fX10_word N = some y ∧ ∀ i, i < 14 → (y = lN (zK i) ↔ Wd (N.1 6) p q k i) := by
  obtain ⟨⟨hL, l1, l2, l3⟩, hpq, hqL, -, f8, -, f9, f11, -, ht, -⟩ := h
  have neg : ∀ b : Int32, ¬ lt b → fX10_isLetter b = some 0 := fun b hb => by
    rcases c_lt b with ⟨z, _⟩ | ⟨_, _, z⟩
    · exact absurd z hb
    · exact z
  have other : ¬ k = 1 → (fX10_byteAt N (nI p) = some (-1) ∨ ∃ b, fX10_byteAt N (nI p) = some b ∧ ¬ lt b) → ∃ y, fX10_word N = some y ∧ ∀ i, i < 14 → (y = lN (zK i) ↔ Wd (N.1 6) p q k i) := by
    intro k1 hb
    refine ⟨0, ?_, fun i hi => ⟨fun z => ?_, fun z => absurd z.1 k1⟩⟩
    · unfold fX10_word
      obtain ⟨z, hz⟩ := m_wordS (N := N) (p := p) (E := fun y2 => if (N.1 0 11) = (0 : Int32) then ((fX10_byteAt N (N.1 0 8)).bind fun x5 => (fX10_isLetter x5).bind fun x6 => if x6 = (0 : Int32) then (some (0 : Int64)) else (some y2)) else (some (0 : Int64))) hL hqL f9 (q - p) p zFuel 0 (by omega) (zF0 (by omega))
      rw [z_bn, zj_n, f8]
      rw [f8] at hz
      refine Eq.trans hz ?_
      rw [f11, if_pos rfl]
      rcases hb with hb | ⟨b, hb, hb2⟩
      · rw [hb, z_bn, neg (-1) (by unfold lt; decide), z_bn, if_pos rfl]
      · rw [hb, z_bn, neg b hb2, z_bn, if_pos rfl]
    · have hk := (kv_K i hi).2
      have e : (0 : Nat) = zK i := (pk_lEQ (by decide) (by omega)).mp (show lN 0 = lN (zK i) from z)
      omega
  rcases ht with ⟨rfl, a, b⟩ | ⟨rfl, a, b, c⟩ | ⟨rfl, a, b, c⟩ | ⟨rfl, a, b, c⟩ | ⟨rfl, a, b, c, -⟩
  · exact other (by decide) (Or.inl (by rw [a]; exact m_byteO hL l2))
  · have hm : ∀ x, x < q - p → lt (N.1 6 (p + x)) := fun x hx => c (p + x) (by omega) (by omega)
    have hl := m_wordL (N := N) (E := fun y2 => if (N.1 0 11) = (0 : Int32) then ((fX10_byteAt N (N.1 0 8)).bind fun x5 => (fX10_isLetter x5).bind fun x6 => if x6 = (0 : Int32) then (some (0 : Int64)) else (some y2)) else (some (0 : Int64))) hL hqL f9 hm (q - p) 0 zFuel (by omega) (zF0 (by omega)) hpq
    refine ⟨lN (wv (N.1 6) p (q - p)), ?_, fun i hi => ?_⟩
    · unfold fX10_word
      rw [z_bn, zj_n, f8]
      rw [f8] at hl
      refine Eq.trans hl ?_
      rcases c_lt (N.1 6 p) with ⟨_, _, z⟩ | ⟨z, _⟩
      · rw [f11, if_pos rfl, m_byteI hL l2 (by omega), z_bn, z, z_bn, if_neg (by decide)]
      · exact absurd (c p (Nat.le_refl _) a) z
    · have hk := kv_K i hi
      have hw := wv_le hm (q - p) (Nat.le_refl _)
      refine Iff.trans (pk_lEQ (by omega) (by omega)) ?_
      rw [← hk.1]
      refine Iff.trans (wd_iff hi _ _ (Nat.le_refl _) hm) ?_
      exact ⟨fun z => ⟨rfl, z.1, z.2⟩, fun z => ⟨z.2.1, z.2.2⟩⟩
  · exact other (by decide) (Or.inr ⟨_, m_byteI hL l2 (by omega), fun z => lt_ne z (c p (Nat.le_refl _) a)⟩)
  · exact other (by decide) (Or.inr ⟨_, m_byteI hL l2 a, by rw [c]; unfold lt; decide⟩)
  · exact other (by decide) (Or.inr ⟨_, m_byteI hL l2 a, c⟩)
end TN
