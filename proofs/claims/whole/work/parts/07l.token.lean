/-! the text: tokens -/
section TL
variable {M N M' N' : zM}
theorem zf {k j j' : Nat} {v : Int32} (h : j' ≠ j) : (zst M k j v).1 k j' = M.1 k j' := by rw [zst_g, if_neg (fun z => h z.2)]
theorem zs {k j : Nat} {v : Int32} : (zst M k j v).1 k j = v := by rw [zst_g, if_pos ⟨rfl, rfl⟩]
theorem zst_zst {k j : Nat} {a b : Int32} : zst (zst M k j a) k j b = zst M k j b := by
  refine Prod.ext ?_ rfl
  funext x y
  show (if x = k ∧ y = j then b else if x = k ∧ y = j then a else M.1 x y) = if x = k ∧ y = j then b else M.1 x y
  by_cases h : x = k ∧ y = j
  · rw [if_pos h, if_pos h]
  · rw [if_neg h, if_neg h, if_neg h]
def lt (x : Int32) : Prop := 97 ≤ x.toInt ∧ x.toInt ≤ 122
def dg (x : Int32) : Prop := 48 ≤ x.toInt ∧ x.toInt ≤ 57
theorem c_lt (x : Int32) : (lt x ∧ fX6_isLetter x = some 1 ∧ fX10_isLetter x = some 1) ∨ (¬ lt x ∧ fX6_isLetter x = some 0 ∧ fX10_isLetter x = some 0) := by
  have e1 : (97 : Int32).toInt = 97 := rfl
  have e2 : (122 : Int32).toInt = 122 := rfl
  have m : fX10_isLetter x = some (if 97 ≤ x.toInt ∧ x.toInt ≤ 122 then 1 else 0) := by
    unfold fX10_isLetter; rw [m_in, z_bn, Int32.toInt_toInt64, show (97 : Int64).toInt = 97 from rfl, show (122 : Int64).toInt = 122 from rfl, zbl01]
  rw [m]
  unfold fX6_isLetter lt
  by_cases h : 97 ≤ x.toInt ∧ x.toInt ≤ 122
  · rw [if_pos h, if_neg (show ¬ x < 97 by rw [i_lt]; omega), if_neg (show ¬ 122 < x by rw [i_lt]; omega)]; exact Or.inl ⟨h, rfl, rfl⟩
  · rw [if_neg h]
    refine Or.inr ⟨h, ?_, rfl⟩
    by_cases q : x < 97
    · rw [if_pos q]; rfl
    · rw [if_neg q, if_pos (show 122 < x by rw [i_lt] at q ⊢; omega)]; rfl
theorem c_dg (x : Int32) : (dg x ∧ fX6_isDigit x = some 1 ∧ fX10_isDigit x = some 1) ∨ (¬ dg x ∧ fX6_isDigit x = some 0 ∧ fX10_isDigit x = some 0) := by
  have e1 : (48 : Int32).toInt = 48 := rfl
  have e2 : (57 : Int32).toInt = 57 := rfl
  have m : fX10_isDigit x = some (if 48 ≤ x.toInt ∧ x.toInt ≤ 57 then 1 else 0) := by
    unfold fX10_isDigit; rw [m_in, z_bn, Int32.toInt_toInt64, show (48 : Int64).toInt = 48 from rfl, show (57 : Int64).toInt = 57 from rfl, zbl01]
  rw [m]
  unfold fX6_isDigit dg
  by_cases h : 48 ≤ x.toInt ∧ x.toInt ≤ 57
  · rw [if_pos h, if_neg (show ¬ x < 48 by rw [i_lt]; omega), if_neg (show ¬ 57 < x by rw [i_lt]; omega)]; exact Or.inl ⟨h, rfl, rfl⟩
  · rw [if_neg h]
    refine Or.inr ⟨h, ?_, rfl⟩
    by_cases q : x < 48
    · rw [if_pos q]; rfl
    · rw [if_neg q, if_pos (show 57 < x by rw [i_lt] at q ⊢; omega)]; rfl
theorem lt_ne {x : Int32} (h : lt x) : ¬ dg x := by unfold lt at h; unfold dg; omega
theorem ix120 {p : Nat} (h : p < 120) : zix (nI p) 120 = some p := zix_nI h (by decide)
/-- where a run of something ends -/
theorem run_end (P : Nat → Prop) (L : Nat) : ∀ d j, j + d = L → ∃ e, j ≤ e ∧ e ≤ L ∧ (∀ i, j ≤ i → i < e → P i) ∧ (e = L ∨ ¬ P e) := by
  intro d
  induction d with
  | zero => intro j hj; exact ⟨j, Nat.le_refl _, by omega, fun i h1 h2 => by omega, Or.inl (by omega)⟩
  | succ d ih =>
    intro j hj
    by_cases h : P j
    · obtain ⟨e, e1, e2, e3, e4⟩ := ih (j + 1) (by omega)
      refine ⟨e, by omega, e2, fun i h1 h2 => ?_, e4⟩
      by_cases q : i = j
      · rw [q]; exact h
      · exact e3 i (by omega) h2
    · exact ⟨j, Nat.le_refl _, by omega, fun i h1 h2 => by omega, Or.inr h⟩
def zTx (M N : zM) (L : Nat) : Prop := L ≤ 120 ∧ M.1 31 2 = nI L ∧ N.1 0 7 = nI L ∧ ∀ j, j < L → M.1 32 j = N.1 6 j
theorem m_byte {L j : Nat} (hL : L ≤ 120) (e : N.1 0 7 = nI L) : fX10_byteAt N (nI j) = (if L ≤ j then some (-1) else some (N.1 6 j)) ∨ 2 ^ 31 ≤ j := by
  by_cases hj : j < 2 ^ 31
  · refine Or.inl ?_
    unfold fX10_byteAt
    rw [e]
    by_cases h : L ≤ j
    · rw [if_pos h, if_pos (nI_le h hj)]
    · rw [if_neg h, if_neg (nI_ge (by omega) (by omega)), ix120 (by omega), z_bs]
  · exact Or.inr (by omega)
theorem m_byteI {L j : Nat} (hL : L ≤ 120) (e : N.1 0 7 = nI L) (h : j < L) : fX10_byteAt N (nI j) = some (N.1 6 j) := by
  rcases m_byte (j := j) hL e with q | q
  · rw [q, if_neg (by omega)]
  · omega
theorem m_byteO {L : Nat} (hL : L ≤ 120) (e : N.1 0 7 = nI L) : fX10_byteAt N (nI L) = some (-1) := by
  rcases m_byte (j := L) hL e with q | q
  · rw [q, if_pos (Nat.le_refl _)]
  · omega
theorem c_blank {L e : Nat} {E : zM → Option zM} (hL : L ≤ 120) (e1 : M.1 31 2 = nI L) (he : e ≤ L) (hend : e = L ∨ ¬ M.1 32 e = 32) : ∀ (d j f : Nat), j + d = e → d < f → (∀ i, j ≤ i → i < e → M.1 32 i = 32) → zL1 (bX6_advance_8 E) f (zst M 31 5 (nI j)) = E (zst M 31 5 (nI e)) := by
  intro d
  induction d with
  | zero =>
    intro j f hj hf hr
    obtain ⟨f, rfl⟩ : ∃ g, f = g + 1 := ⟨f - 1, by omega⟩
    have : j = e := by omega
    subst this
    rw [zL1_e]; unfold bX6_advance_8
    rw [zf (show 2 ≠ 5 by decide), zs, e1]
    by_cases q : L ≤ j
    · rw [if_pos (nI_le q (by omega))]
    · rw [if_neg (nI_ge (by omega) (by omega)), ix120 (by omega), z_bs, st_ne (by decide), if_neg (hend.elim (fun z => by omega) id)]
  | succ d ih =>
    intro j f hj hf hr
    obtain ⟨f, rfl⟩ : ∃ g, f = g + 1 := ⟨f - 1, by omega⟩
    rw [zL1_e, ← ih (j + 1) f (by omega) (by omega) (fun i h1 h2 => hr i (by omega) h2)]
    generalize zL1 (bX6_advance_8 E) f = rc
    unfold bX6_advance_8
    simp only [zf (show 2 ≠ 5 by decide), zs, e1, if_neg (nI_ge (show j < L by omega) (show L < 2 ^ 31 by omega)), ix120 (show j < 120 by omega), z_bs, st_ne (show 32 ≠ 31 by decide), hr j (Nat.le_refl _) (by omega), if_true, nI_1, zst_zst]
theorem m_blank {L e : Nat} {E : zM → Option zM} (hL : L ≤ 120) (e1 : N.1 0 7 = nI L) (he : e ≤ L) (hend : e = L ∨ ¬ N.1 6 e = 32) : ∀ (d j f : Nat), j + d = e → d < f → (∀ i, j ≤ i → i < e → N.1 6 i = 32) → zL1 (bX10_token_8 E) f (zst N 0 8 (nI j)) = E (zst N 0 8 (nI e)) := by
  have e2 : ∀ v, (zst N 0 8 v).1 0 7 = nI L := fun v => by rw [zf (by decide)]; exact e1
  have e3 : ∀ v j, (zst N 0 8 v).1 6 j = N.1 6 j := fun v j => by rw [st_ne (by decide)]
  intro d
  induction d with
  | zero =>
    intro j f hj hf hr
    obtain ⟨f, rfl⟩ : ∃ g, f = g + 1 := ⟨f - 1, by omega⟩
    have : j = e := by omega
    subst this
    rw [zL1_e]; unfold bX10_token_8
    rw [zs]
    by_cases q : j = L
    · subst q
      rw [m_byteO hL (e2 _), z_bs, if_neg (by decide)]
    · rw [m_byteI hL (e2 _) (by omega), e3, z_bs, if_neg (hend.elim (fun z => absurd z q) id)]
  | succ d ih =>
    intro j f hj hf hr
    obtain ⟨f, rfl⟩ : ∃ g, f = g + 1 := ⟨f - 1, by omega⟩
    rw [zL1_e, ← ih (j + 1) f (by omega) (by omega) (fun i h1 h2 => hr i (by omega) h2)]
    generalize zL1 (bX10_token_8 E) f = rc
    unfold bX10_token_8
    simp only [zs, m_byteI hL (e2 _) (show j < L by omega), e3, z_bs, hr j (Nat.le_refl _) (by omega), if_true, nI_1, zst_zst]
theorem c_word {L e : Nat} {E : zM → Option zM} (hL : L ≤ 120) (e1 : M.1 31 2 = nI L) (he : e ≤ L) (hend : e = L ∨ ¬ lt (M.1 32 e)) : ∀ (d j f : Nat), j + d = e → d < f → (∀ i, j ≤ i → i < e → lt (M.1 32 i)) → zL1 (bX6_advance_93 E) f (zst M 31 6 (nI j)) = E (zst M 31 6 (nI e)) := by
  intro d
  induction d with
  | zero =>
    intro j f hj hf hr
    obtain ⟨f, rfl⟩ : ∃ g, f = g + 1 := ⟨f - 1, by omega⟩
    have : j = e := by omega
    subst this
    rw [zL1_e]; unfold bX6_advance_93
    rw [zf (show 2 ≠ 6 by decide), zs, e1]
    by_cases q : L ≤ j
    · rw [if_pos (nI_le q (by omega))]
    · rcases c_lt (M.1 32 j) with ⟨z, _⟩ | ⟨_, z, _⟩
      · exact absurd z (hend.elim (fun y => by omega) id)
      · rw [if_neg (nI_ge (by omega) (by omega)), ix120 (by omega), z_bs, st_ne (by decide), z, z_bs, o0]
  | succ d ih =>
    intro j f hj hf hr
    obtain ⟨f, rfl⟩ : ∃ g, f = g + 1 := ⟨f - 1, by omega⟩
    rcases c_lt (M.1 32 j) with ⟨_, z, _⟩ | ⟨z, _⟩
    · rw [zL1_e, ← ih (j + 1) f (by omega) (by omega) (fun i h1 h2 => hr i (by omega) h2)]
      generalize zL1 (bX6_advance_93 E) f = rc
      unfold bX6_advance_93
      simp only [zf (show 2 ≠ 6 by decide), zs, e1, if_neg (nI_ge (show j < L by omega) (show L < 2 ^ 31 by omega)), ix120 (show j < 120 by omega), z_bs, st_ne (show 32 ≠ 31 by decide), z, o1, nI_1, zst_zst]
    · exact absurd (hr j (Nat.le_refl _) (by omega)) z
def dgv (x : Int32) : Nat := (x.toInt - 48).toNat
def cv (tp : Nat → Int32) (p : Nat) : Nat → Nat
  | 0 => 0
  | i + 1 => min 10000 (cv tp p i * 10 + dgv (tp (p + i)))
theorem cv_le (tp : Nat → Int32) (p : Nat) : ∀ i, cv tp p i ≤ 10000
  | 0 => Nat.zero_le _
  | i + 1 => Nat.min_le_left _ _
theorem dg_nI {x : Int32} (h : dg x) : x = nI (48 + dgv x) ∧ dgv x ≤ 9 := by
  unfold dg at h
  unfold dgv
  refine ⟨?_, by omega⟩
  have := nI_toNat (a := x) (by omega)
  rw [show 48 + (x.toInt - 48).toNat = x.toInt.toNat by omega]; exact this
theorem cv_step {c : Nat} {x : Int32} (hc : c ≤ 10000) (h : dg x) : zmin 10000 ((nI c * 10 + x) - 48) = nI (min 10000 (c * 10 + dgv x)) := by
  obtain ⟨h1, h2⟩ := dg_nI h
  rw [h1, show (10 : Int32) = nI 10 from rfl, show (48 : Int32) = nI 48 from rfl, pk_mul, nI_add, pk_sub (by omega), show c * 10 + (48 + dgv x) - 48 = c * 10 + dgv x by omega]
  rw [← h1]
  unfold zmin
  by_cases q : c * 10 + dgv x < 10000
  · rw [if_pos (show nI (c * 10 + dgv x) < 10000 from nI_lt q (by decide)), Nat.min_eq_right (by omega)]
  · rw [if_neg (show ¬ nI (c * 10 + dgv x) < 10000 from nI_nlt (a := c * 10 + dgv x) (b := 10000) (by omega) (by omega)), Nat.min_eq_left (by omega)]; rfl
theorem c_num {L p e : Nat} {E : zM → Option zM} (hL : L ≤ 120) (e1 : M.1 31 2 = nI L) (he : e ≤ L) (hend : e = L ∨ ¬ dg (M.1 32 e)) (hr : ∀ i, p ≤ i → i < e → dg (M.1 32 i)) : ∀ (d j f : Nat), j + d = e → d < f → p ≤ j → zL1 (bX6_advance_157 E) f (zst (zst M 31 7 (nI (cv (M.1 32) p (j - p)))) 31 6 (nI j)) = E (zst (zst M 31 7 (nI (cv (M.1 32) p (e - p)))) 31 6 (nI e)) := by
  intro d
  induction d with
  | zero =>
    intro j f hj hf hp
    obtain ⟨f, rfl⟩ : ∃ g, f = g + 1 := ⟨f - 1, by omega⟩
    have : j = e := by omega
    subst this
    rw [zL1_e]; unfold bX6_advance_157
    rw [zf (show 2 ≠ 6 by decide), zf (show 2 ≠ 7 by decide), zs, e1]
    by_cases q : L ≤ j
    · rw [if_pos (nI_le q (by omega))]
    · rcases c_dg (M.1 32 j) with ⟨z, _⟩ | ⟨_, z, _⟩
      · exact absurd z (hend.elim (fun y => by omega) id)
      · rw [if_neg (nI_ge (by omega) (by omega)), ix120 (by omega), z_bs, st_ne (by decide), st_ne (by decide), z, z_bs, o0]
  | succ d ih =>
    intro j f hj hf hp
    obtain ⟨f, rfl⟩ : ∃ g, f = g + 1 := ⟨f - 1, by omega⟩
    have hd := hr j hp (by omega)
    rcases c_dg (M.1 32 j) with ⟨_, z, _⟩ | ⟨z, _⟩
    · rw [zL1_e, ← ih (j + 1) f (by omega) (by omega) (by omega)]
      generalize zL1 (bX6_advance_157 E) f = rc
      unfold bX6_advance_157
      have e2 : cv (M.1 32) p (j + 1 - p) = min 10000 (cv (M.1 32) p (j - p) * 10 + dgv (M.1 32 j)) := by
        rw [show j + 1 - p = (j - p) + 1 by omega]
        show min 10000 (cv (M.1 32) p (j - p) * 10 + dgv (M.1 32 (p + (j - p)))) = _
        rw [show p + (j - p) = j by omega]
      have e3 : ∀ (v w x y : Int32), zst (zst (zst (zst M 31 7 v) 31 6 w) 31 7 x) 31 6 y = zst (zst M 31 7 x) 31 6 y := by
        intro v w x y
        refine Prod.ext ?_ rfl
        funext a b
        show (if a = 31 ∧ b = 6 then y else if a = 31 ∧ b = 7 then x else if a = 31 ∧ b = 6 then w else if a = 31 ∧ b = 7 then v else M.1 a b) = if a = 31 ∧ b = 6 then y else if a = 31 ∧ b = 7 then x else M.1 a b
        by_cases h1 : a = 31 ∧ b = 6
        · simp only [if_pos h1]
        · by_cases h2 : a = 31 ∧ b = 7
          · simp only [if_neg h1, if_pos h2]
          · simp only [if_neg h1, if_neg h2]
      rw [e2, ← cv_step (cv_le _ _ _) hd]
      simp only [zf (show 2 ≠ 6 by decide), zf (show 2 ≠ 7 by decide), zf (show 7 ≠ 6 by decide), zf (show 6 ≠ 7 by decide), zs, e1, if_neg (nI_ge (show j < L by omega) (show L < 2 ^ 31 by omega)), ix120 (show j < 120 by omega), z_bs, st_ne (show 32 ≠ 31 by decide), z, o1, nI_1, e3]
    · exact absurd hd z
end TL
