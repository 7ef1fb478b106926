/-! the text: a whole shop -/
section TV
variable {M N M' N' : zM}
theorem c_kindL {E : Option (Int32 × zM)} (hw : ∀ i, i < 6 → fX6_isWord M i = some 1 ∨ fX6_isWord M i = some 0) : ∀ (d j f : Nat), j + d = 6 → d < f → (∃ i, j ≤ i ∧ i < 6 ∧ fX6_isWord M i = some 1 ∧ (∀ i', j ≤ i' → i' < i → fX6_isWord M i' = some 0) ∧ zL1 (bX6_tellItem_2 M E) f (nI j) = zb2 (fX6_tellBeard M (nI i)) fun x22 M23 => (zbl x22).bind (fun v => some (v, M23))) ∨ ((∀ i, j ≤ i → i < 6 → fX6_isWord M i = some 0) ∧ zL1 (bX6_tellItem_2 M E) f (nI j) = E) := by
  intro d
  induction d with
  | zero =>
    intro j f hj hf
    obtain ⟨f, rfl⟩ : ∃ g, f = g + 1 := ⟨f - 1, by omega⟩
    refine Or.inr ⟨fun i h1 h2 => by omega, ?_⟩
    rw [zL1_e]; unfold bX6_tellItem_2
    rw [if_pos (show (6 : Int32) ≤ nI j from nI_le (a := 6) (by omega) (by omega))]
  | succ d ih =>
    intro j f hj hf
    obtain ⟨f, rfl⟩ : ∃ g, f = g + 1 := ⟨f - 1, by omega⟩
    have hlt : ¬ (6 : Int32) ≤ nI j := nI_ge (b := 6) (show j < 6 by omega) (by decide)
    rcases hw j (by omega) with w | w
    · refine Or.inl ⟨j, Nat.le_refl _, by omega, w, fun i h1 h2 => by omega, ?_⟩
      rw [zL1_e]; unfold bX6_tellItem_2
      simp only [if_neg hlt, ix6 (show j < 6 by omega), z_bn, w, o1]
    · have st : zL1 (bX6_tellItem_2 M E) (f + 1) (nI j) = zL1 (bX6_tellItem_2 M E) f (nI (j + 1)) := by
        rw [zL1_e]
        generalize zL1 (bX6_tellItem_2 M E) f = rc
        unfold bX6_tellItem_2
        simp only [if_neg hlt, ix6 (show j < 6 by omega), z_bn, w, if_true, nI_1]
      rw [st]
      rcases ih (j + 1) f (by omega) (by omega) with ⟨i, a1, a2, a3, a4, a5⟩ | ⟨a1, a2⟩
      · refine Or.inl ⟨i, by omega, a2, a3, fun i' h1 h2 => ?_, a5⟩
        by_cases e : i' = j
        · rw [e]; exact w
        · exact a4 i' (by omega) h2
      · refine Or.inr ⟨fun i h1 h2 => ?_, a2⟩
        by_cases e : i = j
        · rw [e]; exact w
        · exact a1 i (by omega) h2
theorem Out.z {L p n : Nat} {x : Option (Int32 × zM)} {y : Option zM} (h : Out L p n M N x y) : zb2 x (fun x22 M23 => (zbl x22).bind (fun v => some (v, M23))) = x ∧ zb2 x (fun x8 M9 => if x8 = (0 : Int32) then ((zbl (0 : Int32)).bind (fun v => some (v, M9))) else ((zbl (1 : Int32)).bind (fun v => some (v, M9)))) = x := by
  rcases h with ⟨M', N', p', q', k', nb, nw, rfl, _⟩ | ⟨M', N', p', rfl, _⟩
  · exact ⟨by simp only [zb2_n, zbl1, z_bn], by simp only [zb2_n, o1, zbl1, z_bn]⟩
  · exact ⟨by simp only [zb2_n, zbl0, z_bn], by simp only [zb2_n, if_true, zbl0, z_bn]⟩
theorem t_item {L p q n nb nw : Nat} {k : Int32} (h : TP M N L p q k) (hS : Sim 11 n nb nw M (N.1 1)) : Out L p n M N (fX6_tellItem M) (fX10_item N) := by
  obtain ⟨y, hy, hw⟩ := t_word h
  have w0 := hw 0 (by decide)
  have w1 := hw 1 (by decide)
  have w2 := hw 2 (by decide)
  have w3 := hw 3 (by decide)
  have w4 := hw 4 (by decide)
  have w5 := hw 5 (by decide)
  have w6 := hw 6 (by decide)
  have w7 := hw 7 (by decide)
  have w8 := hw 8 (by decide)
  rw [← kN0] at w0
  rw [← kN1] at w1
  rw [← kN2] at w2
  rw [← kN3] at w3
  rw [← kN4] at w4
  rw [← kN5] at w5
  rw [← kN6] at w6
  rw [← kN7] at w7
  rw [← kN8] at w8
  have hc : ∀ {c : Prop} {i : Nat}, fX6_isWord M i = some 0 → ((fX6_isWord M i = some 1 ∧ c ∧ p < q) ∨ (fX6_isWord M i = some 0 ∧ ¬ c)) → ¬ c := fun z w => w.elim (fun u => by rw [z] at u; exact absurd u.1 (by decide)) (fun u => u.2)
  have hd : ∀ {c : Prop} {i : Nat}, fX6_isWord M i = some 1 → ((fX6_isWord M i = some 1 ∧ c ∧ p < q) ∨ (fX6_isWord M i = some 0 ∧ ¬ c)) → c ∧ p < q := fun z w => w.elim (fun u => u.2) (fun u => by rw [z] at u; exact absurd u.1 (by decide))
  have hl := fun E => c_kindL (M := M) (E := E) (fun i hi => (hw i (by omega)).imp (fun z => z.1) (fun z => z.1)) 6 0 zFuel (by decide) (zF0 (by decide))
  by_cases hk : ∃ i, i < 6 ∧ fX6_isWord M i = some 1
  · have key : ∃ i, i < 6 ∧ p < q ∧ (∀ E, lX6_tellItem_2 M E zFuel 0 = zb2 (fX6_tellBeard M (nI i)) fun x22 M23 => (zbl x22).bind (fun v => some (v, M23))) ∧ fX10_kindHere N = some (nI i) := by
      rcases hl none with ⟨i, -, a2, a3, a4, -⟩ | ⟨a1, -⟩
      · refine ⟨i, a2, (hd a3 (hw i (by omega))).2, fun E => ?_, ?_⟩
        · rcases hl E with ⟨i', -, b2, b3, b4, b5⟩ | ⟨b1, -⟩
          · have : i' = i := by
              rcases Nat.lt_trichotomy i' i with c | c | c
              · have := a4 i' (Nat.zero_le _) c; rw [b3] at this; exact absurd this (by decide)
              · exact c
              · have := b4 i (Nat.zero_le _) c; rw [a3] at this; exact absurd this (by decide)
            subst this
            exact b5
          · have := b1 i (Nat.zero_le _) a2; rw [a3] at this; exact absurd this (by decide)
        · unfold fX10_kindHere
          rcases (show i = 0 ∨ i = 1 ∨ i = 2 ∨ i = 3 ∨ i = 4 ∨ i = 5 by omega) with rfl | rfl | rfl | rfl | rfl | rfl
          · rw [hy, z_bn, if_pos (hd a3 w0).1]; rfl
          · rw [hy, z_bn, if_neg (hc (a4 0 (by decide) (by decide)) w0), if_pos (hd a3 w1).1]; rfl
          · rw [hy, z_bn, if_neg (hc (a4 0 (by decide) (by decide)) w0), if_neg (hc (a4 1 (by decide) (by decide)) w1), if_pos (hd a3 w2).1]; rfl
          · rw [hy, z_bn, if_neg (hc (a4 0 (by decide) (by decide)) w0), if_neg (hc (a4 1 (by decide) (by decide)) w1), if_neg (hc (a4 2 (by decide) (by decide)) w2), if_pos (hd a3 w3).1]; rfl
          · rw [hy, z_bn, if_neg (hc (a4 0 (by decide) (by decide)) w0), if_neg (hc (a4 1 (by decide) (by decide)) w1), if_neg (hc (a4 2 (by decide) (by decide)) w2), if_neg (hc (a4 3 (by decide) (by decide)) w3), if_pos (hd a3 w4).1]; rfl
          · rw [hy, z_bn, if_neg (hc (a4 0 (by decide) (by decide)) w0), if_neg (hc (a4 1 (by decide) (by decide)) w1), if_neg (hc (a4 2 (by decide) (by decide)) w2), if_neg (hc (a4 3 (by decide) (by decide)) w3), if_neg (hc (a4 4 (by decide) (by decide)) w4), if_pos (hd a3 w5).1]; rfl
      · obtain ⟨i, i6, hi⟩ := hk
        have := a1 i (Nat.zero_le _) i6; rw [hi] at this; exact absurd this (by decide)
    obtain ⟨i, i6, hp, k1, k2⟩ := key
    have ob := t_beard h hS i6 hp
    have e1 : fX6_tellItem M = fX6_tellBeard M (nI i) := by
      unfold fX6_tellItem
      rw [zj_n, k1]; exact ob.z.1
    have e2 : fX10_item N = fX10_beardItem N (nI i) := by
      unfold fX10_item
      simp only [k2, z_bn, hy, if_neg (nI_pos (show i < 2 ^ 31 by omega))]
      exact bindS _
    rw [e1, e2]; exact ob
  · have a1 : ∀ i, i < 6 → fX6_isWord M i = some 0 := fun i hi => (hw i (by omega)).elim (fun z => absurd ⟨i, hi, z.1⟩ hk) (fun z => z.1)
    have k1 : ∀ E, lX6_tellItem_2 M E zFuel 0 = E := fun E => by
      rcases hl E with ⟨i, -, b2, b3, -⟩ | ⟨-, b1⟩
      · exact absurd ⟨i, b2, b3⟩ hk
      · exact b1
    have k2 : fX10_kindHere N = some (-1) := by
      unfold fX10_kindHere
      rw [hy, z_bn, if_neg (hc (a1 0 (by decide)) w0), if_neg (hc (a1 1 (by decide)) w1), if_neg (hc (a1 2 (by decide)) w2), if_neg (hc (a1 3 (by decide)) w3), if_neg (hc (a1 4 (by decide)) w4), if_neg (hc (a1 5 (by decide)) w5)]
    have m1 : (-1 : Int32) < 0 := by decide
    rcases w6 with ⟨x6, y6, hp⟩ | ⟨x6, y6⟩
    · have ob := t_wearer h hS hp
      have e1 : fX6_tellItem M = fX6_tellWearer M := by
        unfold fX6_tellItem
        simp only [zj_n, k1, x6, z_bn, o1]; exact ob.z.1
      have e2 : fX10_item N = fX10_wearerItem N := by
        unfold fX10_item
        simp only [k2, z_bn, hy, if_pos m1, if_pos y6]; exact bindS _
      rw [e1, e2]; exact ob
    · rcases w7 with ⟨x7, y7, hp⟩ | ⟨x7, y7⟩
      · have ob := t_house h hS hp
        have e1 : fX6_tellItem M = fX6_tellHouse M := by
          unfold fX6_tellItem
          simp only [zj_n, k1, x6, x7, z_bn, o1, if_true]; exact ob.z.1
        have e2 : fX10_item N = fX10_houseItem N := by
          unfold fX10_item
          simp only [k2, z_bn, hy, if_pos m1, if_neg y6, if_pos y7]; exact bindS _
        rw [e1, e2]; exact ob
      · rcases w8 with ⟨x8, y8, hp⟩ | ⟨x8, y8⟩
        · have ob := t_hire h hS hp
          have e1 : fX6_tellItem M = fX6_tellHire M := by
            unfold fX6_tellItem
            simp only [zj_n, k1, x6, x7, x8, z_bn, o1, if_true]; exact ob.z.2
          have e2 : fX10_item N = fX10_hireItem N := by
            unfold fX10_item
            simp only [k2, z_bn, hy, if_pos m1, if_neg y6, if_neg y7, if_pos y8]; exact bindS _
          rw [e1, e2]; exact ob
        · refine Or.inr ⟨M, zst N 0 11 1, p, ?_, ?_, zs, h.f5, by rw [zf (by decide)]; exact h.at.e8, h.l, FC.rf, FM.s (by decide)⟩
          · unfold fX6_tellItem
            simp only [zj_n, k1, x6, x7, x8, z_bn, if_true, zbl0]
          · unfold fX10_item
            simp only [k2, z_bn, hy, if_pos m1, if_neg y6, if_neg y7, if_neg y8, m_must0 (N := N) (a := 0) (Or.inl rfl)]
end TV
