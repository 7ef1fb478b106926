/-! the text: all items; the shop -/
section TW
variable {M N M' N' : zM}
def Fin (n : Nat) (M0 N0 : zM) (Ec : zM → Option (Int32 × zM)) (Em : zM → Int32 → Option (Int32 × zM)) (x y : Option (Int32 × zM)) : Prop :=
  (∃ i M' N' nb nw, 1 ≤ i ∧ i ≤ 121 ∧ x = some (nI i, M') ∧ y = Em N' (nI i) ∧ N'.1 0 11 = 0 ∧ N'.1 0 7 ≤ N'.1 0 8 ∧ Sim 11 n nb nw M' (N'.1 1) ∧ FC M0 M' ∧ FM N0 N') ∨
  (∃ v M' N' p, x = Ec M' ∧ y = Em N' v ∧ (¬ N'.1 0 11 = 0 ∨ N'.1 0 11 = 0 ∧ ¬ N'.1 0 7 ≤ N'.1 0 8) ∧ M'.1 31 5 = nI p ∧ N'.1 0 8 = nI p ∧ p ≤ 120 ∧ FC M0 M' ∧ FM N0 N')
theorem t_all {L n : Nat} {M0 N0 : zM} {Ec : zM → Option (Int32 × zM)} {Em : zM → Int32 → Option (Int32 × zM)} : ∀ (d p q i nb nw fc fm : Nat) (k : Int32) (M N : zM), L < p + d → d ≤ fc → d ≤ fm → TP M N L p q k → Sim 11 n nb nw M (N.1 1) → 1 ≤ i → 2 * i ≤ p + 2 → FC M0 M → FM N0 N → Fin n M0 N0 Ec Em (zL2 (bX6_tellAll_11 Ec) fc M (nI i)) ((fX10_item N).bind fun N5 => zL2 (bX10_shop_24 Em) fm N5 (nI i)) := by
  intro d
  induction d with
  | zero =>
    intro p q i nb nw fc fm k M N hL _ _ h
    have := h.at
    unfold AT at this
    omega
  | succ d ih =>
    intro p q i nb nw fc fm k M N hL hc hm h hS hi1 hip hC hM
    have hp := h.l
    obtain ⟨fc, rfl⟩ : ∃ g, fc = g + 1 := ⟨fc - 1, by omega⟩
    obtain ⟨fm, rfl⟩ : ∃ g, fm = g + 1 := ⟨fm - 1, by omega⟩
    have i120 : ¬ (120 : Int32) < nI i := nI_nlt (b := i) (a := 120) (by omega) (by decide)
    rcases t_item h hS with ⟨M1, N1, p1, q1, k1, nb1, nw1, a1, a2, a3, a4, a5, a6, a7⟩ | ⟨M1, N1, p1, a1, a2, a3, a4, a5, a6, a7, a8⟩
    · have hq := a3.2.1
      have f1 := a3.f11
      have e4 : M1.1 31 4 = k1 := a3.2.2.2.2.2.2.2.2.1
      have hat := a3.at
      obtain ⟨hL1, -, hqL1, l2, f8, f9, ht⟩ := hat
      have ends : ¬ k1 = 0 → ¬ k1 = 3 → p1 < L → (∃ b, fX10_byteAt N1 (nI p1) = some b ∧ ¬ b = 59) → Fin n M0 N0 Ec Em (zL2 (bX6_tellAll_11 Ec) (fc + 1) M (nI i)) ((fX10_item N).bind fun N5 => zL2 (bX10_shop_24 Em) (fm + 1) N5 (nI i)) := by
        intro k0 k3 hp1 hb
        obtain ⟨b, hb1, hb2⟩ := hb
        refine Or.inr ⟨nI i, M1, N1, p1, ?_, ?_, Or.inr ⟨f1, ?_⟩, a3.f5, f8, a3.l, hC.tr a6, hM.tr a7⟩
        · rw [zL2_e]; generalize zL2 (bX6_tellAll_11 Ec) fc = rc; unfold bX6_tellAll_11
          simp only [if_neg i120, a1, zb2_n, o1, e4, if_neg k0, if_neg k3]
        · rw [a2, z_bn, zL2_e]; generalize zL2 (bX10_shop_24 Em) fm = rc; unfold bX10_shop_24
          simp only [if_pos f1, f8, hb1, z_bn, if_neg hb2]
        · rw [l2, f8]; exact nI_ge hp1 (by omega)
      rcases ht with ⟨rfl, z1, z2⟩ | ⟨rfl, z1, z2, z3⟩ | ⟨rfl, z1, z2, z3⟩ | ⟨rfl, z1, z2, z3⟩ | ⟨rfl, z1, z2, z3, z4, z5⟩
      · refine Or.inl ⟨i, M1, N1, nb1, nw1, hi1, by omega, ?_, ?_, f1, ?_, a4, hC.tr a6, hM.tr a7⟩
        · rw [zL2_e]; generalize zL2 (bX6_tellAll_11 Ec) fc = rc; unfold bX6_tellAll_11
          simp only [if_neg i120, a1, zb2_n, o1, e4, if_true]
        · rw [a2, z_bn, zL2_e]; generalize zL2 (bX10_shop_24 Em) fm = rc; unfold bX10_shop_24
          have hb : fX10_byteAt N1 (nI p1) = some (-1) := by rw [z1]; exact m_byteO hL1 l2
          simp only [if_pos f1, f8, hb, z_bn, if_neg (show ¬ (-1 : Int32) = 59 by decide)]
        · rw [l2, f8]; exact nI_le (by omega) (by omega)
      · refine ends (by decide) (by decide) (by omega) ⟨_, m_byteI hL1 l2 (by omega), fun z => ?_⟩
        have := z3 p1 (Nat.le_refl _) z1
        rw [z] at this; exact absurd this (by unfold lt; decide)
      · refine ends (by decide) (by decide) (by omega) ⟨_, m_byteI hL1 l2 (by omega), fun z => ?_⟩
        have := z3 p1 (Nat.le_refl _) z1
        rw [z] at this; exact absurd this (by unfold dg; decide)
      · obtain ⟨M2, N2, p2, q2, k2, b1, b2, b3, b4, b5, b6, b7⟩ := t_adv a3
        have IH := ih p2 q2 (i + 1) nb1 nw1 fc fm k2 M2 N2 (by omega) (by omega) (by omega) b3 (by rw [b6.1 1 (by decide)]; exact b5.sim a4) (by omega) (by omega) ((hC.tr a6).tr b5.c) ((hM.tr a7).tr b6.m)
        have e1 : zL2 (bX6_tellAll_11 Ec) (fc + 1) M (nI i) = zL2 (bX6_tellAll_11 Ec) fc M2 (nI (i + 1)) := by
          rw [zL2_e]; generalize zL2 (bX6_tellAll_11 Ec) fc = rc; unfold bX6_tellAll_11
          simp only [if_neg i120, a1, zb2_n, o1, e4, if_neg (show ¬ (3 : Int32) = 0 by decide), if_true, b1, z_bn, nI_1]
        have e2 : ((fX10_item N).bind fun N5 => zL2 (bX10_shop_24 Em) (fm + 1) N5 (nI i)) = (fX10_item N2).bind fun N5 => zL2 (bX10_shop_24 Em) fm N5 (nI (i + 1)) := by
          rw [a2, z_bn, zL2_e]; generalize zL2 (bX10_shop_24 Em) fm = rc; unfold bX10_shop_24
          have hb : fX10_byteAt N1 (nI p1) = some 59 := by rw [m_byteI hL1 l2 z1, z3]
          simp only [if_pos f1, f8, hb, z_bn, if_true, b2, nI_1]
        rw [e1, e2]; exact IH
      · exact ends (by decide) (by decide) z1 ⟨_, m_byteI hL1 l2 z1, z5⟩
    · have f : ¬ N1.1 0 11 = 0 := by rw [a3]; decide
      refine Or.inr ⟨nI i, M1, N1, p1, ?_, ?_, Or.inl f, a4, a5, a6, hC.tr a7, hM.tr a8⟩
      · rw [zL2_e]; generalize zL2 (bX6_tellAll_11 Ec) fc = rc; unfold bX6_tellAll_11
        simp only [if_neg i120, a1, zb2_n, if_true]
      · rw [a2, z_bn, zL2_e]; generalize zL2 (bX10_shop_24 Em) fm = rc; unfold bX10_shop_24
        simp only [if_neg f]
theorem rel_end (h : Rel M N) (h1 : ∀ x, x = 0 ∨ 21 ≤ x → x ≠ 31 → M'.1 x = M.1 x) (h2 : M'.2 = M.2) (h3 : M'.1 31 2 = 0) (n1 : ∀ x, x ≠ 0 → x ≠ 1 → x ≠ 3 → N'.1 x = N.1 x) (n2 : N'.2 = N.2) (n3 : N'.1 0 5 = N.1 0 5) (n4 : N'.1 0 7 = 0) (hl : RelL M' N') : Rel M' N' := by
  obtain ⟨a, b, c, d, e⟩ := h
  exact ⟨hl, b.mv (by rw [h1 0 (by decide) (by decide)]) (fun k k1 k2 => h1 k (by omega) (by omega)) n3 (fun j hj => by rw [n1 2 (by decide) (by decide) (by decide)]), c.mv (h1 33 (by decide) (by decide)) (n1 5 (by decide) (by decide) (by decide)), ⟨0, by decide, h3, n4, fun j hj => by omega⟩, e.mv (fun k k1 k2 => h1 k (by omega) (by omega)) h2 (n1 7 (by decide) (by decide) (by decide)) (n1 8 (by decide) (by decide) (by decide)) n2⟩
theorem s_shop (h : Rel M N) : Okk (fX9_shop M) (fX10_shop N) := by
  obtain ⟨n, nb, nw, hn, hS⟩ := h.1
  obtain ⟨L, hL, l1, l2, l3⟩ := h.2.2.2.1
  obtain ⟨M1, eM1, hS1, hT⟩ := become_sim (t := 11) (t2 := 1) (Or.inr (by decide)) hS
  have r31 : M1.1 31 = M.1 31 := hT.1 31 (by decide)
  have r32 : M1.1 32 = M.1 32 := hT.1 32 (by decide)
  obtain ⟨M2, N2, p, q, k, b1, b2, b3, b4, b5, ⟨c1, c2, c3, c4, c5, c6⟩, ⟨d1, d2, d3, d4, d5⟩, b8, b9⟩ := adv_sim (M := zst M1 31 6 0) (N := zst (zst (cpN N 1 3 59) 0 11 0) 0 9 0) (L := L) (q := 0)
    ⟨hL, by rw [zf (by decide), r31]; exact l1, by rw [zf (by decide), zf (by decide), cpN_ne (by decide)]; exact l2, fun j hj => by rw [st_ne (by decide), st_ne (by decide), st_ne (by decide), cpN_ne (by decide), r32]; exact l3 j hj⟩ (Nat.zero_le _) zs zs
  have t6 : N2.1 6 = N.1 6 := by rw [d1 6 (by decide), st_ne (by decide), st_ne (by decide), cpN_ne (by decide)]
  have t1 : N2.1 1 = N.1 1 := by rw [d1 1 (by decide), st_ne (by decide), st_ne (by decide), cpN_ne (by decide)]
  have t6' : (zst (zst (cpN N 1 3 59) 0 11 0) 0 9 0).1 6 = N2.1 6 := (d1 6 (by decide)).symm
  rw [t6'] at b8 b9
  have hTP : TP M2 N2 L p q k := by
    refine ⟨⟨hL, ?_, ?_, fun j hj => ?_⟩, b4, b5, c4, d4, c5, d5, ?_, c6, b8, b9⟩
    · rw [c1, zf (by decide), r31]; exact l1
    · rw [d3 7 (by decide) (by decide), zf (by decide), zf (by decide), cpN_ne (by decide)]; exact l2
    · rw [c2 32 (by decide), st_ne (by decide), r32, t6]; exact l3 j hj
    · rw [d3 11 (by decide) (by decide), zf (by decide), zs]
  have hS2 : Sim 11 n nb nw M2 (N2.1 1) := by
    rw [t1]
    exact hS1.congrM (fun x x1 x2 => by rw [c2 x (by omega), st_ne (by omega)])
  have hC : FC M M2 := by
    refine ⟨fun x x1 x2 => ?_, ?_, ?_⟩
    · rw [c2 x x2, st_ne x2, hT.1 x x1]
    · rw [c3, zst_g2, hT.2]
    · rw [c1, zf (by decide), r31]
  have hM : FM (cpN N 1 3 59) N2 := by
    refine ⟨fun x x1 x2 => ?_, ?_, fun j hj => ?_⟩
    · rw [d1 x x1, st_ne x1, st_ne x1]
    · rw [d2, zst_g2, zst_g2]
    · rw [d3 j (by omega) (by omega), zf (by omega), zf (by omega)]
  have fin := t_all (L := L) (n := n) (M0 := M) (N0 := cpN N 1 3 59) (Ec := fun M3 => some (((-1 : Int32) - (M3.1 31 5)), M3)) (Em := fun (M6 : zM) (x7 : Int32) =>
    zj (fun (x9 : Int32) =>
    (zbl x9).bind fun x11 =>
    (some (zst M6 0 11 x11)).bind fun M12 =>
    zj (fun (M13 : zM) =>
    (some (zst M13 0 7 (0 : Int32))).bind fun M15 =>
    if (M15.1 0 11) = (0 : Int32) then (some (x7, M15)) else (some (((-1 : Int32) - (M15.1 0 8)), M15))) fun J97_14 =>
    if (M12.1 0 11) = (0 : Int32) then (J97_14 M12) else ((fX10_putsBack M12).bind fun M18 =>
    J97_14 M18)) fun J83_10 =>
    zj (J83_10 (1 : Int32)) fun J78_19 =>
    if (M6.1 0 11) = (0 : Int32) then (if (M6.1 0 7) ≤ (M6.1 0 8) then (J83_10 (0 : Int32)) else (J78_19)) else (J78_19)) 122 p q 1 nb nw zFuel zFuel k M2 N2 (by omega) (Nat.le_of_lt (zF0 (by omega))) (Nat.le_of_lt (zF0 (by omega))) hTP hS2 (Nat.le_refl _) (by omega) hC hM
  rcases fin with ⟨i, M', N', nb', nw', i1, i2, e1, e2, f1, f2, hS', hC', hM'⟩ | ⟨v, M', N', p', e1, e2, f1, f5, f8, hp', hC', hM'⟩
  · have hSz : Sim 11 n nb' nw' (zst M' 31 2 0) (N'.1 1) := hS'.congrM (fun x x1 x2 => st_ne (by omega))
    obtain ⟨M6, eM6, hS6, hT6⟩ := become_sim (t := 1) (t2 := 11) (Or.inl (by decide)) hSz
    have x1 : fX9_shop M = some (nI i, M6) := by
      have ta : fX6_tellAll M1 = some (nI i, M') := by
        unfold fX6_tellAll
        simp only [z_bn, b1, zj_n]
        exact e1
      have ip : ¬ nI i ≤ 0 := nI_ge (a := 0) (by omega) (by omega)
      unfold fX9_shop
      simp only [eM1, z_bn, ta, zb2_n, if_neg ip, eM6]
    have f3 : (zst N' 0 11 0).1 0 11 = 0 := zs
    have f4 : (zst (zst N' 0 11 0) 0 7 0).1 0 11 = 0 := by rw [zf (by decide), zs]
    have x2 : fX10_shop N = some (nI i, zst (zst N' 0 11 0) 0 7 0) := by
      unfold fX10_shop
      simp only [m_saves, z_bn, b2, zj_n]
      simp only [zj_n] at e2
      refine Eq.trans e2 ?_
      simp only [if_pos f1, if_pos f2, zbl0, z_bn, if_pos f3, if_pos f4]
    rw [x1, x2]
    refine Okk.st rfl (rel_end h (fun x a b => ?_) ?_ ?_ (fun x a b c => ?_) ?_ ?_ ?_ ⟨n, nb', nw', hn, ?_⟩)
    · rw [hT6.1 x (by omega), st_ne b, hC'.1 x (by omega) b]
    · rw [hT6.2, zst_g2, hC'.2.1]
    · rw [hT6.1 31 (by decide), zs]
    · rw [st_ne a, st_ne a, hM'.1 x a b, cpN_ne c]
    · rw [zst_g2, zst_g2, hM'.2.1, cpN_2]
    · rw [zf (by decide), zf (by decide), hM'.2.2 5 (by decide), cpN_ne (by decide)]
    · rw [zs]
    · rw [st_ne (by decide), st_ne (by decide)]; exact hS6
  · have ta : fX6_tellAll M1 = some (-1 - nI p', M') := by
      unfold fX6_tellAll
      simp only [z_bn, b1, zj_n]
      refine Eq.trans e1 ?_
      simp only [f5]
    have ip : (-1 : Int32) - nI p' ≤ 0 := by
      rw [i_le, Int32.toInt_sub, nI_toInt (by omega), show (-1 : Int32).toInt = -1 from rfl, show (0 : Int32).toInt = 0 from rfl]
      rw [Int.bmod_eq_of_le (by omega) (by omega)]
      omega
    have x1 : fX9_shop M = some (-1 - nI p', zst M' 31 2 0) := by
      unfold fX9_shop
      simp only [eM1, z_bn, ta, zb2_n, if_pos ip]
    have f3 : ¬ (zst N' 0 11 1).1 0 11 = 0 := by rw [zs]; decide
    have f4 : ¬ (zst (cpN (zst N' 0 11 1) 3 1 59) 0 7 0).1 0 11 = 0 := by rw [zf (by decide), cpN_ne (by decide), zs]; decide
    have f6 : (zst (cpN (zst N' 0 11 1) 3 1 59) 0 7 0).1 0 8 = nI p' := by rw [zf (by decide), cpN_ne (by decide), zf (by decide)]; exact f8
    have x2 : fX10_shop N = some (-1 - nI p', zst (cpN (zst N' 0 11 1) 3 1 59) 0 7 0) := by
      unfold fX10_shop
      simp only [m_saves, z_bn, b2, zj_n]
      simp only [zj_n] at e2
      refine Eq.trans e2 ?_
      rcases f1 with f1 | ⟨f1, f2⟩
      · simp only [if_neg f1, zbl1, z_bn, if_neg f3, m_putsBack, if_neg f4, f6]
      · simp only [if_pos f1, if_neg f2, zbl1, z_bn, if_neg f3, m_putsBack, if_neg f4, f6]
    rw [x1, x2]
    refine Okk.st rfl (rel_end h (fun x a b => ?_) ?_ ?_ (fun x a b c => ?_) ?_ ?_ ?_ (h.1.mv (fun x a b => ?_) (fun j hj => ?_)))
    · rw [st_ne b, hC'.1 x (by omega) b]
    · rw [zst_g2, hC'.2.1]
    · rw [zs]
    · rw [st_ne a, cpN_ne b, st_ne a, hM'.1 x a b, cpN_ne c]
    · rw [zst_g2, cpN_2, zst_g2, hM'.2.1, cpN_2]
    · rw [zf (by decide), cpN_ne (by decide), zf (by decide), hM'.2.2 5 (by decide), cpN_ne (by decide)]
    · rw [zs]
    · rw [st_ne (by omega), hC'.1 x (by omega) (by omega)]
    · rw [st_ne (by decide), cpN_at hj, st_ne (by decide), hM'.1 3 (by decide) (by decide), cpN_at hj]
end TW
