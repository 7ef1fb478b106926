/-! the text: hires; an item -/
section TU
variable {M N M' N' : zM}
theorem g_is (a : Int32) {m : Nat} {hi : Int64} (ey : hi.toInt = (m : Int) - 1) : ((fX10_in a.toInt64 0 hi).bind fun v => zbl v) = some (if 0 ≤ a.toInt ∧ a.toInt < m then 1 else 0) := by
  rw [m_in, z_bs, Int32.toInt_toInt64, ey, zbl01, show (0 : Int64).toInt = 0 from rfl]
  by_cases h : 0 ≤ a.toInt ∧ a.toInt < m
  · rw [if_pos h, if_pos (by omega)]
  · rw [if_neg h, if_neg (by omega)]
theorem m_isW {m : Nat} (hm : m ≤ 8) (e : N.1 1 2 = nI m) (a : Int32) : fX10_isWearer N a = some (if 0 ≤ a.toInt ∧ a.toInt < m then 1 else 0) := by
  unfold fX10_isWearer
  exact g_is a (by rw [e]; exact m_lim (by omega))
theorem m_isB {m : Nat} (hm : m ≤ 8) (e : N.1 1 1 = nI m) (a : Int32) : fX10_isBeard N a = some (if 0 ≤ a.toInt ∧ a.toInt < m then 1 else 0) := by
  unfold fX10_isBeard
  exact g_is a (by rw [e]; exact m_lim (by omega))
/-- a number of so many stands here -/
theorem t_here {L p q m : Nat} {k : Int32} (h : TP M N L p q k) (hm : m ≤ 8) : ∃ x, fX10_numberHere N = some x ∧ ((∃ v, v < m ∧ x = nI v ∧ M.1 31 7 = nI v ∧ fX6_isNumber M (nI m - 1) = some 1 ∧ (if 0 ≤ x.toInt ∧ x.toInt < (m : Int) then (1 : Int32) else 0) = 1) ∨ (fX6_isNumber M (nI m - 1) = some 0 ∧ (if 0 ≤ x.toInt ∧ x.toInt < (m : Int) then (1 : Int32) else 0) = 0)) := by
  obtain ⟨x, hx, hc⟩ := m_here h.at
  refine ⟨x, hx, ?_⟩
  obtain ⟨⟨hL, l1, l2, l3⟩, hpq, hqL, f5, f8, f6, f9, f11, f4, ht, h7⟩ := h
  have hcl := cv_le (N.1 6) p (q - p)
  have lim : (nI m - 1).toInt = (m : Int) - 1 := pk_sub_toInt (b := 1) (by omega) (by decide)
  have hi : k = 2 → fX6_isNumber M (nI m - 1) = some (if cv (N.1 6) p (q - p) < m then 1 else 0) := by
    intro e
    unfold fX6_isNumber
    rw [f4, if_pos e, h7 e]
    by_cases c : cv (N.1 6) p (q - p) < m
    · rw [if_pos c, if_neg (by rw [i_lt, lim, nI_toInt (by omega)]; omega), zbl1]
    · rw [if_neg c, if_pos (by rw [i_lt, lim, nI_toInt (by omega)]; omega), zbl0]
  rcases hc with ⟨c1, c2, rfl⟩ | ⟨c1, rfl⟩
  · rw [hi c1]
    by_cases c : cv (N.1 6) p (q - p) < m
    · refine Or.inl ⟨_, c, rfl, h7 c1, by rw [if_pos c], ?_⟩
      rw [nI_toInt (by omega), if_pos (by omega)]
    · refine Or.inr ⟨by rw [if_neg c], ?_⟩
      rw [nI_toInt (by omega), if_neg (by omega)]
  · refine Or.inr ⟨?_, ?_⟩
    · by_cases k2 : k = 2
      · rw [hi k2, if_neg (by have := c1 k2; omega)]
      · unfold fX6_isNumber
        rw [f4, if_neg k2, zbl0]
    · rw [if_neg (by have : (-1 : Int32).toInt = -1 := rfl; omega)]
/-- once it is wrong, what a hire still asks changes nothing -/
theorem m_hire0 {L p q nb : Nat} {k : Int32} (h : AT N L p q k) (hf : ¬ N.1 0 11 = 0) (hb : nb ≤ 8) (e : N.1 1 1 = nI nb) {x2 : Int32} : ((fX10_numberHere N).bind fun x7 =>
  (fX10_isBeard N x7).bind fun x8 =>
  zj (fun (x9 : Int32) =>
  (fX10_must N x9).bind fun M11 =>
  if (M11.1 0 11) = (0 : Int32) then ((fX10_beardSpot x7 (3 : Int32)).bind fun x13 =>
  (zix x13 59).bind fun j14 =>
  (some (zst M11 1 j14 x2)).bind fun M15 =>
  some M15) else (some M11)) fun J65_10 =>
  zj (J65_10 (0 : Int32)) fun J64_16 =>
  if x8 = (0 : Int32) then (J64_16) else ((fX10_its N x7 (3 : Int32)).bind fun x18 =>
  if x18 = (-1 : Int32) then (J65_10 (1 : Int32)) else (J64_16))) = some (zst N 0 11 1) := by
  obtain ⟨x, hx, hc⟩ := m_here h
  have f : ¬ (zst N 0 11 1).1 0 11 = 0 := by rw [zs]; decide
  have mm : ∀ a, fX10_must N a = some (zst N 0 11 1) := fun a => m_must0 (Or.inr hf)
  by_cases c : 0 ≤ x.toInt ∧ x.toInt < (nb : Int)
  · have hx2 : fX10_its N x 3 = some (N.1 1 (15 + 4 * x.toInt.toNat + 3)) := by
      have := m_i3 (N := N) (x := x.toInt.toNat) (by omega)
      rw [← nI_toNat c.1] at this; exact this
    by_cases c2 : N.1 1 (15 + 4 * x.toInt.toNat + 3) = -1
    · simp only [hx, z_bn, m_isB hb e, if_pos c, zj_n, o1, hx2, if_pos c2, mm, if_neg f]
    · simp only [hx, z_bn, m_isB hb e, if_pos c, zj_n, o1, hx2, if_neg c2, mm, if_neg f]
  · simp only [hx, z_bn, m_isB hb e, if_neg c, zj_n, if_true, mm, if_neg f]
theorem t_hire {L p q n nb nw : Nat} {k : Int32} (h : TP M N L p q k) (hS : Sim 11 n nb nw M (N.1 1)) (hp : p < q) : Out L p n M N (fX6_tellHire M) (fX10_hireItem N) := by
  have hwl := hS.nwl
  have hbl := hS.nbl
  obtain ⟨M1, N1, p1, q1, k1, a1, a2, a3, a4, a5, a6, a7⟩ := t_adv h
  have r1 : N1.1 1 = N.1 1 := a6.1 1 (by decide)
  have hS1 : Sim 11 n nb nw M1 (N1.1 1) := by rw [r1]; exact a5.sim hS
  have ew : M1.1 11 3 = nI nw := hS1.1.w2.trans hS1.e2
  obtain ⟨x2, e2, hc⟩ := t_here (m := nw) a3 (by omega)
  have iw := m_isW (N := N1) (m := nw) (by omega) hS1.e2 x2
  have b1 : ∀ q1', fX10_must N1 0 = some q1' → q1' = zst N1 0 11 1 := fun q1' z => by
    rw [m_must0 (Or.inl rfl)] at z; exact (Option.some.inj z).symm
  have f1 : ¬ (zst N1 0 11 1).1 0 11 = 0 := by rw [zs]; decide
  have mh := m_hire0 (N := zst N1 0 11 1) (nb := nb) (x2 := x2) a3.at.w f1 hbl (by rw [st_ne (by decide)]; exact hS1.e1)
  rw [zst_zst] at mh
  have bad : fX6_tellHire M = some (0, M1) → fX10_hireItem N = some (zst N1 0 11 1) → Out L p n M N (fX6_tellHire M) (fX10_hireItem N) := fun z1 z2 =>
    Or.inr ⟨M1, zst N1 0 11 1, p1, z1, z2, zs, a3.f5, by rw [zf (by decide)]; exact a3.at.e8, a3.l, a5.c, a6.m.tr (FM.s (by decide))⟩
  rcases hc with ⟨v, hv, rfl, e7, c1, c2⟩ | ⟨c1, c2⟩
  · have v6 : v < 6 := by omega
    rw [c2] at iw
    have wb := m_worn hS1 hv
    by_cases w : M1.1 (11 + 7) v = -1
    · have w' : M1.1 18 v = -1 := w
      obtain ⟨M7, N7, p7, q7, k7, d1, d2, d3, d4, d5, d6, d7⟩ := t_adv a3
      have tk : fX6_takeNumber M1 = some (nI v, M7) := by
        unfold fX6_takeNumber
        rw [z_bn, e7, d1, z_bn]
      have r7 : N7.1 1 = N1.1 1 := d6.1 1 (by decide)
      have hS7 : Sim 11 n nb nw M7 (N7.1 1) := by rw [r7]; exact d5.sim hS1
      have eb : M7.1 11 2 = nI nb := hS7.1.b1.trans hS7.e1
      obtain ⟨x7, g2, hg⟩ := t_here (m := nb) d3 hbl
      have ib := m_isB (N := N7) (m := nb) hbl hS7.e1 x7
      have f7 : ¬ (zst N7 0 11 1).1 0 11 = 0 := by rw [zs]; decide
      have mu0 : fX10_must N7 0 = some (zst N7 0 11 1) := m_must0 (Or.inl rfl)
      have bad7 : fX6_tellHire M = some (0, M7) → fX10_hireItem N = some (zst N7 0 11 1) → Out L p n M N (fX6_tellHire M) (fX10_hireItem N) := fun z1 z2 =>
        Or.inr ⟨M7, zst N7 0 11 1, p7, z1, z2, zs, d3.f5, by rw [zf (by decide)]; exact d3.at.e8, d3.l, a5.c.tr d5.c, (a6.m.tr d6.m).tr (FM.s (by decide))⟩
      rcases hg with ⟨u, hu, rfl, g7, g1, g3⟩ | ⟨g1, g3⟩
      · have u8 : u < 8 := by omega
        rw [g3] at ib
        have on : M7.1 15 u = N7.1 1 (15 + 4 * u + 3) := hS7.1.on u8
        by_cases o : N7.1 1 (15 + 4 * u + 3) = -1
        · obtain ⟨M9, N9, p9, q9, k9, i1, i2, i3, i4, i5, i6, i7⟩ := t_adv d3
          have tk2 : fX6_takeNumber M7 = some (nI u, M9) := by
            unfold fX6_takeNumber
            rw [z_bn, g7, i1, z_bn]
          have r9 : N9.1 1 = N7.1 1 := i6.1 1 (by decide)
          have hS9 : Sim 11 n nb nw M9 (N9.1 1) := by rw [r9]; exact i5.sim hS7
          have f9 := i3.f11
          have po : fX7_putOn M9 11 (nI v) (nI u) = some (zst (zst M9 (11 + 7) v (nI u)) (11 + 4) u (nI v)) := by
            unfold fX7_putOn; simp only [ix6 v6, ix8 u8, z_bn]
          refine Or.inl ⟨zst (zst M9 (11 + 7) v (nI u)) (11 + 4) u (nI v), zst N9 1 (15 + 4 * u + 3) (nI v), p9, q9, k9, nb, nw, ?_, ?_, i3.mv (by rw [st_ne (by decide), st_ne (by decide)]) (by rw [st_ne (by decide), st_ne (by decide)]) (fun j _ => by rw [st_ne (by decide)]) (st_ne (by decide)), ?_, by have := a3.2.1; have := d3.2.1; omega, ((a5.c.tr d5.c).tr i5.c).tr (FC.t ((FrT.st (by decide) (by decide)).tr (FrT.st (by decide) (by decide)))), ((a6.m.tr d6.m).tr i6.m).tr (FM.n FrN.st)⟩
          · unfold fX6_tellHire
            simp only [a1, z_bn, ew, c1, o1, e7, ix6 v6, if_pos w', tk, zb2_n, eb, g1, g7, ix8 u8, on, if_pos o, tk2, po, zbl1]
          · unfold fX10_hireItem
            simp only [a2, z_bn, e2, iw, zj_n, o1, wb, if_pos w, d2, g2, ib, m_i3 u8, if_pos o, i2, if_pos f9, m_bs3, ix59 (show 15 + 4 * u + 3 < 59 by omega)]
          · rw [zst_1]
            refine hS9.hire hv hu ?_ (by rw [r9]; exact o)
            rw [i5.1 (11 + 7) (by decide), d5.1 (11 + 7) (by decide)]; exact w
        · refine bad7 ?_ ?_
          · unfold fX6_tellHire
            simp only [a1, z_bn, ew, c1, o1, e7, ix6 v6, if_pos w', tk, zb2_n, eb, g1, g7, ix8 u8, on, if_neg o, zbl0]
          · unfold fX10_hireItem
            simp only [a2, z_bn, e2, iw, zj_n, o1, wb, if_pos w, d2, g2, ib, m_i3 u8, if_neg o, mu0, if_neg f7]
      · rw [g3] at ib
        refine bad7 ?_ ?_
        · unfold fX6_tellHire
          simp only [a1, z_bn, ew, c1, o1, e7, ix6 v6, if_pos w', tk, zb2_n, eb, g1, if_true, zbl0]
        · unfold fX10_hireItem
          simp only [a2, z_bn, e2, iw, zj_n, o1, wb, if_pos w, d2, g2, ib, if_true, mu0, if_neg f7]
    · have w' : ¬ M1.1 18 v = -1 := w
      refine bad ?_ ?_
      · unfold fX6_tellHire
        simp only [a1, z_bn, ew, c1, o1, e7, ix6 v6, if_neg w', zbl0]
      · refine Eq.trans ?_ mh
        unfold fX10_hireItem
        simp only [a2, z_bn, e2, iw, zj_n, o1, wb, if_neg w, m_must0 (N := N1) (a := 0) (Or.inl rfl)]
  · rw [c2] at iw
    refine bad ?_ ?_
    · unfold fX6_tellHire
      simp only [a1, z_bn, ew, c1, if_true, zbl0]
    · refine Eq.trans ?_ mh
      unfold fX10_hireItem
      simp only [a2, z_bn, e2, iw, zj_n, if_true, m_must0 (N := N1) (a := 0) (Or.inl rfl)]
end TU
