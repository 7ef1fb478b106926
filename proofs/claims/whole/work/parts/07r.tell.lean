/-! the text: wearers, houses, hires -/
section TS
variable {M N M' N' : zM}
theorem upd_sw {s : Nat → Int32} {b c : Nat} {y z w : Int32} (h : b ≠ c) : upd (upd (upd s b y) c z) b w = upd (upd s b w) c z := by
  funext j
  by_cases e : j = b
  · subst e; rw [pk_us, pk_un h, pk_us]
  · by_cases e2 : j = c
    · subst e2; rw [pk_un e, pk_us, pk_us]
    · rw [pk_un e, pk_un e2, pk_un e, pk_un e2, pk_un e]
def jW (x1 : Int32) (M10 : zM) : Option (Int32 × zM) :=
  (fX6_isWord M10 11).bind fun x11 =>
  if x11 = (0 : Int32) then ((zbl (1 : Int32)).bind (fun v => some (v, M10))) else ((fX6_advance M10).bind fun M13 =>
  (fX6_isNumber M13 (5 : Int32)).bind fun x14 =>
  if x14 = (0 : Int32) then ((zbl (0 : Int32)).bind (fun v => some (v, M13))) else (zb2 (fX6_takeNumber M13) fun x16 M17 =>
  (zix x1 6).bind fun j18 =>
  (some (zst M17 17 j18 x16)).bind fun M19 =>
  (zbl (1 : Int32)).bind (fun v => some (v, M19))))
theorem t_round {L p q n nb nw p0 b : Nat} {k : Int32} {M0 N0 : zM} (h : TP M N L p q k) (hS : Sim 11 n nb nw M (N.1 1)) (hb : b < 6) (hp : p0 < p) (hC : FC M0 M) (hM : FM N0 N) : Out L p0 n M0 N0 (jW (nI b) M) (fX10_partItem N (19387844 : Int64) (nI (47 + 2 * b + 1)) (5 : Int32)) := by
  unfold jW
  rcases t_part h (i := 11) (s := 47 + 2 * b + 1) (hi := 5) (by decide) (by omega) (by decide) kN11 with ⟨a1, a2⟩ | ⟨a1, M1, a2, ⟨v, M', N', p', q', k', b1, b2, b3, b4, b5, b6, b7, b8⟩ | ⟨b1, N', p', q', k', b2, b3, b4, b5, b6, b7⟩⟩
  · refine Or.inl ⟨M, N, p, q, k, nb, nw, ?_, a2, h, hS, hp, hC, hM⟩
    simp only [a1, z_bn, if_true, zbl1]
  · refine Or.inl ⟨zst M' 17 b (nI v), zst N' 1 (47 + 2 * b + 1) (nI v), p', q', k', nb, nw, ?_, b4, b5.mv (st_ne (by decide)) (st_ne (by decide)) (fun j _ => by rw [st_ne (by decide)]) (st_ne (by decide)), ?_, by omega, (hC.tr b7.c).tr (FC.t (FrT.st (by decide) (by decide))), (hM.tr b8.m).tr (FM.n FrN.st)⟩
    · have b2' : fX6_isNumber M1 5 = some 1 := b2
      simp only [a1, a2, b2', b3, z_bn, zb2_n, o1, ix6 hb, zbl1]
    · rw [zst_1, b8.1 1 (by decide)]
      exact (b7.sim hS).round hb (by omega)
  · refine Or.inr ⟨M1, N', p', ?_, b2, b3, b4, b5.e8, b5.l, hC.tr b6.c, hM.tr b7.m⟩
    have b1' : fX6_isNumber M1 5 = some 0 := b1
    simp only [a1, a2, b1', z_bn, o1, if_true, zbl0]
theorem t_wearer {L p q n nb nw : Nat} {k : Int32} (h : TP M N L p q k) (hS : Sim 11 n nb nw M (N.1 1)) (hp : p < q) : Out L p n M N (fX6_tellWearer M) (fX10_wearerItem N) := by
  have hwl := hS.nwl
  by_cases hb : nw < 6
  · obtain ⟨Mb, eMb, hT, hSb⟩ : ∃ Mb, fX7_addWearer M 11 0 = some (nI nw, Mb) ∧ FrT 11 M Mb ∧ Sim 11 n nb (nw + 1) Mb (upd (upd (upd (N.1 1) 2 (nI (nw + 1))) (47 + 2 * nw) 0) (47 + 2 * nw + 1) (nI nw)) := ⟨_, c_addW hS hb, FrW, hS.addW hb 0⟩
    obtain ⟨M4, N4, p4, q4, k4, a1, a2, a3, a4, a5, a6, a7⟩ := t_adv (h.mv (M' := Mb) (N' := N) (hT.1 31 (by decide)) (hT.1 32 (by decide)) (fun _ _ => rfl) rfl)
    have g0 : (0 : Int32) ≤ nI nw := nI_le (a := 0) (Nat.zero_le _) (by omega)
    have g6 : ¬ (6 : Int32) ≤ N.1 1 2 := by rw [hS.e2]; exact nI_ge (b := 6) hb (by decide)
    have hC : FC M M4 := (FC.t hT).tr a5.c
    rcases t_num a3 (hi := 9999) (Nat.le_refl _) with ⟨v, M8, N8, p8, q8, k8, b1, b2, b3, b4, b5, b6, b7, b8, b9⟩ | ⟨b1, N', b2, b3, b4, b5⟩
    · have r8 : N8.1 1 = N.1 1 := (b9.1 1 (by decide)).trans (a6.1 1 (by decide))
      obtain ⟨N9, c1, c2, c3⟩ := m_addW (M := M) (N := N8) (by rw [r8]; exact hS) (nI v) hb
      have e1 : fX6_tellWearer M = jW (nI nw) (zst M8 16 nw (nI v)) := by
        have b2' : fX6_isNumber M4 9999 = some 1 := b2
        unfold fX6_tellWearer jW
        simp only [eMb, zb2_n, if_pos g0, a1, z_bn, o1, b2', b3, ix6 hb]
      have e2 : fX10_wearerItem N = fX10_partItem N9 (19387844 : Int64) (nI (47 + 2 * nw + 1)) (5 : Int32) := by
        have b4' : fX10_number N4 0 9999 = some N8 := b4
        unfold fX10_wearerItem
        simp only [if_neg g6, zj_n, a2, z_bn, b4', if_pos b6.f11, b5, c1, zb2_n, m_ws1]
        exact bindS _
      rw [e1, e2]
      refine t_round (nb := nb) (nw := nw + 1) (b6.mv (st_ne (by decide)) (st_ne (by decide)) (fun j _ => by rw [c2.1 0 (by decide)]) (c2.1 6 (by decide))) ?_ hb (by omega) ((hC.tr b8.c).tr (FC.t (FrT.st (by decide) (by decide)))) ((a6.m.tr b9.m).tr (FM.n c2))
      have s1 := (b8.sim (a5.sim hSb)).purse hb (nI v)
      rw [upd_sw (by omega)] at s1
      rw [c3, r8]; exact s1
    · refine Or.inr ⟨M4, N', p4, ?_, ?_, b3, a3.f5, b4.e8, b4.l, hC, a6.m.tr b5.m⟩
      · have b1' : fX6_isNumber M4 9999 = some 0 := b1
        unfold fX6_tellWearer
        simp only [eMb, zb2_n, if_pos g0, a1, z_bn, b1', if_true, zbl0]
      · have b2' : fX10_number N4 0 9999 = some N' := b2
        have f : ¬ N'.1 0 11 = 0 := by rw [b3]; decide
        unfold fX10_wearerItem
        simp only [if_neg g6, zj_n, a2, z_bn, b2', if_neg f]
  · refine Or.inr ⟨M, zst N 0 11 1, p, ?_, ?_, zs, h.f5, by rw [zf (by decide)]; exact h.at.e8, h.l, FC.rf, FM.s (by decide)⟩
    · unfold fX6_tellWearer
      simp only [c_addWno hS hb, zb2_n, if_neg (show ¬ (0 : Int32) ≤ -1 by decide), zbl0, z_bn]
    · have g6 : (6 : Int32) ≤ N.1 1 2 := by rw [hS.e2]; exact nI_le (a := 6) (by omega) (by omega)
      have f : ¬ (zst N 0 11 1).1 0 11 = 0 := by rw [zs]; decide
      unfold fX10_wearerItem
      simp only [if_pos g6, zj_n, m_must0 (N := N) (a := 0) (Or.inl rfl), z_bn, m_number0 f, if_neg f]
theorem t_house {L p q n nb nw : Nat} {k : Int32} (h : TP M N L p q k) (hS : Sim 11 n nb nw M (N.1 1)) (hp : p < q) : Out L p n M N (fX6_tellHouse M) (fX10_houseItem N) := by
  obtain ⟨M1, N1, p1, q1, k1, a1, a2, a3, a4, a5, a6, a7⟩ := t_adv h
  rcases t_num a3 (hi := 5) (by decide) with ⟨v, M5, N5, p5, q5, k5, b1, b2, b3, b4, b5, b6, b7, b8, b9⟩ | ⟨b1, N', b2, b3, b4, b5⟩
  · have b2' : fX6_isNumber M1 5 = some 1 := b2
    have b4' : fX10_number N1 0 5 = some N5 := b4
    have v6 : v < 6 := by omega
    have hz : 3 + 2 * v + 1 < 59 := by omega
    obtain ⟨y, hy, hw⟩ := t_word b6
    have w13 := hw 13 (by decide)
    have w12 := hw 12 (by decide)
    rw [← kN13] at w13
    rw [← kN12] at w12
    have hC : FC M M5 := a5.c.tr b8.c
    have hM : FM N N5 := a6.m.tr b9.m
    have f5 := b6.f11
    have hS5 : Sim 11 n nb nw M5 (N5.1 1) := by rw [b9.1 1 (by decide), a6.1 1 (by decide)]; exact b8.sim (a5.sim hS)
    have nx : fX6_isWord M5 12 = some 1 ∨ fX6_isWord M5 13 = some 1 → Out L p n M N (fX6_tellHouse M) (fX10_houseItem N) := by
      intro hor
      obtain ⟨M8, N8, p8, q8, k8, d1, d2, d3, d4, d5, d6, d7⟩ := t_adv b6
      rcases t_num d3 (hi := 50) (by decide) with ⟨u, M9, N9, p9, q9, k9, e1, e2, e3, e4, e5, e6, e7, e8, e9⟩ | ⟨e1, N', e2, e3, e4, e5⟩
      · have e2' : fX6_isNumber M8 50 = some 1 := e2
        have e4' : fX10_number N8 0 50 = some N9 := e4
        have f9 := e6.f11
        have hC9 : FC M M9 := (hC.tr d5.c).tr e8.c
        have hM9 : FM N N9 := (hM.tr d6.m).tr e9.m
        have hS9 : Sim 11 n nb nw M9 (N9.1 1) := by rw [e9.1 1 (by decide), d6.1 1 (by decide)]; exact e8.sim (d5.sim hS5)
        have fin : ∀ z : Int32, Out L p n M N (some (1, zst M9 19 v z)) (some (zst N9 1 (3 + 2 * v + 1) z)) := by
          intro z
          refine Or.inl ⟨_, _, p9, q9, k9, nb, nw, rfl, rfl, e6.mv (st_ne (by decide)) (st_ne (by decide)) (fun j _ => by rw [st_ne (by decide)]) (st_ne (by decide)), ?_, by have := b6.2.1; omega, hC9.tr (FC.t (FrT.st (by decide) (by decide))), hM9.tr (FM.n FrN.st)⟩
          rw [zst_1]
          exact hS9.mood v6 z
        rcases w12 with ⟨x1, x2, _⟩ | ⟨x1, x2⟩
        · have y2 : ¬ lg_cmp y 212420 = 0 := fun z => by
            have z1 := (lg_cmp_eq _ _).mp z
            have z2 := (lg_cmp_eq _ _).mp x2
            rw [z1] at z2
            exact absurd z2 (by decide)
          have q1 : fX6_tellHouse M = some (1, zst M9 19 v (-(nI u))) := by
            unfold fX6_tellHouse
            simp only [a1, z_bn, b2', o1, b3, zb2_n, x1, zj_n, d1, e2', e3, ix6 v6, zbl1]
          have q2 : fX10_houseItem N = some (zst N9 1 (3 + 2 * v + 1) (-(nI u))) := by
            unfold fX10_houseItem
            simp only [a2, z_bn, b4', if_pos f5, b5, hy, zj_n, if_neg y2, if_pos x2, d2, e4', m_hs1, if_pos f9, if_true, ix59 hz, e5, Int32.zero_sub]
          rw [q1, q2]; exact fin _
        · rcases w13 with ⟨y1, y2, _⟩ | ⟨y1, y2⟩
          · have q1 : fX6_tellHouse M = some (1, zst M9 19 v (nI u)) := by
              unfold fX6_tellHouse
              simp only [a1, z_bn, b2', o1, b3, zb2_n, x1, y1, zj_n, d1, e2', e3, ix6 v6, zbl1, if_true]
            have q2 : fX10_houseItem N = some (zst N9 1 (3 + 2 * v + 1) (nI u)) := by
              unfold fX10_houseItem
              simp only [a2, z_bn, b4', if_pos f5, b5, hy, zj_n, if_pos y2, o1, d2, e4', m_hs1, if_pos f9, ix59 hz, e5]
            rw [q1, q2]; exact fin _
          · rcases hor with z | z
            · rw [x1] at z; exact absurd z (by decide)
            · rw [y1] at z; exact absurd z (by decide)
      · have e1' : fX6_isNumber M8 50 = some 0 := e1
        have e2' : fX10_number N8 0 50 = some N' := e2
        have f : ¬ N'.1 0 11 = 0 := by rw [e3]; decide
        refine Or.inr ⟨M8, N', p8, ?_, ?_, e3, d3.f5, e4.e8, e4.l, hC.tr d5.c, (hM.tr d6.m).tr e5.m⟩
        · unfold fX6_tellHouse
          rcases w12 with ⟨x1, x2, _⟩ | ⟨x1, x2⟩
          · simp only [a1, z_bn, b2', o1, b3, zb2_n, x1, zj_n, d1, e1', zbl0, if_true]
          · rcases hor with z | z
            · rw [x1] at z; exact absurd z (by decide)
            · simp only [a1, z_bn, b2', o1, b3, zb2_n, x1, z, zj_n, d1, e1', zbl0, if_true]
        · unfold fX10_houseItem
          rcases w13 with ⟨y1, y2, _⟩ | ⟨y1, y2⟩
          · simp only [a2, z_bn, b4', if_pos f5, b5, hy, zj_n, if_pos y2, o1, d2, e2', m_hs1, if_neg f, m_h1 v6, ix59 hz, zst_id (show N'.1 1 (3 + 2 * v + 1) = N'.1 1 (3 + 2 * v + 1) from rfl)]
          · rcases w12 with ⟨x1, x2, _⟩ | ⟨x1, x2⟩
            · simp only [a2, z_bn, b4', if_pos f5, b5, hy, zj_n, if_neg y2, if_pos x2, if_true, d2, e2', m_hs1, if_neg f, m_h1 v6, ix59 hz, zst_id (show N'.1 1 (3 + 2 * v + 1) = N'.1 1 (3 + 2 * v + 1) from rfl)]
            · rcases hor with z | z
              · rw [x1] at z; exact absurd z (by decide)
              · rw [y1] at z; exact absurd z (by decide)
    rcases w12 with ⟨x1, x2, x3⟩ | ⟨x1, x2⟩
    · exact nx (Or.inl x1)
    · rcases w13 with ⟨y1, y2, _⟩ | ⟨y1, y2⟩
      · exact nx (Or.inr y1)
      · have f : ¬ (zst N5 0 11 1).1 0 11 = 0 := by rw [zs]; decide
        refine Or.inr ⟨M5, zst N5 0 11 1, p5, ?_, ?_, zs, b6.f5, by rw [zf (by decide)]; exact b6.at.e8, b6.l, hC, hM.tr (FM.s (by decide))⟩
        · unfold fX6_tellHouse
          simp only [a1, z_bn, b2', o1, b3, zb2_n, x1, y1, zj_n, if_true, zbl0]
        · unfold fX10_houseItem
          simp only [a2, z_bn, b4', if_pos f5, b5, hy, zj_n, if_neg y2, if_neg x2, if_true, m_must0 (N := N5) (a := 0) (Or.inl rfl), m_number0 f, m_hs1, if_neg f, m_h1 v6, ix59 hz, zst_id (show (zst N5 0 11 1).1 1 (3 + 2 * v + 1) = (zst N5 0 11 1).1 1 (3 + 2 * v + 1) from rfl)]
  · refine Or.inr ⟨M1, N', p1, ?_, ?_, b3, a3.f5, b4.e8, b4.l, a5.c, a6.m.tr b5.m⟩
    · have b1' : fX6_isNumber M1 5 = some 0 := b1
      unfold fX6_tellHouse
      simp only [a1, z_bn, b1', if_true, zbl0]
    · have b2' : fX10_number N1 0 5 = some N' := b2
      have f : ¬ N'.1 0 11 = 0 := by rw [b3]; decide
      unfold fX10_houseItem
      simp only [a2, z_bn, b2', if_neg f]
end TS
