/-! the text: items, one by one -/
section TR
variable {M N M' N' : zM}
def Out (L p n : Nat) (M N : zM) (x : Option (Int32 × zM)) (y : Option zM) : Prop :=
  (∃ M' N' p' q' k' nb nw, x = some (1, M') ∧ y = some N' ∧ TP M' N' L p' q' k' ∧ Sim 11 n nb nw M' (N'.1 1) ∧ p < p' ∧ FC M M' ∧ FM N N') ∨
  (∃ M' N' p', x = some (0, M') ∧ y = some N' ∧ N'.1 0 11 = 1 ∧ M'.1 31 5 = nI p' ∧ N'.1 0 8 = nI p' ∧ p' ≤ 120 ∧ FC M M' ∧ FM N N')
theorem TP.l {L p q : Nat} {k : Int32} (h : TP M N L p q k) : p ≤ 120 := by have := h.at; unfold AT at this; omega
theorem AT.l {L p q : Nat} {k : Int32} (h : AT N L p q k) : p ≤ 120 := by unfold AT at h; omega
theorem AT.e8 {L p q : Nat} {k : Int32} (h : AT N L p q k) : N.1 0 8 = nI p := h.2.2.2.2.1
theorem TP.f5 {L p q : Nat} {k : Int32} (h : TP M N L p q k) : M.1 31 5 = nI p := h.2.2.2.1
theorem TP.f11 {L p q : Nat} {k : Int32} (h : TP M N L p q k) : N.1 0 11 = 0 := h.2.2.2.2.2.2.2.1
theorem bindS {α : Type} (x : Option α) : (x.bind fun a => some a) = x := by cases x <;> rfl
theorem kN0 : (2262596 : Int64) = lN (zK 0) := by decide
theorem kN1 : (244784306 : Int64) = lN (zK 1) := by decide
theorem kN2 : (24389253 : Int64) = lN (zK 2) := by decide
theorem kN3 : (14832254356741 : Int64) = lN (zK 3) := by decide
theorem kN4 : (323739001900 : Int64) = lN (zK 4) := by decide
theorem kN5 : (17648634087528 : Int64) = lN (zK 5) := by decide
theorem kN6 : (777046194 : Int64) = lN (zK 6) := by decide
theorem kN7 : (8902245 : Int64) = lN (zK 7) := by decide
theorem kN8 : (271941 : Int64) = lN (zK 8) := by decide
theorem kN9 : (198053 : Int64) = lN (zK 9) := by decide
theorem kN10 : (8881732 : Int64) = lN (zK 10) := by decide
theorem kN11 : (19387844 : Int64) = lN (zK 11) := by decide
theorem kN12 : (3751539 : Int64) = lN (zK 12) := by decide
theorem kN13 : (212420 : Int64) = lN (zK 13) := by decide
def jB (x1 : Int32) (M6 : zM) : Option (Int32 × zM) :=
  (fX6_isWord M6 10).bind fun x8 =>
  if x8 = (0 : Int32) then ((zbl (1 : Int32)).bind (fun v => some (v, M6))) else ((fX6_advance M6).bind fun M10 =>
  (fX6_isNumber M10 (999 : Int32)).bind fun x11 =>
  if x11 = (0 : Int32) then ((zbl (0 : Int32)).bind (fun v => some (v, M10))) else (zb2 (fX6_takeNumber M10) fun x13 M14 =>
  (zix x1 8).bind fun j15 =>
  (some (zst M14 14 j15 x13)).bind fun M16 =>
  (zbl (1 : Int32)).bind (fun v => some (v, M16))))
theorem t_hoard {L p q n nb nw p0 b : Nat} {k : Int32} {M0 N0 : zM} (h : TP M N L p q k) (hS : Sim 11 n nb nw M (N.1 1)) (hb : b < 8) (hp : p0 < p) (hC : FC M0 M) (hM : FM N0 N) : Out L p0 n M0 N0 (jB (nI b) M) (fX10_partItem N (8881732 : Int64) (nI (15 + 4 * b + 2)) (999 : Int32)) := by
  unfold jB
  rcases t_part h (i := 10) (s := 15 + 4 * b + 2) (hi := 999) (by decide) (by omega) (by decide) kN10 with ⟨a1, a2⟩ | ⟨a1, M1, a2, ⟨v, M', N', p', q', k', b1, b2, b3, b4, b5, b6, b7, b8⟩ | ⟨b1, N', p', q', k', b2, b3, b4, b5, b6, b7⟩⟩
  · refine Or.inl ⟨M, N, p, q, k, nb, nw, ?_, a2, h, hS, hp, hC, hM⟩
    simp only [a1, z_bn, if_true, zbl1]
  · refine Or.inl ⟨zst M' 14 b (nI v), zst N' 1 (15 + 4 * b + 2) (nI v), p', q', k', nb, nw, ?_, b4, b5.mv (st_ne (by decide)) (st_ne (by decide)) (fun j _ => by rw [st_ne (by decide)]) (st_ne (by decide)), ?_, by omega, (hC.tr b7.c).tr (FC.t (FrT.st (by decide) (by decide))), (hM.tr b8.m).tr (FM.n FrN.st)⟩
    · have b2' : fX6_isNumber M1 999 = some 1 := b2
      simp only [a1, a2, b2', b3, z_bn, zb2_n, o1, ix8 hb, zbl1]
    · rw [zst_1, b8.1 1 (by decide)]
      exact (b7.sim hS).hoard hb (nI_pos (by omega))
  · refine Or.inr ⟨M1, N', p', ?_, b2, b3, b4, b5.e8, b5.l, hC.tr b6.c, hM.tr b7.m⟩
    have b1' : fX6_isNumber M1 999 = some 0 := b1
    simp only [a1, a2, b1', z_bn, o1, if_true, zbl0]
theorem t_beard {L p q n nb nw x : Nat} {k : Int32} (h : TP M N L p q k) (hS : Sim 11 n nb nw M (N.1 1)) (hx : x < 6) (hp : p < q) : Out L p n M N (fX6_tellBeard M (nI x)) (fX10_beardItem N (nI x)) := by
  have hbl := hS.nbl
  by_cases hb : nb < 8
  · obtain ⟨Mb, eMb, hT, hSb⟩ : ∃ Mb, fX7_addBeard M 11 (nI x) = some (nI nb, Mb) ∧ FrT 11 M Mb ∧ Sim 11 n (nb + 1) nw Mb (upd (upd (upd (upd (upd (N.1 1) 1 (nI (nb + 1))) (15 + 4 * nb) (nI x)) (15 + 4 * nb + 1) 10) (15 + 4 * nb + 2) 0) (15 + 4 * nb + 3) (-1)) := ⟨_, c_addB hS hb, FrB, hS.addB hb hx⟩
    obtain ⟨M4, N4, p4, q4, k4, a1, a2, a3, a4, a5, a6, a7⟩ := t_adv (h.mv (M' := Mb) (N' := N) (hT.1 31 (by decide)) (hT.1 32 (by decide)) (fun _ _ => rfl) rfl)
    have r4 : N4.1 1 = N.1 1 := a6.1 1 (by decide)
    obtain ⟨N5, c1, c2, c3⟩ := m_addB (M := M) (N := N4) (by rw [r4]; exact hS) (k := x) hb
    have hS4 : Sim 11 n (nb + 1) nw M4 (N5.1 1) := by rw [c3, r4]; exact a5.sim hSb
    have h4 : TP M4 N5 L p4 q4 k4 := a3.mv rfl rfl (fun j _ => by rw [c2.1 0 (by decide)]) (c2.1 6 (by decide))
    have g0 : (0 : Int32) ≤ nI nb := nI_le (a := 0) (Nat.zero_le _) (by omega)
    have g8 : ¬ (8 : Int32) ≤ N.1 1 1 := by rw [hS.e1]; exact nI_ge (b := 8) hb (by decide)
    have hC : FC M M4 := (FC.t hT).tr a5.c
    have hM : FM N N5 := a6.m.tr (FM.n c2)
    have f4 := a3.f11
    rcases t_part h4 (i := 9) (s := 15 + 4 * nb + 1) (hi := 99) (by decide) (by omega) (by decide) kN9 with ⟨w1, w2⟩ | ⟨w1, M1, w2, ⟨v, M', N', p', q', k', b1, b2, b3, b4, b5, b6, b7, b8⟩ | ⟨b1, N', p', q', k', b2, b3, b4, b5, b6, b7⟩⟩
    · have e1 : fX6_tellBeard M (nI x) = jB (nI nb) M4 := by
        unfold fX6_tellBeard
        simp only [eMb, zb2_n, if_pos g0, a1, w1, z_bn, zj_n, if_true]; rfl
      have e2 : fX10_beardItem N (nI x) = fX10_partItem N5 (8881732 : Int64) (nI (15 + 4 * nb + 2)) (999 : Int32) := by
        have w2' : fX10_partItem N5 198053 (nI (15 + 4 * nb + 1)) 99 = some N5 := w2
        unfold fX10_beardItem
        simp only [if_neg g8, zj_n, a2, z_bn, if_pos f4, c1, zb2_n, m_bs1, w2', m_bs2]
        exact bindS _
      rw [e1, e2]
      exact t_hoard h4 hS4 hb (by omega) hC hM
    · have e1 : fX6_tellBeard M (nI x) = jB (nI nb) (zst M' 13 nb (nI v)) := by
        have b2' : fX6_isNumber M1 99 = some 1 := b2
        unfold fX6_tellBeard jB
        simp only [eMb, zb2_n, if_pos g0, a1, w1, z_bn, zj_n, o1, w2, b2', b3, ix8 hb]
      have e2 : fX10_beardItem N (nI x) = fX10_partItem (zst N' 1 (15 + 4 * nb + 1) (nI v)) (8881732 : Int64) (nI (15 + 4 * nb + 2)) (999 : Int32) := by
        have b4' : fX10_partItem N5 198053 (nI (15 + 4 * nb + 1)) 99 = some (zst N' 1 (15 + 4 * nb + 1) (nI v)) := b4
        unfold fX10_beardItem
        simp only [if_neg g8, zj_n, a2, z_bn, if_pos f4, c1, zb2_n, m_bs1, b4', m_bs2]
        exact bindS _
      rw [e1, e2]
      refine t_hoard (b5.mv (st_ne (by decide)) (st_ne (by decide)) (fun j _ => by rw [st_ne (by decide)]) (st_ne (by decide))) (nb := nb + 1) (nw := nw) ?_ hb (by omega) ((hC.tr b7.c).tr (FC.t (FrT.st (by decide) (by decide)))) ((hM.tr b8.m).tr (FM.n FrN.st))
      rw [zst_1, b8.1 1 (by decide)]
      exact (b7.sim hS4).fame hb (nI v)
    · refine Or.inr ⟨M1, N', p', ?_, ?_, b3, b4, b5.e8, b5.l, hC.tr b6.c, hM.tr b7.m⟩
      · have b1' : fX6_isNumber M1 99 = some 0 := b1
        unfold fX6_tellBeard
        simp only [eMb, zb2_n, if_pos g0, a1, w1, z_bn, zj_n, o1, w2, b1', if_true, zbl0]
      · have b2' : fX10_partItem N5 198053 (nI (15 + 4 * nb + 1)) 99 = some N' := b2
        have b9 : fX10_partItem N' (8881732 : Int64) (nI (15 + 4 * nb + 2)) (999 : Int32) = some N' := m_part0 b5 (by rw [b3]; decide) (i := 10) (by decide) kN10
        unfold fX10_beardItem
        simp only [if_neg g8, zj_n, a2, z_bn, if_pos f4, c1, zb2_n, m_bs1, b2', m_bs2, b9]
  · refine Or.inr ⟨M, zst N 0 11 1, p, ?_, ?_, zs, h.f5, by rw [zf (by decide)]; exact h.at.e8, h.l, FC.rf, FM.s (by decide)⟩
    · unfold fX6_tellBeard
      simp only [c_addBno hS hb, zb2_n, if_neg (show ¬ (0 : Int32) ≤ -1 by decide), zbl0, z_bn]
    · have g8 : (8 : Int32) ≤ N.1 1 1 := by rw [hS.e1]; exact nI_le (a := 8) (by omega) (by omega)
      have f : ¬ (zst N 0 11 1).1 0 11 = 0 := by rw [zs]; decide
      unfold fX10_beardItem
      simp only [if_pos g8, zj_n, m_must0 (N := N) (a := 0) (Or.inl rfl), z_bn, if_neg f]
end TR
