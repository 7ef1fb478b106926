/-! a night -/
section SE
variable {t n nb nw : Nat} {M N : zM} {s : Nat → Int32}
theorem loop2 {A R : Type} {F : (A → Int32 → Option R) → A → Int32 → Option R} {E : A → Option R} {m : Nat} (g : Nat → A) (hx : ∀ rc, F rc (g m) (nI m) = E (g m)) (hs : ∀ rc i, i < m → F rc (g i) (nI i) = rc (g (i + 1)) (nI (i + 1))) : ∀ (j i f : Nat), i + j = m → j < f → zL2 F f (g i) (nI i) = E (g m) := by
  intro j
  induction j with
  | zero =>
    intro i f hi hf
    obtain ⟨f, rfl⟩ : ∃ g, f = g + 1 := ⟨f - 1, by omega⟩
    have : i = m := by omega
    subst this
    rw [zL2_e, hx]
  | succ j ih =>
    intro i f hi hf
    obtain ⟨f, rfl⟩ : ∃ g, f = g + 1 := ⟨f - 1, by omega⟩
    rw [zL2_e, hs _ i (by omega)]
    exact ih (i + 1) f (by omega) (by omega)
theorem zF0 {m : Nat} (h : m < 1000000) : m < zFuel := h
/-- which beard a wearer has on, as the model finds it -/
theorem m_worn (h : Sim t n nb nw M (N.1 1)) {w : Nat} (hw : w < nw) : fX10_wornBy N (nI w) = some (M.1 (t + 7) w) := by
  have hbl := h.nbl
  have hwl := h.nwl
  unfold fX10_wornBy
  rw [zj_e]
  unfold lX10_wornBy_4
  have main : ∀ g : Nat → Int32, g 0 = -1 → (∀ i, i < nb → (if N.1 1 (15 + 4 * i + 3) = nI w then nI i else g i) = g (i + 1)) → zL2 (bX10_wornBy_4 N (nI w) fun x1 => some x1) zFuel (-1) 0 = some (g nb) := by
    intro g g0 gs
    have := loop2 (F := bX10_wornBy_4 N (nI w) fun x1 => some x1) (E := fun x1 => some x1) (m := nb) g (fun rc => by
      unfold bX10_wornBy_4
      rw [h.e1, if_pos (nI_le (Nat.le_refl _) (by omega))]) (fun rc i hi => by
      unfold bX10_wornBy_4
      rw [← gs i hi]
      by_cases e : N.1 1 (15 + 4 * i + 3) = nI w
      · simp only [h.e1, if_neg (nI_ge hi (show nb < 2 ^ 31 by omega)), m_i3 (show i < 8 by omega), z_bs, zj_e, nI_1, if_pos e]
      · simp only [h.e1, if_neg (nI_ge hi (show nb < 2 ^ 31 by omega)), m_i3 (show i < 8 by omega), z_bs, zj_e, nI_1, if_neg e]) nb 0 zFuel (by omega) (zF0 (by omega))
    rw [g0] at this
    exact this
  rcases (h.W hw).2 with e | ⟨b0, hb0, e, e2⟩
  · rw [e]
    refine main (fun _ => -1) rfl (fun i hi => ?_)
    rw [if_neg]
    intro c
    exact nI_m1 i (by omega) ((h.wOf hw hi c).symm.trans e)
  · rw [e]
    have := main (fun i => if b0 < i then nI b0 else -1) rfl (fun i hi => by
      by_cases c : N.1 1 (15 + 4 * i + 3) = nI w
      · have : i = b0 := nI_inj (by omega) (by omega) ((h.wOf hw hi c).symm.trans e)
        subst this
        rw [if_pos c, if_pos (by omega)]
      · have hne : i ≠ b0 := fun q => c (by rw [q]; exact e2)
        rw [if_neg c]
        by_cases q : b0 < i
        · rw [if_pos q, if_pos (by omega)]
        · rw [if_neg q, if_neg (by omega)])
    rw [if_pos hb0] at this
    exact this
def Kq (t nw : Nat) (M M' : zM) : Prop := ∀ w, w < nw → (M.1 (t + 7) w = -1 → M'.1 (t + 7) w = -1 ∧ M'.1 (t + 5) w = M.1 (t + 5) w) ∧ (M'.1 (t + 7) w = M.1 (t + 7) w ∨ M'.1 (t + 7) w = -1)
theorem Kq.rf : Kq t nw M M := fun w _ => ⟨fun e => ⟨e, rfl⟩, Or.inl rfl⟩
theorem Kq.tr {M' M'' : zM} (h : Kq t nw M M') (h' : Kq t nw M' M'') : Kq t nw M M'' := by
  intro w hw
  obtain ⟨a1, a2⟩ := h w hw
  obtain ⟨b1, b2⟩ := h' w hw
  refine ⟨fun e => ⟨(b1 (a1 e).1).1, (b1 (a1 e).1).2.trans (a1 e).2⟩, ?_⟩
  rcases b2 with b2 | b2
  · rcases a2 with a2 | a2
    · exact Or.inl (b2.trans a2)
    · exact Or.inr (b2.trans a2)
  · exact Or.inr b2
theorem nightW (hn : n < 2 ^ 30) : ∀ (j i f f' : Nat) (M N : zM), i + j = nw → j < f → j < f' → Sim t n nb nw M (N.1 1) →
    ∃ M' N', (∀ E, zL2 (bX7_passNight_2 t E) f M (nI i) = E M') ∧ (∀ E, zL2 (bX10_night_2 E) f' N (nI i) = E N') ∧ Sim t n nb nw M' (N'.1 1) ∧ FrT t M M' ∧ FrN N N' ∧ Kq t nw M M' := by
  intro j
  induction j with
  | zero =>
    intro i f f' M N hi hf hf' h
    have hwl := h.nwl
    obtain ⟨f, rfl⟩ : ∃ g, f = g + 1 := ⟨f - 1, by omega⟩
    obtain ⟨f', rfl⟩ : ∃ g, f' = g + 1 := ⟨f' - 1, by omega⟩
    have : i = nw := by omega
    subst this
    refine ⟨M, N, fun E => ?_, fun E => ?_, h, FrT.rf, FrN.rf, Kq.rf⟩
    · rw [zL2_e]; unfold bX7_passNight_2
      rw [h.1.w2, h.e2, if_pos (nI_le (Nat.le_refl _) (by omega))]
    · rw [zL2_e]; unfold bX10_night_2
      rw [h.e2, if_pos (nI_le (Nat.le_refl _) (by omega))]
  | succ j ih =>
    intro i f f' M N hi hf hf' h
    have hwl := h.nwl
    have hbl := h.nbl
    obtain ⟨f, rfl⟩ : ∃ g, f = g + 1 := ⟨f - 1, by omega⟩
    obtain ⟨f', rfl⟩ : ∃ g, f' = g + 1 := ⟨f' - 1, by omega⟩
    have hin : i < nw := by omega
    rcases (h.W hin).2 with e | ⟨b0, hb0, e, e2⟩
    · obtain ⟨M', N', c1, c2, c3, c4, c5, c6⟩ := ih (i + 1) f f' M N (by omega) (by omega) (by omega) h
      refine ⟨M', N', fun E => ?_, fun E => ?_, c3, c4, c5, c6⟩
      · have c := c1 E
        rw [zL2_e]
        generalize zL2 (bX7_passNight_2 t E) f = rc at c ⊢
        unfold bX7_passNight_2
        simp only [h.1.w2, h.e2, if_neg (nI_ge hin (show nw < 2 ^ 31 by omega)), ix6 (show i < 6 by omega), z_bs, zj_e, if_pos e, nI_1]
        exact c
      · have c := c2 E
        rw [zL2_e]
        generalize zL2 (bX10_night_2 E) f' = rc at c ⊢
        unfold bX10_night_2
        simp only [h.e2, if_neg (nI_ge hin (show nw < 2 ^ 31 by omega)), m_worn h hin, z_bs, zj_e, if_pos e, nI_1]
        exact c
    · obtain ⟨M1, N1, d1, d2, d3, d4, d5, d6, d7⟩ := spend_sim h hn hin hb0 e
      obtain ⟨M', N', c1, c2, c3, c4, c5, c6⟩ := ih (i + 1) f f' M1 N1 (by omega) (by omega) (by omega) d3
      have hne : ¬ M.1 (t + 7) i = -1 := by rw [e]; exact nI_m1 b0 (by omega)
      refine ⟨M', N', fun E => ?_, fun E => ?_, c3, d4.tr c4, d5.tr c5, Kq.tr (fun w hw => ?_) c6⟩
      · have c := c1 E
        rw [zL2_e]
        generalize zL2 (bX7_passNight_2 t E) f = rc at c ⊢
        unfold bX7_passNight_2
        simp only [h.1.w2, h.e2, if_neg (nI_ge hin (show nw < 2 ^ 31 by omega)), ix6 (show i < 6 by omega), z_bs, zj_e, e, if_neg (nI_m1 b0 (show b0 < 2 ^ 31 by omega)), d1, nI_1]
        exact c
      · have c := c2 E
        rw [zL2_e]
        generalize zL2 (bX10_night_2 E) f' = rc at c ⊢
        unfold bX10_night_2
        simp only [h.e2, if_neg (nI_ge hin (show nw < 2 ^ 31 by omega)), m_worn h hin, z_bs, zj_e, e, if_neg (nI_m1 b0 (show b0 < 2 ^ 31 by omega)), d2, nI_1]
        exact c
      · by_cases q : w = i
        · subst q
          exact ⟨fun c => absurd c hne, d7.imp (fun c => c.trans e.symm) id⟩
        · exact ⟨fun c => ⟨(d6 w q).1.trans c, (d6 w q).2⟩, Or.inl (d6 w q).1⟩
theorem upd_self (s : Nat → Int32) (i : Nat) : upd s i (s i) = s := by
  funext j
  by_cases h : j = i
  · subst h; rw [pk_us]
  · rw [pk_un h]
theorem comb (hm : aMon (nI n) = 1) : ∀ (j i f f' : Nat) (M N : zM), i + j = nb → j < f → j < f' → Sim t n nb nw M (N.1 1) →
    ∃ M' N', (∀ E, zL2 (bX7_combOut_2 t E) f M (nI i) = E M') ∧ (∀ E, zL2 (bX10_night_37 E) f' N (nI i) = E N') ∧ Sim t n nb nw M' (N'.1 1) ∧ FrT t M M' ∧ FrN N N' ∧ M'.1 (t + 7) = M.1 (t + 7) ∧ M'.1 (t + 5) = M.1 (t + 5) := by
  intro j
  induction j with
  | zero =>
    intro i f f' M N hi hf hf' h
    have hbl := h.nbl
    obtain ⟨f, rfl⟩ : ∃ g, f = g + 1 := ⟨f - 1, by omega⟩
    obtain ⟨f', rfl⟩ : ∃ g, f' = g + 1 := ⟨f' - 1, by omega⟩
    have : i = nb := by omega
    subst this
    refine ⟨M, N, fun E => ?_, fun E => ?_, h, FrT.rf, FrN.rf, rfl, rfl⟩
    · rw [zL2_e]; unfold bX7_combOut_2
      rw [h.1.b1, h.e1, if_pos (nI_le (Nat.le_refl _) (by omega))]
    · rw [zL2_e]; unfold bX10_night_37
      rw [h.e1, if_pos (nI_le (Nat.le_refl _) (by omega))]
  | succ j ih =>
    intro i f f' M N hi hf hf' h
    have hwl := h.nwl
    have hbl := h.nbl
    obtain ⟨f, rfl⟩ : ∃ g, f = g + 1 := ⟨f - 1, by omega⟩
    obtain ⟨f', rfl⟩ : ∃ g, f' = g + 1 := ⟨f' - 1, by omega⟩
    have hin : i < nb := by omega
    have hm1 : ¬ aMon (N.1 1 0) = 0 := by rw [h.e0, hm]; decide
    by_cases e : N.1 1 (15 + 4 * i + 3) = -1
    · obtain ⟨M', N', c1, c2, c3, c4, c5, c6, c7⟩ := ih (i + 1) f f' (zst M (t + 3) i 0) (zst N 1 (15 + 4 * i + 2) 0) (by omega) (by omega) (by omega) (by rw [zst_1]; exact h.hoard (by omega) (by decide))
      refine ⟨M', N', fun E => ?_, fun E => ?_, c3, (FrT.st (by omega) (by omega)).tr c4, FrN.st.tr c5, c6.trans ?_, c7.trans ?_⟩
      · have c := c1 E
        rw [zL2_e]
        generalize zL2 (bX7_combOut_2 t E) f = rc at c ⊢
        unfold bX7_combOut_2
        simp only [h.1.b1, h.e1, if_neg (nI_ge hin (show nb < 2 ^ 31 by omega)), ix8 (show i < 8 by omega), z_bs, zj_e, h.1.on (show i < 8 by omega), if_pos e, nI_1]
        exact c
      · have c := c2 E
        rw [zL2_e]
        generalize zL2 (bX10_night_37 E) f' = rc at c ⊢
        unfold bX10_night_37
        simp only [h.e1, if_neg (nI_ge hin (show nb < 2 ^ 31 by omega)), m_mon, z_bs, if_neg hm1, m_bs2, m_i3 (show i < 8 by omega), zj_e, if_pos e, ix59 (show 15 + 4 * i + 2 < 59 by omega), nI_1]
        exact c
      · funext v; rw [zr_7_3]
      · funext v; rw [zr_5_3]
    · obtain ⟨M', N', c1, c2, c3, c4, c5, c6, c7⟩ := ih (i + 1) f f' M (zst N 1 (15 + 4 * i + 2) (N.1 1 (15 + 4 * i + 2))) (by omega) (by omega) (by omega) (by rw [zst_1, upd_self]; exact h)
      refine ⟨M', N', fun E => ?_, fun E => ?_, c3, c4, FrN.st.tr c5, c6, c7⟩
      · have c := c1 E
        rw [zL2_e]
        generalize zL2 (bX7_combOut_2 t E) f = rc at c ⊢
        unfold bX7_combOut_2
        simp only [h.1.b1, h.e1, if_neg (nI_ge hin (show nb < 2 ^ 31 by omega)), ix8 (show i < 8 by omega), z_bs, zj_e, h.1.on (show i < 8 by omega), if_neg e, nI_1]
        exact c
      · have c := c2 E
        rw [zL2_e]
        generalize zL2 (bX10_night_37 E) f' = rc at c ⊢
        unfold bX10_night_37
        simp only [h.e1, if_neg (nI_ge hin (show nb < 2 ^ 31 by omega)), m_mon, z_bs, if_neg hm1, m_bs2, m_i3 (show i < 8 by omega), zj_e, if_neg e, m_i2 (show i < 8 by omega), ix59 (show 15 + 4 * i + 2 < 59 by omega), nI_1]
        exact c
theorem aMon01 (x : Int32) : aMon x = 0 ∨ aMon x = 1 := by
  unfold aMon
  by_cases h : zrem x 7 = 0
  · rw [if_pos h]; exact Or.inr rfl
  · rw [if_neg h]; exact Or.inl rfl
theorem night_sim (h : Sim t n nb nw M (N.1 1)) (hn : n < 2 ^ 30) : ∃ M' N', fX7_passNight M t = some M' ∧ fX10_night N = some N' ∧ Sim t (n + 1) nb nw M' (N'.1 1) ∧ FrT t M M' ∧ FrN N N' ∧ Kq t nw M M' := by
  have hwl := h.nwl
  have hbl := h.nbl
  obtain ⟨M1, N1, c1, c2, c3, c4, c5, c6⟩ := nightW hn nw 0 zFuel zFuel M N (by omega) (zF0 (by omega)) (zF0 (by omega)) h
  have hz : nI 0 = 0 := rfl
  rw [hz] at c1 c2
  rcases aMon01 (nI n) with hm | hm
  · refine ⟨zst M1 t 1 (nI (n + 1)), zst N1 1 0 (nI (n + 1)), ?_, ?_, ?_, c4.tr (FrT.st (by omega) (by omega)), c5.tr FrN.st, c6.tr (fun w hw => ⟨fun e => ⟨by rw [zr_7_0]; exact e, by rw [zr_5_0]⟩, Or.inl (by rw [zr_7_0])⟩)⟩
    · unfold fX7_passNight lX7_passNight_2
      rw [zj_e, c1, c_mon, z_bs, c3.1.n0, c3.e0, if_pos hm, z_bs, nI_1]
    · unfold fX10_night lX10_night_2 lX10_night_37
      rw [zj_e, c2, zj_e]
      rw [show zFuel = 999999 + 1 from rfl, zL2_e]
      unfold bX10_night_37
      by_cases q : N1.1 1 1 ≤ 0
      · simp only [if_pos q, z_bs, c3.e0, nI_1]
      · simp only [if_neg q, m_mon, z_bs, c3.e0, if_pos hm, nI_1]
    · rw [zst_1]; exact c3.night (n + 1)
  · obtain ⟨M2, N2, d1, d2, d3, d4, d5, d6, d7⟩ := comb hm nb 0 zFuel zFuel M1 N1 (by omega) (zF0 (by omega)) (zF0 (by omega)) c3
    rw [hz] at d1 d2
    refine ⟨zst M2 t 1 (nI (n + 1)), zst N2 1 0 (nI (n + 1)), ?_, ?_, ?_, (c4.tr d4).tr (FrT.st (by omega) (by omega)), (c5.tr d5).tr FrN.st, c6.tr (fun w hw => ⟨fun e => ⟨by rw [zr_7_0, d6]; exact e, by rw [zr_5_0, d7]⟩, Or.inl (by rw [zr_7_0, d6])⟩)⟩
    · unfold fX7_passNight lX7_passNight_2
      rw [zj_e, c1, c_mon, z_bs, c3.1.n0, c3.e0, if_neg (by rw [hm]; decide)]
      unfold fX7_combOut lX7_combOut_2
      rw [zj_e, d1, z_bs, z_bs, d3.1.n0, d3.e0, nI_1]
    · unfold fX10_night lX10_night_2 lX10_night_37
      rw [zj_e, c2, zj_e, d2, z_bs, d3.e0, nI_1]
    · rw [zst_1]; exact d3.night (n + 1)
theorem nights_sim : ∀ (k : Nat) (j i f f' : Nat) (n : Nat) (M N : zM), i + j = k → j < f → j < f' → k < 2 ^ 30 → n + j < 2 ^ 30 → Sim t n nb nw M (N.1 1) →
    ∃ M' N', (∀ E, zL2 (bX7_passNights_2 t (nI k) E) f M (nI i) = E M') ∧ (∀ E, zL2 (bX10_nightsGo_2 (nI k) E) f' N (nI i) = E N') ∧ Sim t (n + j) nb nw M' (N'.1 1) ∧ FrT t M M' ∧ FrN N N' ∧ Kq t nw M M' := by
  intro k j
  induction j with
  | zero =>
    intro i f f' n M N hi hf hf' hk hn h
    obtain ⟨f, rfl⟩ : ∃ g, f = g + 1 := ⟨f - 1, by omega⟩
    obtain ⟨f', rfl⟩ : ∃ g, f' = g + 1 := ⟨f' - 1, by omega⟩
    have : i = k := by omega
    subst this
    refine ⟨M, N, fun E => ?_, fun E => ?_, h, FrT.rf, FrN.rf, Kq.rf⟩
    · rw [zL2_e]; unfold bX7_passNights_2
      rw [if_pos (nI_le (Nat.le_refl _) (by omega))]
    · rw [zL2_e]; unfold bX10_nightsGo_2
      rw [if_pos (nI_le (Nat.le_refl _) (by omega))]
  | succ j ih =>
    intro i f f' n M N hi hf hf' hk hn h
    obtain ⟨f, rfl⟩ : ∃ g, f = g + 1 := ⟨f - 1, by omega⟩
    obtain ⟨f', rfl⟩ : ∃ g, f' = g + 1 := ⟨f' - 1, by omega⟩
    obtain ⟨M1, N1, d1, d2, d3, d4, d5, d6⟩ := night_sim h (by omega)
    obtain ⟨M', N', c1, c2, c3, c4, c5, c6⟩ := ih (i + 1) f f' (n + 1) M1 N1 (by omega) (by omega) (by omega) hk (by omega) d3
    refine ⟨M', N', fun E => ?_, fun E => ?_, ?_, d4.tr c4, d5.tr c5, d6.tr c6⟩
    · have c := c1 E
      rw [zL2_e]
      generalize zL2 (bX7_passNights_2 t (nI k) E) f = rc at c ⊢
      unfold bX7_passNights_2
      simp only [if_neg (nI_ge (show i < k by omega) (show k < 2 ^ 31 by omega)), d1, z_bs, nI_1]
      exact c
    · have c := c2 E
      rw [zL2_e]
      generalize zL2 (bX10_nightsGo_2 (nI k) E) f' = rc at c ⊢
      unfold bX10_nightsGo_2
      simp only [if_neg (nI_ge (show i < k by omega) (show k < 2 ^ 31 by omega)), d2, z_bs, nI_1]
      exact c
    · rw [show n + (j + 1) = n + 1 + j by omega]; exact c3
theorem nightsG (k : Nat) (h : Sim t n nb nw M (N.1 1)) (hk : k < 1000) (hn : n < 2 ^ 29) : ∃ M' N', fX7_passNights M t (nI k) = some M' ∧ fX10_nightsGo N (nI k) = some N' ∧ Sim t (n + k) nb nw M' (N'.1 1) ∧ FrT t M M' ∧ FrN N N' ∧ Kq t nw M M' := by
  obtain ⟨M', N', c1, c2, c3⟩ := nights_sim k k 0 zFuel zFuel n M N (by omega) (zF0 (by omega)) (zF0 (by omega)) (by omega) (by omega) h
  have hz : nI 0 = 0 := rfl
  rw [hz] at c1 c2
  refine ⟨M', N', ?_, ?_, c3⟩
  · unfold fX7_passNights lX7_passNights_2; rw [zj_e, c1]
  · unfold fX10_nightsGo lX10_nightsGo_2; rw [zj_e, c2]
end SE
