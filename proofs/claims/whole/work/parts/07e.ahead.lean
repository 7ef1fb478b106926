/-! calls that look ahead -/
section TE
variable {M N : zM} {t n nb nw k : Nat}
theorem m_behind {N' : zM} (e : fX10_nightsGo (cpN N 1 4 59) (nI k) = some N') {p : Nat} (hp : p < 59) : fX10_behind N (nI p) (nI k) = some (N'.1 1 p, cpN N' 4 1 59) := by
  unfold fX10_behind
  simp only [m_laysAside, z_bs, e, ix59 hp, m_takesBack, zb2_s]
theorem m_wornBehind {N' M' : zM} (e : fX10_nightsGo (cpN N 1 4 59) (nI k) = some N') (hS : Sim t n nb nw M' (N'.1 1)) {w : Nat} (hw : w < nw) : fX10_wornBehind N (nI w) (nI k) = some (M'.1 (t + 7) w, cpN N' 4 1 59) := by
  unfold fX10_wornBehind
  simp only [m_laysAside, z_bs, e, m_worn hS hw, m_takesBack, zb2_s]
theorem m_pursesBehind {N' M' : zM} (e : fX10_nightsGo (cpN N 1 4 59) (nI k) = some N') (hS : Sim t n nb nw M' (N'.1 1)) : fX10_pursesBehind N (nI k) = some (aSum (fun w => N'.1 1 (47 + 2 * w)) nw, cpN N' 4 1 59) := by
  unfold fX10_pursesBehind
  simp only [m_laysAside, z_bs, e, m_purses hS, m_takesBack, zb2_s]
theorem s_on (h : Rel M N) (a b d : Int32) : Okk (fX9_on M a b d) (fX10_on N a b d) := by
  obtain ⟨n, nb, nw, hn, hS⟩ := h.1
  have hwl := hS.nwl
  unfold fX9_on fX10_on
  rcases g_wearer hS a with ⟨w, hw, rfl, e1, e2⟩ | ⟨e1, e2⟩
  · have w6 : w < 6 := by omega
    rcases g_ahead b with ⟨k, hk, rfl, e3, e4⟩ | ⟨e3, e4⟩
    · rcases g_upto d (lo := 0) (hi := 1) (lo' := 0) (hi' := 1) (l := 0) (m := 1) (by decide) (by decide) (by decide) (by decide) with ⟨j, h1, h2, rfl, e5, e6⟩ | ⟨e5, e6⟩
      · obtain ⟨M1, m1, m2, m3⟩ := become_sim (t := 11) (t2 := 1) (by omega) hS
        obtain ⟨M', N', M2, c1, c2, c3, c4, c5, c6, c7, c8, c9⟩ := aheadW (N := N) k m2 (by omega) (by omega) hw
        simp only [e1, e2, e3, e4, e5, e6, z_bs, o1, m1, c1]
        rcases (show j = 0 ∨ j = 1 by omega) with rfl | rfl
        · rw [if_pos (show nI 0 = 0 from rfl), if_pos (show nI 0 = 0 from rfl), ix6 w6, z_bs, m_ws0, z_bs, m_behind c2 (by omega), zb2_s]
          exact Okk.st ((show M2.1 16 w = _ from c8).trans (c3.1.purse w6)) (h.mvT (m3.tr c7) c5)
        · rw [if_neg (show ¬ nI 1 = 0 by decide), if_neg (show ¬ nI 1 = 0 by decide), ix6 w6, z_bs, m_wornBehind c2 c3 hw, zb2_s]
          exact Okk.st c9 (h.mvT (m3.tr c7) c5)
      · simp only [e1, e2, e3, e4, e5, e6, z_bs, o1, o0]; exact fd0 h
    · simp only [e1, e2, e3, e4, z_bs, o1, o0]; exact fd0 h
  · simp only [e1, e2, z_bs, o0]; exact fd0 h
theorem s_then (h : Rel M N) (a b d : Int32) : Okk (fX9_then M a b d) (fX10_then N a b d) := by
  obtain ⟨n, nb, nw, hn, hS⟩ := h.1
  have hbl := hS.nbl
  unfold fX9_then fX10_then
  rcases g_beard hS a with ⟨x, hx, rfl, e1, e2⟩ | ⟨e1, e2⟩
  · have x8 : x < 8 := by omega
    rcases g_ahead b with ⟨k, hk, rfl, e3, e4⟩ | ⟨e3, e4⟩
    · rcases g_upto d (lo := 0) (hi := 1) (lo' := 0) (hi' := 1) (l := 0) (m := 1) (by decide) (by decide) (by decide) (by decide) with ⟨j, h1, h2, rfl, e5, e6⟩ | ⟨e5, e6⟩
      · obtain ⟨M1, m1, m2, m3⟩ := become_sim (t := 11) (t2 := 1) (by omega) hS
        obtain ⟨M', N', c1, c2, c3, c4, c5, c6⟩ := ahead (N := N) k m2 (by omega) (by omega)
        simp only [e1, e2, e3, e4, e5, e6, z_bs, o1, m1, c1]
        rcases (show j = 0 ∨ j = 1 by omega) with rfl | rfl
        · rw [if_pos (show nI 0 = 0 from rfl), if_pos (show nI 0 = 0 from rfl), ix8 x8, z_bs, m_bs1, z_bs, m_behind c2 (by omega), zb2_s]
          exact Okk.st (c3.1.fame x8) (h.mvT (m3.tr c4) c5)
        · rw [if_neg (show ¬ nI 1 = 0 by decide), if_neg (show ¬ nI 1 = 0 by decide), ix8 x8, z_bs, m_bs2, z_bs, m_behind c2 (by omega), zb2_s]
          exact Okk.st (c3.1.hoard x8) (h.mvT (m3.tr c4) c5)
      · simp only [e1, e2, e3, e4, e5, e6, z_bs, o1, o0]; exact fd0 h
    · simp only [e1, e2, e3, e4, z_bs, o1, o0]; exact fd0 h
  · simp only [e1, e2, z_bs, o0]; exact fd0 h
theorem s_fond (h : Rel M N) (a b : Int32) : Okk (fX9_fond M a b) (fX10_fond N a b) := by
  obtain ⟨n, nb, nw, hn, hS⟩ := h.1
  unfold fX9_fond fX10_fond
  rcases g_house a with ⟨x, hx, rfl, e1, e2⟩ | ⟨e1, e2⟩
  · rcases g_ahead b with ⟨k, hk, rfl, e3, e4⟩ | ⟨e3, e4⟩
    · obtain ⟨M1, m1, m2, m3⟩ := become_sim (t := 11) (t2 := 1) (by omega) hS
      obtain ⟨M', N', c1, c2, c3, c4, c5, c6⟩ := ahead (N := N) k m2 (by omega) (by omega)
      simp only [e1, e2, e3, e4, z_bs, o1, m1, c1, ix6 hx, m_hs1, m_behind c2 (show 3 + 2 * x + 1 < 59 by omega), zb2_s]
      exact Okk.st (c3.1.mood hx) (h.mvT (m3.tr c4) c5)
    · simp only [e1, e2, e3, e4, z_bs, o1, o0]; exact fd0 h
  · simp only [e1, e2, z_bs, o0]; exact fd0 h
/-- first of 0, 1 .. nights: home -/
theorem homeL {b : Nat} (hb : b < nb) {E : zM → Option (Int32 × zM)} {E' : zM → Int32 → Option (Int32 × zM)} : ∀ (j i f f' : Nat) (M N : zM), i + j = 201 → j < f → j < f' → n < 2 ^ 28 → Sim 11 (n + i) nb nw M (N.1 1) →
    ∃ M' N', FrT 11 M M' ∧ FrN N N' ∧ ((∃ q, q ≤ 200 ∧ zL2 (bX9_home_27 (nI b) E) f M (nI i) = some (nI q, M') ∧ zL2 (bX10_firstDown_6 (nI (15 + 4 * b + 3)) (-1) E') f' N (nI i) = E' N' (nI q)) ∨ (zL2 (bX9_home_27 (nI b) E) f M (nI i) = E M' ∧ zL2 (bX10_firstDown_6 (nI (15 + 4 * b + 3)) (-1) E') f' N (nI i) = E' N' (nI 201))) := by
  intro j
  induction j with
  | zero =>
    intro i f f' M N hi hf hf' hn h
    obtain ⟨f, rfl⟩ : ∃ g, f = g + 1 := ⟨f - 1, by omega⟩
    obtain ⟨f', rfl⟩ : ∃ g, f' = g + 1 := ⟨f' - 1, by omega⟩
    have : i = 201 := by omega
    subst this
    refine ⟨M, N, FrT.rf, FrN.rf, Or.inr ⟨?_, ?_⟩⟩
    · rw [zL2_e]; unfold bX9_home_27; rw [if_pos (show (200 : Int32) < nI 201 by decide)]
    · rw [zL2_e]; unfold bX10_firstDown_6; rw [if_pos (show (200 : Int32) < nI 201 by decide)]
  | succ j ih =>
    intro i f f' M N hi hf hf' hn h
    have hwl := h.nwl
    have hbl := h.nbl
    have b8 : b < 8 := by omega
    obtain ⟨f, rfl⟩ : ∃ g, f = g + 1 := ⟨f - 1, by omega⟩
    obtain ⟨f', rfl⟩ : ∃ g, f' = g + 1 := ⟨f' - 1, by omega⟩
    have hlt : ¬ (200 : Int32) < nI i := nI_nlt (a := 200) (b := i) (by omega) (by decide)
    have on : M.1 15 b = N.1 1 (15 + 4 * b + 3) := h.1.on b8
    rcases (h.B hb).2.2 with q | ⟨w, hw, q, q2⟩
    · refine ⟨M, N, FrT.rf, FrN.rf, Or.inl ⟨i, by omega, ?_, ?_⟩⟩
      · rw [zL2_e]; unfold bX9_home_27
        simp only [if_neg hlt, ix8 b8, z_bs, on, if_pos q]
      · rw [zL2_e]; unfold bX10_firstDown_6
        simp only [if_neg hlt, ix59 (show 15 + 4 * b + 3 < 59 by omega), z_bs, q, if_pos (show (-1 : Int32) ≤ -1 by decide)]
    · have hne : ¬ N.1 1 (15 + 4 * b + 3) = -1 := by rw [q]; exact nI_m1 w (by omega)
      have hnl : ¬ N.1 1 (15 + 4 * b + 3) ≤ -1 := by
        rw [q, i_le, nI_toInt (by omega), show (-1 : Int32).toInt = -1 from rfl]; omega
      obtain ⟨M1, N1, d1, d2, d3, d4, d5, d6⟩ := night_sim h (by omega)
      obtain ⟨M', N', c1, c2, c3⟩ := ih (i + 1) f f' M1 N1 (by omega) (by omega) (by omega) (by omega) (by rw [show n + (i + 1) = n + i + 1 by omega]; exact d3)
      have f1 : zL2 (bX9_home_27 (nI b) E) (f + 1) M (nI i) = zL2 (bX9_home_27 (nI b) E) f M1 (nI (i + 1)) := by
        rw [zL2_e]
        generalize zL2 (bX9_home_27 (nI b) E) f = rc
        unfold bX9_home_27
        simp only [if_neg hlt, ix8 b8, z_bs, on, if_neg hne, d1, nI_1]
      have f2 : zL2 (bX10_firstDown_6 (nI (15 + 4 * b + 3)) (-1) E') (f' + 1) N (nI i) = zL2 (bX10_firstDown_6 (nI (15 + 4 * b + 3)) (-1) E') f' N1 (nI (i + 1)) := by
        rw [zL2_e]
        generalize zL2 (bX10_firstDown_6 (nI (15 + 4 * b + 3)) (-1) E') f' = rc
        unfold bX10_firstDown_6
        simp only [if_neg hlt, ix59 (show 15 + 4 * b + 3 < 59 by omega), z_bs, if_neg hnl, d2, nI_1]
      refine ⟨M', N', d4.tr c1, d5.tr c2, ?_⟩
      rw [f1, f2]
      exact c3
theorem fallsL {w : Nat} (hw : w < nw) {v : Int32} {E : zM → Option (Int32 × zM)} {E' : zM → Int32 → Option (Int32 × zM)} : ∀ (j i f f' : Nat) (M N : zM), i + j = 201 → j < f → j < f' → n < 2 ^ 28 → Sim 11 (n + i) nb nw M (N.1 1) →
    ∃ M' N', FrT 11 M M' ∧ FrN N N' ∧ ((∃ q, q ≤ 200 ∧ zL2 (bX9_falls_38 (nI w) v E) f M (nI i) = some (nI q, M') ∧ zL2 (bX10_firstDown_6 (nI (47 + 2 * w)) v E') f' N (nI i) = E' N' (nI q)) ∨ (zL2 (bX9_falls_38 (nI w) v E) f M (nI i) = E M' ∧ zL2 (bX10_firstDown_6 (nI (47 + 2 * w)) v E') f' N (nI i) = E' N' (nI 201))) := by
  intro j
  induction j with
  | zero =>
    intro i f f' M N hi hf hf' hn h
    obtain ⟨f, rfl⟩ : ∃ g, f = g + 1 := ⟨f - 1, by omega⟩
    obtain ⟨f', rfl⟩ : ∃ g, f' = g + 1 := ⟨f' - 1, by omega⟩
    have : i = 201 := by omega
    subst this
    refine ⟨M, N, FrT.rf, FrN.rf, Or.inr ⟨?_, ?_⟩⟩
    · rw [zL2_e]; unfold bX9_falls_38; rw [if_pos (show (200 : Int32) < nI 201 by decide)]
    · rw [zL2_e]; unfold bX10_firstDown_6; rw [if_pos (show (200 : Int32) < nI 201 by decide)]
  | succ j ih =>
    intro i f f' M N hi hf hf' hn h
    have hwl := h.nwl
    have w6 : w < 6 := by omega
    obtain ⟨f, rfl⟩ : ∃ g, f = g + 1 := ⟨f - 1, by omega⟩
    obtain ⟨f', rfl⟩ : ∃ g, f' = g + 1 := ⟨f' - 1, by omega⟩
    have hlt : ¬ (200 : Int32) < nI i := nI_nlt (a := 200) (b := i) (by omega) (by decide)
    have pu : M.1 16 w = N.1 1 (47 + 2 * w) := h.1.purse w6
    by_cases q : N.1 1 (47 + 2 * w) ≤ v
    · have q' : ¬ v < N.1 1 (47 + 2 * w) := by rw [i_lt]; rw [i_le] at q; omega
      refine ⟨M, N, FrT.rf, FrN.rf, Or.inl ⟨i, by omega, ?_, ?_⟩⟩
      · rw [zL2_e]; unfold bX9_falls_38
        simp only [if_neg hlt, ix6 w6, z_bs, pu, if_neg q']
      · rw [zL2_e]; unfold bX10_firstDown_6
        simp only [if_neg hlt, ix59 (show 47 + 2 * w < 59 by omega), z_bs, if_pos q]
    · have q' : v < N.1 1 (47 + 2 * w) := by rw [i_lt]; rw [i_le] at q; omega
      obtain ⟨M1, N1, d1, d2, d3, d4, d5, d6⟩ := night_sim h (by omega)
      obtain ⟨M', N', c1, c2, c3⟩ := ih (i + 1) f f' M1 N1 (by omega) (by omega) (by omega) (by omega) (by rw [show n + (i + 1) = n + i + 1 by omega]; exact d3)
      have f1 : zL2 (bX9_falls_38 (nI w) v E) (f + 1) M (nI i) = zL2 (bX9_falls_38 (nI w) v E) f M1 (nI (i + 1)) := by
        rw [zL2_e]
        generalize zL2 (bX9_falls_38 (nI w) v E) f = rc
        unfold bX9_falls_38
        simp only [if_neg hlt, ix6 w6, z_bs, pu, if_pos q', d1, nI_1]
      have f2 : zL2 (bX10_firstDown_6 (nI (47 + 2 * w)) v E') (f' + 1) N (nI i) = zL2 (bX10_firstDown_6 (nI (47 + 2 * w)) v E') f' N1 (nI (i + 1)) := by
        rw [zL2_e]
        generalize zL2 (bX10_firstDown_6 (nI (47 + 2 * w)) v E') f' = rc
        unfold bX10_firstDown_6
        simp only [if_neg hlt, ix59 (show 47 + 2 * w < 59 by omega), z_bs, if_neg q, d2, nI_1]
      refine ⟨M', N', d4.tr c1, d5.tr c2, ?_⟩
      rw [f1, f2]
      exact c3
theorem FrA.of {N' : zM} (h : FrN (cpN N 1 4 59) N') : FrA N (cpN N' 4 1 59) := by
  refine ⟨fun j hj => ?_, fun x h1 h4 => ?_, ?_⟩
  · rw [cpN_at hj, h.1 4 (by decide), cpN_at hj]
  · rw [cpN_ne h1, h.1 x h1, cpN_ne h4]
  · rw [cpN_2, h.2, cpN_2]
theorem s_home (h : Rel M N) (a : Int32) : Okk (fX9_home M a) (fX10_home N a) := by
  obtain ⟨n, nb, nw, hn, hS⟩ := h.1
  unfold fX9_home fX10_home
  rcases g_beard hS a with ⟨b, hb, rfl, e1, e2⟩ | ⟨e1, e2⟩
  · obtain ⟨M1, m1, m2, m3⟩ := become_sim (t := 11) (t2 := 1) (by omega) hS
    unfold fX10_firstDown lX9_home_27 lX10_firstDown_6
    simp only [e1, e2, z_bs, o1, m1, m_bs3, m_laysAside, zj_e]
    have h2 : Sim 11 (n + 0) nb nw M1 ((cpN N 1 4 59).1 1) := by rw [cpN_ne (by decide)]; exact m2
    obtain ⟨M', N', c1, c2, ⟨q, hq, c3, c4⟩ | ⟨c3, c4⟩⟩ := homeL (E := fun M4 => zb2 (fX9_finding M4 3) fun x6 M7 => some (x6, M7)) (E' := fun M2 x3 => zb2 (fX10_takesBack M2 x3) fun x5 M6 => if x5 ≤ (200 : Int32) then (some (x5, M6)) else (zb2 (fX10_finds M6 (-1000000004 : Int32)) fun x8 M9 => some (x8, M9))) hb 201 0 zFuel zFuel M1 (cpN N 1 4 59) (by omega) (zF0 (by omega)) (zF0 (by omega)) (by omega) h2
    · rw [show (0 : Int32) = nI 0 from rfl, c3, c4, m_takesBack, zb2_s, if_pos (show nI q ≤ 200 from nI_le hq (by decide)), zb2_s]
      exact Okk.st rfl (h.mvT (m3.tr c1) (FrA.of c2))
    · rw [show (0 : Int32) = nI 0 from rfl, c3, c4, m_takesBack, zb2_s, if_neg (show ¬ nI 201 ≤ 200 by decide)]
      obtain ⟨r, M2, N2, x1, x2, x3⟩ := fd3 (h.mvT (m3.tr c1) (FrA.of c2))
      rw [x2, zb2_s]
      exact ⟨r, M2, N2, x1, rfl, x3⟩
  · simp only [e1, e2, z_bs, o0]; exact fd0 h
theorem s_falls (h : Rel M N) (a b : Int32) : Okk (fX9_falls M a b) (fX10_falls N a b) := by
  obtain ⟨n, nb, nw, hn, hS⟩ := h.1
  unfold fX9_falls fX10_falls
  rcases g_wearer hS a with ⟨w, hw, rfl, e1, e2⟩ | ⟨e1, e2⟩
  · rcases g_in b (lo := 0) (hi := 9999) (lo' := 0) (hi' := 9999) (by decide) (by decide) with ⟨_, _, e3, e4⟩ | ⟨_, e3, e4⟩
    · obtain ⟨M1, m1, m2, m3⟩ := become_sim (t := 11) (t2 := 1) (by omega) hS
      unfold fX10_firstDown lX9_falls_38 lX10_firstDown_6
      simp only [e1, e2, e3, e4, z_bs, o1, m1, m_ws0, m_laysAside, zj_e]
      have h2 : Sim 11 (n + 0) nb nw M1 ((cpN N 1 4 59).1 1) := by rw [cpN_ne (by decide)]; exact m2
      obtain ⟨M', N', c1, c2, ⟨q, hq, c3, c4⟩ | ⟨c3, c4⟩⟩ := fallsL (v := b) (E := fun M4 => zb2 (fX9_finding M4 3) fun x6 M7 => some (x6, M7)) (E' := fun M2 x3 => zb2 (fX10_takesBack M2 x3) fun x5 M6 => if x5 ≤ (200 : Int32) then (some (x5, M6)) else (zb2 (fX10_finds M6 (-1000000004 : Int32)) fun x8 M9 => some (x8, M9))) hw 201 0 zFuel zFuel M1 (cpN N 1 4 59) (by omega) (zF0 (by omega)) (zF0 (by omega)) (by omega) h2
      · rw [show (0 : Int32) = nI 0 from rfl, c3, c4, m_takesBack, zb2_s, if_pos (show nI q ≤ 200 from nI_le hq (by decide)), zb2_s]
        exact Okk.st rfl (h.mvT (m3.tr c1) (FrA.of c2))
      · rw [show (0 : Int32) = nI 0 from rfl, c3, c4, m_takesBack, zb2_s, if_neg (show ¬ nI 201 ≤ 200 by decide)]
        obtain ⟨r, M2, N2, x1, x2, x3⟩ := fd3 (h.mvT (m3.tr c1) (FrA.of c2))
        rw [x2, zb2_s]
        exact ⟨r, M2, N2, x1, rfl, x3⟩
    · simp only [e1, e2, e3, e4, z_bs, o1, o0]; exact fd0 h
  · simp only [e1, e2, z_bs, o0]; exact fd0 h
end TE
