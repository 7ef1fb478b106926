/-! enough, please, richest -/
theorem zj_n {α R : Type} {J : α} {K : α → Option R} : zj J K = K J := id rfl
theorem z_bn {α β : Type} {a : α} {f : α → Option β} : (some a).bind f = f a := id rfl
theorem zb2_n {α β γ : Type} {a : α} {b : β} {f : α → β → Option γ} : zb2 (some (a, b)) f = f a b := id rfl
section TG
variable {M N : zM} {n nb nw k : Nat}
theorem enoughL {w b0 : Nat} (hw : w < nw) (hb0 : b0 < nb) (hS : Sim 1 n nb nw M (N.1 1)) (hn : n ≤ 99999) (hk : k ≤ 60) (h0 : M.1 8 w = nI b0) {E : zM → Option (Int32 × zM)} {E' : zM → Int32 → Option (Int32 × zM)} : ∀ (j i f f' : Nat) (M1 N1 : zM), i + j = 201 → j + 1 < f → j + 1 < f' → FrT 11 M M1 → FrP (47 + 2 * w) N N1 →
    ∃ M' N', FrT 11 M M' ∧ FrP (47 + 2 * w) N N' ∧ ((∃ q, q ≤ 200 ∧ zL2 (bX9_enough_45 (nI w) (nI k) E) f M1 (nI (10 * i)) = some (nI (10 * q), M') ∧ zL3 (bX10_enough_62 (nI w) (nI k) (nI b0) (nI (47 + 2 * w)) E') f' N1 (-1) (nI (10 * i)) = E' N' (nI (10 * q))) ∨ (zL2 (bX9_enough_45 (nI w) (nI k) E) f M1 (nI (10 * i)) = E M' ∧ zL3 (bX10_enough_62 (nI w) (nI k) (nI b0) (nI (47 + 2 * w)) E') f' N1 (-1) (nI (10 * i)) = E' N' (-1))) := by
  have hwl := hS.nwl
  have hbl := hS.nbl
  have w6 : w < 6 := by omega
  intro j
  induction j with
  | zero =>
    intro i f f' M1 N1 hi hf hf' fM fN
    obtain ⟨f, rfl⟩ : ∃ g, f = g + 1 := ⟨f - 1, by omega⟩
    obtain ⟨f', rfl⟩ : ∃ g, f' = g + 1 := ⟨f' - 1, by omega⟩
    have : i = 201 := by omega
    subst this
    refine ⟨M1, N1, fM, fN, Or.inr ⟨?_, ?_⟩⟩
    · rw [zL2_e]; unfold bX9_enough_45; rw [if_pos (show (2000 : Int32) < nI (10 * 201) by decide)]
    · rw [zL3_e]; unfold bX10_enough_62; rw [if_pos (show (2000 : Int32) < nI (10 * 201) by decide)]
  | succ j ih =>
    intro i f f' M1 N1 hi hf hf' fM fN
    obtain ⟨f, rfl⟩ : ∃ g, f = g + 1 := ⟨f - 1, by omega⟩
    obtain ⟨f', rfl⟩ : ∃ g, f' = g + 1 + 1 := ⟨f' - 2, by omega⟩
    have hS1 := hS.live fM
    obtain ⟨M2, m1, m2, m3⟩ := become_sim (t := 11) (t2 := 1) (by omega) hS1
    have m4 := m2.purse w6 (nI (10 * i))
    have m5 : Sim 11 n nb nw (zst M2 (11 + 5) w (nI (10 * i))) ((zst N1 1 (47 + 2 * w) (nI (10 * i))).1 1) := m4.congr (fN.upd _)
    obtain ⟨M', N', M3, c1, c2, c3, c4, c5, c6, c7, c8, c9⟩ := aheadW (N := zst N1 1 (47 + 2 * w) (nI (10 * i))) k m5 (by omega) (by omega) hw
    have hwr : (zst M2 (11 + 5) w (nI (10 * i))).1 (11 + 7) w = nI b0 := by
      rw [zr_7_5, wears11 hS1 m2 hw, show (1 + 7 : Nat) = 8 from rfl, fM.1 8 (by omega)]; exact h0
    have hv : M3.1 18 w = M'.1 (11 + 7) w := c9
    have hKq := (c6 w hw).2
    rw [hwr] at hKq
    have fM3 : FrT 11 M M3 := ((fM.tr m3).tr (FrT.st (by omega) (by omega))).tr c7
    have fN3 : FrP (47 + 2 * w) N (cpN N' 4 1 59) := (fN.st _).A c5
    have mb := m_wornBehind c2 c3 hw
    have hl1 : ¬ (2000 : Int32) < nI (10 * i) := nI_nlt (a := 2000) (b := 10 * i) (by omega) (by decide)
    have hneg : ¬ (0 : Int32) ≤ -1 := by decide
    have hstep : nI (10 * i) + 10 = nI (10 * (i + 1)) := by
      rw [show (10 : Int32) = nI 10 from rfl, nI_add]; congr 1
    rcases hKq with hq | hq
    · refine ⟨M3, cpN N' 4 1 59, fM3, fN3, Or.inl ⟨i, by omega, ?_, ?_⟩⟩
      · rw [zL2_e]; unfold bX9_enough_45
        simp only [if_neg hl1, z_bs, m1, ix6 w6, c1, hv, hq, if_neg (nI_m1 b0 (show b0 < 2 ^ 31 by omega))]
      · rw [zL3_e]
        have e2 : zL3 (bX10_enough_62 (nI w) (nI k) (nI b0) (nI (47 + 2 * w)) E') (f' + 1) (cpN N' 4 1 59) (nI (10 * i)) (nI (10 * (i + 1))) = E' (cpN N' 4 1 59) (nI (10 * i)) := by
          rw [zL3_e]; unfold bX10_enough_62
          by_cases z : (2000 : Int32) < nI (10 * (i + 1))
          · rw [if_pos z]
          · rw [if_neg z, if_pos (nI_pos' (by omega))]
        rw [← e2]
        generalize zL3 (bX10_enough_62 (nI w) (nI k) (nI b0) (nI (47 + 2 * w)) E') (f' + 1) = rc
        unfold bX10_enough_62
        simp only [if_neg hl1, if_neg hneg, ix59 (show 47 + 2 * w < 59 by omega), z_bs, zj_e, mb, zb2_s, hq, hstep, if_true]
    · obtain ⟨Ma, Na, a1, a2, a3⟩ := ih (i + 1) f (f' + 1) M3 (cpN N' 4 1 59) (by omega) (by omega) (by omega) fM3 fN3
      refine ⟨Ma, Na, a1, a2, ?_⟩
      have f1 : zL2 (bX9_enough_45 (nI w) (nI k) E) (f + 1) M1 (nI (10 * i)) = zL2 (bX9_enough_45 (nI w) (nI k) E) f M3 (nI (10 * (i + 1))) := by
        rw [zL2_e]
        generalize zL2 (bX9_enough_45 (nI w) (nI k) E) f = rc
        unfold bX9_enough_45
        simp only [if_neg hl1, z_bs, m1, ix6 w6, c1, hv, hq, hstep, if_true]
      have f2 : zL3 (bX10_enough_62 (nI w) (nI k) (nI b0) (nI (47 + 2 * w)) E') (f' + 1 + 1) N1 (-1) (nI (10 * i)) = zL3 (bX10_enough_62 (nI w) (nI k) (nI b0) (nI (47 + 2 * w)) E') (f' + 1) (cpN N' 4 1 59) (-1) (nI (10 * (i + 1))) := by
        rw [zL3_e]
        generalize zL3 (bX10_enough_62 (nI w) (nI k) (nI b0) (nI (47 + 2 * w)) E') (f' + 1) = rc
        unfold bX10_enough_62
        simp only [if_neg hl1, if_neg hneg, ix59 (show 47 + 2 * w < 59 by omega), z_bs, zj_e, mb, zb2_s, hq, hstep, if_neg (show ¬ (-1 : Int32) = nI b0 from fun z => nI_m1 b0 (by omega) z.symm)]
      rw [f1, f2]
      exact a3
theorem s_enough (h : Rel M N) (a b : Int32) : Okk (fX9_enough M a b) (fX10_enough N a b) := by
  obtain ⟨n, nb, nw, hn, hS⟩ := h.1
  have hwl := hS.nwl
  have hbl := hS.nbl
  unfold fX9_enough fX10_enough
  rcases g_wearer hS a with ⟨w, hw, rfl, e1, e2⟩ | ⟨e1, e2⟩
  · have w6 : w < 6 := by omega
    rcases g_soon b with ⟨k, k1, k2, rfl, e3, e4⟩ | ⟨e3, e4⟩
    · have ew : fX10_wornBy N (nI w) = some (M.1 8 w) := m_worn hS hw
      rcases (hS.W hw).2 with q | ⟨b0, hb0, q, q2⟩
      · have q' : M.1 8 w = -1 := q
        simp only [e1, e2, e3, e4, z_bn, o1, ix6 w6, ew, if_pos q']; exact fd4 h
      · have q' : M.1 8 w = nI b0 := q
        have hne : ¬ nI b0 = -1 := nI_m1 b0 (by omega)
        obtain ⟨M', N', c1, c2, c3⟩ := enoughL hw hb0 hS hn k2 q' (E := fun M9 => zb2 (fX9_finding M9 (3 : Int32)) fun x11 M12 => some (x11, M12)) (E' := fun M12 x13 => if (0 : Int32) ≤ x13 then (some (x13, zst M12 1 (47 + 2 * w) (N.1 1 (47 + 2 * w)))) else (zb2 (fX10_finds (zst M12 1 (47 + 2 * w) (N.1 1 (47 + 2 * w))) (-1000000004 : Int32)) fun x18 M19 => some (x18, M19))) 201 0 zFuel zFuel M N (by omega) (zF0 (by omega)) (zF0 (by omega)) FrT.rf FrP.rf
        rcases c3 with ⟨q3, hq3, c4, c5⟩ | ⟨c4, c5⟩
        · have e5 : lX9_enough_45 (nI w) (nI k) (fun M9 => zb2 (fX9_finding M9 (3 : Int32)) fun x11 M12 => some (x11, M12)) zFuel M 0 = some (nI (10 * q3), M') := c4
          have e6 : lX10_enough_62 (nI w) (nI k) (nI b0) (nI (47 + 2 * w)) (fun M12 x13 => if (0 : Int32) ≤ x13 then (some (x13, zst M12 1 (47 + 2 * w) (N.1 1 (47 + 2 * w)))) else (zb2 (fX10_finds (zst M12 1 (47 + 2 * w) (N.1 1 (47 + 2 * w))) (-1000000004 : Int32)) fun x18 M19 => some (x18, M19))) zFuel N (-1) 0 = some (nI (10 * q3), zst N' 1 (47 + 2 * w) (N.1 1 (47 + 2 * w))) := c5.trans (if_pos (nI_pos' (by omega)))
          simp only [e1, e2, e3, e4, z_bn, o1, ix6 w6, ew, q', if_neg hne, m_ws0, ix59 (show 47 + 2 * w < 59 by omega), zj_n, e5, e6]
          exact Okk.st rfl (h.mvT c1 (c2.back rfl))
        · have e5 : lX9_enough_45 (nI w) (nI k) (fun M9 => zb2 (fX9_finding M9 (3 : Int32)) fun x11 M12 => some (x11, M12)) zFuel M 0 = zb2 (fX9_finding M' (3 : Int32)) fun x11 M12 => some (x11, M12) := c4
          have e6 : lX10_enough_62 (nI w) (nI k) (nI b0) (nI (47 + 2 * w)) (fun M12 x13 => if (0 : Int32) ≤ x13 then (some (x13, zst M12 1 (47 + 2 * w) (N.1 1 (47 + 2 * w)))) else (zb2 (fX10_finds (zst M12 1 (47 + 2 * w) (N.1 1 (47 + 2 * w))) (-1000000004 : Int32)) fun x18 M19 => some (x18, M19))) zFuel N (-1) 0 = zb2 (fX10_finds (zst N' 1 (47 + 2 * w) (N.1 1 (47 + 2 * w))) (-1000000004 : Int32)) fun x18 M19 => some (x18, M19) := c5.trans (if_neg (by decide))
          simp only [e1, e2, e3, e4, z_bn, o1, ix6 w6, ew, q', if_neg hne, m_ws0, ix59 (show 47 + 2 * w < 59 by omega), zj_n, e5, e6]
          exact fd3 (h.mvT c1 (c2.back rfl))
    · simp only [e1, e2, e3, e4, z_bn, o1, o0]; exact fd0 h
  · simp only [e1, e2, z_bn, o0]; exact fd0 h
def px (i : Nat) : Int32 := nI i - 50
theorem px_int {i : Nat} (h : i < 2 ^ 30) : (px i).toInt = (i : Int) - 50 := pk_sub_toInt (b := 50) h (by decide)
theorem px_1 {i : Nat} (h : i < 1000) : px i + 1 = px (i + 1) := by
  apply Int32.toInt_inj.mp
  rw [px_int (by omega), Int32.toInt_add, px_int (by omega)]
  have : (1 : Int32).toInt = 1 := rfl
  rw [this]
  have e : ((i : Int) - 50 + 1) = ((i + 1 : Nat) : Int) - 50 := by omega
  rw [e]
  rw [Int.bmod_def]
  split <;> omega
theorem pleaseL {w x : Nat} (hw : w < nw) (hx : x < 6) (hS : Sim 1 n nb nw M (N.1 1)) (hn : n ≤ 99999) (hk : k ≤ 60) {v : Int32} {E : zM → Option (Int32 × zM)} {E' : zM → Int32 → Option (Int32 × zM)} : ∀ (j i f f' : Nat) (M1 N1 : zM), i + j = 101 → j + 1 < f → j + 1 < f' → FrT 11 M M1 → FrP (3 + 2 * x + 1) N N1 →
    ∃ M' N', FrT 11 M M' ∧ FrP (3 + 2 * x + 1) N N' ∧ ((∃ q, q ≤ 100 ∧ zL2 (bX9_please_47 (nI w) (nI x) (nI k) v E) f M1 (px i) = some (px q, M') ∧ zL3 (bX10_please_66 (nI w) (nI k) v (nI (3 + 2 * x + 1)) E') f' N1 51 (px i) = E' N' (px q)) ∨ (zL2 (bX9_please_47 (nI w) (nI x) (nI k) v E) f M1 (px i) = E M' ∧ zL3 (bX10_please_66 (nI w) (nI k) v (nI (3 + 2 * x + 1)) E') f' N1 51 (px i) = E' N' 51)) := by
  have hwl := hS.nwl
  have w6 : w < 6 := by omega
  have e50 : (50 : Int32).toInt = 50 := rfl
  intro j
  induction j with
  | zero =>
    intro i f f' M1 N1 hi hf hf' fM fN
    obtain ⟨f, rfl⟩ : ∃ g, f = g + 1 := ⟨f - 1, by omega⟩
    obtain ⟨f', rfl⟩ : ∃ g, f' = g + 1 := ⟨f' - 1, by omega⟩
    have : i = 101 := by omega
    subst this
    refine ⟨M1, N1, fM, fN, Or.inr ⟨?_, ?_⟩⟩
    · rw [zL2_e]; unfold bX9_please_47; rw [if_pos (show (50 : Int32) < px 101 by decide)]
    · rw [zL3_e]; unfold bX10_please_66; rw [if_pos (show (50 : Int32) < px 101 by decide)]
  | succ j ih =>
    intro i f f' M1 N1 hi hf hf' fM fN
    obtain ⟨f, rfl⟩ : ∃ g, f = g + 1 := ⟨f - 1, by omega⟩
    obtain ⟨f', rfl⟩ : ∃ g, f' = g + 1 + 1 := ⟨f' - 2, by omega⟩
    have hS1 := hS.live fM
    obtain ⟨M2, m1, m2, m3⟩ := become_sim (t := 11) (t2 := 1) (by omega) hS1
    have m4 := m2.mood hx (px i)
    have m5 : Sim 11 n nb nw (zst M2 (11 + 8) x (px i)) ((zst N1 1 (3 + 2 * x + 1) (px i)).1 1) := m4.congr (fN.upd _)
    obtain ⟨M', N', M3, c1, c2, c3, c4, c5, c6, c7, c8, c9⟩ := aheadW (N := zst N1 1 (3 + 2 * x + 1) (px i)) k m5 (by omega) (by omega) hw
    have hv : M3.1 16 w = N'.1 1 (47 + 2 * w) := (show M3.1 16 w = _ from c8).trans (c3.1.purse w6)
    have fM3 : FrT 11 M M3 := ((fM.tr m3).tr (FrT.st (by omega) (by omega))).tr c7
    have fN3 : FrP (3 + 2 * x + 1) N (cpN N' 4 1 59) := (fN.st _).A c5
    have mb := m_behind c2 (show 47 + 2 * w < 59 by omega)
    have hl1 : ¬ (50 : Int32) < px i := by rw [i_lt, px_int (by omega)]; omega
    have hl2 : ¬ (51 : Int32) ≤ 50 := by decide
    have hstep := px_1 (i := i) (by omega)
    by_cases hq : N'.1 1 (47 + 2 * w) < v
    · obtain ⟨Ma, Na, a1, a2, a3⟩ := ih (i + 1) f (f' + 1) M3 (cpN N' 4 1 59) (by omega) (by omega) (by omega) fM3 fN3
      refine ⟨Ma, Na, a1, a2, ?_⟩
      have f1 : zL2 (bX9_please_47 (nI w) (nI x) (nI k) v E) (f + 1) M1 (px i) = zL2 (bX9_please_47 (nI w) (nI x) (nI k) v E) f M3 (px (i + 1)) := by
        rw [zL2_e]
        generalize zL2 (bX9_please_47 (nI w) (nI x) (nI k) v E) f = rc
        unfold bX9_please_47
        simp only [if_neg hl1, z_bs, m1, ix6 hx, ix6 w6, c1, hv, if_pos hq, hstep]
      have f2 : zL3 (bX10_please_66 (nI w) (nI k) v (nI (3 + 2 * x + 1)) E') (f' + 1 + 1) N1 51 (px i) = zL3 (bX10_please_66 (nI w) (nI k) v (nI (3 + 2 * x + 1)) E') (f' + 1) (cpN N' 4 1 59) 51 (px (i + 1)) := by
        rw [zL3_e]
        generalize zL3 (bX10_please_66 (nI w) (nI k) v (nI (3 + 2 * x + 1)) E') (f' + 1) = rc
        unfold bX10_please_66
        simp only [if_neg hl1, if_neg hl2, ix59 (show 3 + 2 * x + 1 < 59 by omega), z_bs, zj_e, m_ws0, mb, zb2_s, if_pos hq, hstep]
      rw [f1, f2]
      exact a3
    · refine ⟨M3, cpN N' 4 1 59, fM3, fN3, Or.inl ⟨i, by omega, ?_, ?_⟩⟩
      · rw [zL2_e]; unfold bX9_please_47
        simp only [if_neg hl1, z_bs, m1, ix6 hx, ix6 w6, c1, hv, if_neg hq]
      · rw [zL3_e]
        have e2 : zL3 (bX10_please_66 (nI w) (nI k) v (nI (3 + 2 * x + 1)) E') (f' + 1) (cpN N' 4 1 59) (px i) (px (i + 1)) = E' (cpN N' 4 1 59) (px i) := by
          rw [zL3_e]; unfold bX10_please_66
          by_cases z : (50 : Int32) < px (i + 1)
          · rw [if_pos z]
          · rw [if_neg z, if_pos (show px i ≤ 50 by rw [i_le, px_int (by omega)]; omega)]
        rw [← e2]
        generalize zL3 (bX10_please_66 (nI w) (nI k) v (nI (3 + 2 * x + 1)) E') (f' + 1) = rc
        unfold bX10_please_66
        simp only [if_neg hl1, if_neg hl2, ix59 (show 3 + 2 * x + 1 < 59 by omega), z_bs, zj_e, m_ws0, mb, zb2_s, if_neg hq, hstep]
theorem s_please (h : Rel M N) (a b d v : Int32) : Okk (fX9_please M a b d v) (fX10_please N a b d v) := by
  obtain ⟨n, nb, nw, hn, hS⟩ := h.1
  have hwl := hS.nwl
  unfold fX9_please fX10_please
  rcases g_wearer hS a with ⟨w, hw, rfl, e1, e2⟩ | ⟨e1, e2⟩
  · have w6 : w < 6 := by omega
    rcases g_house b with ⟨x, hx, rfl, e3, e4⟩ | ⟨e3, e4⟩
    · rcases g_soon d with ⟨k, k1, k2, rfl, e5, e6⟩ | ⟨e5, e6⟩
      · rcases g_in v (lo := 0) (hi := 9999) (lo' := 0) (hi' := 9999) (by decide) (by decide) with ⟨_, _, e7, e8⟩ | ⟨_, e7, e8⟩
        · obtain ⟨M', N', c1, c2, c3⟩ := pleaseL hw hx hS hn k2 (v := v) (E := fun M9 => zb2 (fX9_finding M9 (3 : Int32)) fun x11 M12 => some (x11, M12)) (E' := fun M12 x13 => if x13 ≤ (50 : Int32) then (some (x13, zst M12 1 (3 + 2 * x + 1) (N.1 1 (3 + 2 * x + 1)))) else (zb2 (fX10_finds (zst M12 1 (3 + 2 * x + 1) (N.1 1 (3 + 2 * x + 1))) (-1000000004 : Int32)) fun x18 M19 => some (x18, M19))) 101 0 zFuel zFuel M N (by omega) (zF0 (by omega)) (zF0 (by omega)) FrT.rf FrP.rf
          rcases c3 with ⟨q3, hq3, c4, c5⟩ | ⟨c4, c5⟩
          · have e9 : lX9_please_47 (nI w) (nI x) (nI k) v (fun M9 => zb2 (fX9_finding M9 (3 : Int32)) fun x11 M12 => some (x11, M12)) zFuel M (-50) = some (px q3, M') := c4
            have e10 : lX10_please_66 (nI w) (nI k) v (nI (3 + 2 * x + 1)) (fun M12 x13 => if x13 ≤ (50 : Int32) then (some (x13, zst M12 1 (3 + 2 * x + 1) (N.1 1 (3 + 2 * x + 1)))) else (zb2 (fX10_finds (zst M12 1 (3 + 2 * x + 1) (N.1 1 (3 + 2 * x + 1))) (-1000000004 : Int32)) fun x18 M19 => some (x18, M19))) zFuel N 51 (-50) = some (px q3, zst N' 1 (3 + 2 * x + 1) (N.1 1 (3 + 2 * x + 1))) := c5.trans (if_pos (by rw [i_le, px_int (by omega)]; have : (50 : Int32).toInt = 50 := rfl; omega))
            simp only [e1, e2, e3, e4, e5, e6, e7, e8, z_bn, o1, m_hs1, ix59 (show 3 + 2 * x + 1 < 59 by omega), zj_n, e9, e10]
            exact Okk.st rfl (h.mvT c1 (c2.back rfl))
          · have e9 : lX9_please_47 (nI w) (nI x) (nI k) v (fun M9 => zb2 (fX9_finding M9 (3 : Int32)) fun x11 M12 => some (x11, M12)) zFuel M (-50) = zb2 (fX9_finding M' (3 : Int32)) fun x11 M12 => some (x11, M12) := c4
            have e10 : lX10_please_66 (nI w) (nI k) v (nI (3 + 2 * x + 1)) (fun M12 x13 => if x13 ≤ (50 : Int32) then (some (x13, zst M12 1 (3 + 2 * x + 1) (N.1 1 (3 + 2 * x + 1)))) else (zb2 (fX10_finds (zst M12 1 (3 + 2 * x + 1) (N.1 1 (3 + 2 * x + 1))) (-1000000004 : Int32)) fun x18 M19 => some (x18, M19))) zFuel N 51 (-50) = zb2 (fX10_finds (zst N' 1 (3 + 2 * x + 1) (N.1 1 (3 + 2 * x + 1))) (-1000000004 : Int32)) fun x18 M19 => some (x18, M19) := c5.trans (if_neg (by decide))
            simp only [e1, e2, e3, e4, e5, e6, e7, e8, z_bn, o1, m_hs1, ix59 (show 3 + 2 * x + 1 < 59 by omega), zj_n, e9, e10]
            exact fd3 (h.mvT c1 (c2.back rfl))
        · simp only [e1, e2, e3, e4, e5, e6, e7, e8, z_bn, o1, o0]; exact fd0 h
      · simp only [e1, e2, e3, e4, e5, e6, z_bn, o1, o0]; exact fd0 h
    · simp only [e1, e2, e3, e4, z_bn, o1, o0]; exact fd0 h
  · simp only [e1, e2, z_bn, o0]; exact fd0 h
theorem richL {M N : zM} (hS : Sim 11 n nb nw M (N.1 1)) {E E' : Int32 → Option (Int32 × zM)} : ∀ (j i f f' q : Nat), i + j = nb → j < f → j < f' → q < i → ∃ z, z < nb ∧ zL3 (bX9_richest_43 M E) f (nI q) (N.1 1 (15 + 4 * q + 2)) (nI i) = E (nI z) ∧ zL2 (bX10_richest_43 N E') f' (nI q) (nI i) = E' (nI z) := by
  have hbl := hS.nbl
  intro j
  induction j with
  | zero =>
    intro i f f' q hi hf hf' hq
    obtain ⟨f, rfl⟩ : ∃ g, f = g + 1 := ⟨f - 1, by omega⟩
    obtain ⟨f', rfl⟩ : ∃ g, f' = g + 1 := ⟨f' - 1, by omega⟩
    have : i = nb := by omega
    subst this
    refine ⟨q, hq, ?_, ?_⟩
    · rw [zL3_e]; unfold bX9_richest_43; rw [show M.1 11 2 = nI i from hS.1.b1.trans hS.e1, if_pos (nI_le (Nat.le_refl _) (by omega))]
    · rw [zL2_e]; unfold bX10_richest_43; rw [hS.e1, if_pos (nI_le (Nat.le_refl _) (by omega))]
  | succ j ih =>
    intro i f f' q hi hf hf' hq
    obtain ⟨f, rfl⟩ : ∃ g, f = g + 1 := ⟨f - 1, by omega⟩
    obtain ⟨f', rfl⟩ : ∃ g, f' = g + 1 := ⟨f' - 1, by omega⟩
    have hin : i < nb := by omega
    have e0 : M.1 11 2 = nI nb := hS.1.b1.trans hS.e1
    have e1 : M.1 14 i = N.1 1 (15 + 4 * i + 2) := hS.1.hoard (show i < 8 by omega)
    by_cases hc : N.1 1 (15 + 4 * i + 2) ≤ N.1 1 (15 + 4 * q + 2)
    · obtain ⟨z, z1, z2, z3⟩ := ih (i + 1) f f' q (by omega) (by omega) (by omega) (by omega)
      refine ⟨z, z1, ?_, ?_⟩
      · rw [zL3_e, ← z2]
        generalize zL3 (bX9_richest_43 M E) f = rc
        unfold bX9_richest_43
        simp only [e0, if_neg (nI_ge hin (show nb < 2 ^ 31 by omega)), ix8 (show i < 8 by omega), z_bs, zj_e, e1, if_pos hc, nI_1]
      · rw [zL2_e, ← z3]
        generalize zL2 (bX10_richest_43 N E') f' = rc
        unfold bX10_richest_43
        simp only [hS.e1, if_neg (nI_ge hin (show nb < 2 ^ 31 by omega)), m_i2 (show i < 8 by omega), m_i2 (show q < 8 by omega), z_bs, zj_e, if_pos hc, nI_1]
    · obtain ⟨z, z1, z2, z3⟩ := ih (i + 1) f f' i (by omega) (by omega) (by omega) (by omega)
      refine ⟨z, z1, ?_, ?_⟩
      · rw [zL3_e, ← z2]
        generalize zL3 (bX9_richest_43 M E) f = rc
        unfold bX9_richest_43
        simp only [e0, if_neg (nI_ge hin (show nb < 2 ^ 31 by omega)), ix8 (show i < 8 by omega), z_bs, zj_e, e1, if_neg hc, nI_1]
      · rw [zL2_e, ← z3]
        generalize zL2 (bX10_richest_43 N E') f' = rc
        unfold bX10_richest_43
        simp only [hS.e1, if_neg (nI_ge hin (show nb < 2 ^ 31 by omega)), m_i2 (show i < 8 by omega), m_i2 (show q < 8 by omega), z_bs, zj_e, if_neg hc, nI_1]
theorem s_richest (h : Rel M N) (a : Int32) : Okk (fX9_richest M a) (fX10_richest N a) := by
  obtain ⟨n, nb, nw, hn, hS⟩ := h.1
  have hbl := hS.nbl
  unfold fX9_richest fX10_richest
  rcases g_ahead a with ⟨k, hk, rfl, e1, e2⟩ | ⟨e1, e2⟩
  · obtain ⟨M1, m1, m2, m3⟩ := become_sim (t := 11) (t2 := 1) (by omega) hS
    obtain ⟨M', N', c1, c2, c3, c4, c5, c6⟩ := ahead (N := N) k m2 (by omega) (by omega)
    by_cases h0 : nb = 0
    · subst h0
      have e5 : lX9_richest_43 M' (fun x5 => if x5 = (-1 : Int32) then (zb2 (fX9_finding M' (3 : Int32)) fun x8 M9 => some (x8, M9)) else (some (x5, M'))) zFuel (-1) (-1) 0 = zb2 (fX9_finding M' (3 : Int32)) fun x8 M9 => some (x8, M9) := by
        unfold lX9_richest_43
        rw [show zFuel = 999999 + 1 from rfl, zL3_e]
        unfold bX9_richest_43
        rw [show M'.1 11 2 = nI 0 from c3.1.b1.trans c3.e1, if_pos (show nI 0 ≤ 0 by decide)]; exact if_pos rfl
      simp only [e1, e2, z_bn, o1, m1, c1, zj_n, e5, hS.e1, if_pos (show nI 0 = 0 from rfl)]
      exact fd3 (h.mvT (m3.tr c4) FrA.rf)
    · have hne : ¬ nI nb = 0 := nI_ne0 (by omega) (by omega)
      have hp : ¬ N'.1 1 (15 + 4 * 0 + 2) < 0 := (c3.B (show 0 < nb by omega)).2.1
      obtain ⟨z, z1, z2, z3⟩ := richL c3 (E := fun x5 => if x5 = (-1 : Int32) then (zb2 (fX9_finding M' (3 : Int32)) fun x8 M9 => some (x8, M9)) else (some (x5, M'))) (E' := fun x6 => zb2 (fX10_takesBack N' x6) fun x8 M9 => some (x8, M9)) (nb - 1) 1 999999 zFuel 0 (by omega) (by omega) (zF0 (by omega)) (by omega)
      have e5 : lX9_richest_43 M' (fun x5 => if x5 = (-1 : Int32) then (zb2 (fX9_finding M' (3 : Int32)) fun x8 M9 => some (x8, M9)) else (some (x5, M'))) zFuel (-1) (-1) 0 = some (nI z, M') := by
        unfold lX9_richest_43
        rw [show zFuel = 999999 + 1 from rfl, zL3_e]
        refine Eq.trans ?_ (z2.trans (if_neg (nI_m1 z (by omega))))
        generalize zL3 (bX9_richest_43 M' fun x5 => if x5 = (-1 : Int32) then (zb2 (fX9_finding M' (3 : Int32)) fun x8 M9 => some (x8, M9)) else (some (x5, M'))) 999999 = rc
        unfold bX9_richest_43
        have e6 : ¬ N'.1 1 (15 + 4 * 0 + 2) ≤ -1 := by
          rw [i_le, show (-1 : Int32).toInt = -1 from rfl]; rw [i_lt, show (0 : Int32).toInt = 0 from rfl] at hp; omega
        simp only [show M'.1 11 2 = nI nb from c3.1.b1.trans c3.e1, if_neg (show ¬ nI nb ≤ 0 from nI_ge (a := 0) (b := nb) (by omega) (by omega)), show zix (0 : Int32) 8 = some 0 from ix8 (p := 0) (by decide), z_bn, zj_n, show M'.1 14 0 = N'.1 1 (15 + 4 * 0 + 2) from c3.1.hoard (by decide), if_neg e6]
        rfl
      have e6 : lX10_richest_43 N' (fun x6 => zb2 (fX10_takesBack N' x6) fun x8 M9 => some (x8, M9)) zFuel 0 1 = some (nI z, cpN N' 4 1 59) := z3.trans (by rw [m_takesBack, zb2_s])
      simp only [e1, e2, z_bn, o1, m1, c1, zj_n, e5, hS.e1, if_neg hne, m_laysAside, c2, e6]
      exact Okk.st rfl (h.mvT (m3.tr c4) c5)
  · simp only [e1, e2, z_bn, o0]; exact fd0 h
end TG
