/-! what is best -/
theorem zFu : 999999 < zFuel := Nat.le_of_ble_eq_true rfl
section TF
variable {M N : zM} {n nb nw k : Nat}
/-- the model's row but for one place -/
def FrP (p : Nat) (N N' : zM) : Prop := (∀ j, j < 59 → j ≠ p → N'.1 1 j = N.1 1 j) ∧ (∀ x, x ≠ 1 → x ≠ 4 → N'.1 x = N.1 x) ∧ N'.2 = N.2
theorem FrP.rf {p : Nat} : FrP p N N := ⟨fun _ _ _ => rfl, fun _ _ _ => rfl, rfl⟩
theorem FrP.st {p : Nat} {N' : zM} (h : FrP p N N') (v : Int32) : FrP p N (zst N' 1 p v) := ⟨fun j hj hp => by rw [mr hp]; exact h.1 j hj hp, fun x h1 h4 => by rw [st_ne h1]; exact h.2.1 x h1 h4, by rw [zst_g2]; exact h.2.2⟩
theorem FrP.A {p : Nat} {N' N'' : zM} (h : FrP p N N') (h' : FrA N' N'') : FrP p N N'' := ⟨fun j hj hp => (h'.1 j hj).trans (h.1 j hj hp), fun x h1 h4 => (h'.2.1 x h1 h4).trans (h.2.1 x h1 h4), h'.2.2.trans h.2.2⟩
theorem FrP.back {p : Nat} {N' : zM} (h : FrP p N N') {v : Int32} (hv : v = N.1 1 p) : FrA N (zst N' 1 p v) := ⟨fun j hj => by
    by_cases q : j = p
    · subst q; rw [mrs, hv]
    · rw [mr q]; exact h.1 j hj q, fun x h1 h4 => by rw [st_ne h1]; exact h.2.1 x h1 h4, by rw [zst_g2]; exact h.2.2⟩
theorem FrP.upd {p : Nat} {N' : zM} (h : FrP p N N') (v : Int32) : ∀ j, j < 59 → (zst N' 1 p v).1 1 j = upd (N.1 1) p v j := fun j hj => by
  by_cases q : j = p
  · subst q; rw [mrs, pk_us]
  · rw [mr q, pk_un q]; exact h.1 j hj q
theorem Sim.live {M' : zM} (h : Sim 1 n nb nw M (N.1 1)) (f : FrT 11 M M') : Sim 1 n nb nw M' (N.1 1) := h.congrM (fun k k1 k2 => f.1 k (by omega))
theorem wears11 {s : Nat → Int32} {M1 : zM} (hS : Sim 1 n nb nw M s) (h1 : Sim 11 n nb nw M1 s) {w : Nat} (hw : w < nw) : M1.1 (11 + 7) w = M.1 (1 + 7) w := by
  rcases (h1.W hw).2 with e | ⟨b, hb, e, e2⟩
  · rcases (hS.W hw).2 with q | ⟨b, hb, q, q2⟩
    · rw [e, q]
    · have := h1.wOf hw hb q2
      have hbl := hS.nbl
      exact absurd (this.symm.trans e) (nI_m1 b (by omega))
  · rw [e, hS.wOf hw hb e2]
theorem bestL {w : Nat} (hw : w < nw) (hS : Sim 1 n nb nw M (N.1 1)) (hn : n ≤ 99999) (hk : k ≤ 60) (h0 : M.1 8 w = -1) {E E' : zM → Int32 → Option (Int32 × zM)} : ∀ (j i f f' : Nat) (M1 N1 : zM) (x y : Int32), i + j = nb → j < f → j < f' → FrT 11 M M1 → FrA N N1 →
    (x = -1 ∨ ∃ q, q < nb ∧ x = nI q) →
    ∃ M' N' z, FrT 11 M M' ∧ FrA N N' ∧ (z = -1 ∨ ∃ q, q < nb ∧ z = nI q) ∧ zL4 (bX9_best_51 (nI w) (nI k) E) f M1 x y (nI i) = E M' z ∧ zL4 (bX10_best_46 (nI w) (nI k) E') f' N1 x y (nI i) = E' N' z := by
  have hwl := hS.nwl
  have hbl := hS.nbl
  have w6 : w < 6 := by omega
  intro j
  induction j with
  | zero =>
    intro i f f' M1 N1 x y hi hf hf' fM fN hx
    obtain ⟨f, rfl⟩ : ∃ g, f = g + 1 := ⟨f - 1, by omega⟩
    obtain ⟨f', rfl⟩ : ∃ g, f' = g + 1 := ⟨f' - 1, by omega⟩
    have : i = nb := by omega
    subst this
    have hS1 := hS.live fM
    have e1 : N1.1 1 1 = nI i := (fN.1 1 (by decide)).trans hS.e1
    have e2 : M1.1 1 2 = nI i := hS1.1.b1.trans hS.e1
    refine ⟨M1, N1, x, fM, fN, hx, ?_, ?_⟩
    · rw [zL4_e]; unfold bX9_best_51; rw [e2, if_pos (nI_le (Nat.le_refl _) (by omega))]
    · rw [zL4_e]; unfold bX10_best_46; rw [e1, if_pos (nI_le (Nat.le_refl _) (by omega))]
  | succ j ih =>
    intro i f f' M1 N1 x y hi hf hf' fM fN hx
    obtain ⟨f, rfl⟩ : ∃ g, f = g + 1 := ⟨f - 1, by omega⟩
    obtain ⟨f', rfl⟩ : ∃ g, f' = g + 1 := ⟨f' - 1, by omega⟩
    have hin : i < nb := by omega
    have i8 : i < 8 := by omega
    have hS1 := hS.live fM
    have e1 : N1.1 1 1 = nI nb := (fN.1 1 (by decide)).trans hS.e1
    have e2 : M1.1 1 2 = nI nb := hS1.1.b1.trans hS.e1
    have e3 : N1.1 1 (15 + 4 * i + 3) = N.1 1 (15 + 4 * i + 3) := fN.1 _ (by omega)
    have e4 : M1.1 5 i = N.1 1 (15 + 4 * i + 3) := hS1.1.on i8
    by_cases q : N.1 1 (15 + 4 * i + 3) = -1
    · obtain ⟨M2, m1, m2, m3⟩ := become_sim (t := 11) (t2 := 1) (by omega) hS1
      have hw2 : M2.1 (11 + 7) w = -1 := (wears11 hS1 m2 hw).trans ((hS1.congrM (M' := M1) (fun _ _ _ => rfl)).2.2.2.2.2.2.2 w hw |>.2.elim (fun z => z) (fun ⟨b, z1, z2, z3⟩ => by
        have : M1.1 (1 + 7) w = M.1 8 w := by rw [show (1 + 7 : Nat) = 8 from rfl, fM.1 8 (by omega)]
        rw [this]; exact h0))
      have m4 := m2.hire hw hin hw2 q
      have po : fX7_putOn M2 11 (nI w) (nI i) = some (zst (zst M2 (11 + 7) w (nI i)) (11 + 4) i (nI w)) := by
        unfold fX7_putOn; simp only [ix6 w6, ix8 i8, z_bs]
      have fP : FrP (15 + 4 * i + 3) N N1 := ⟨fun j hj _ => fN.1 j hj, fN.2.1, fN.2.2⟩
      have m5 : Sim 11 n nb nw (zst (zst M2 (11 + 7) w (nI i)) (11 + 4) i (nI w)) ((zst N1 1 (15 + 4 * i + 3) (nI w)).1 1) := m4.congr (fP.upd _)
      obtain ⟨M', N', M3, c1, c2, c3, c4, c5, c6, c7, c8, c9⟩ := aheadW (N := zst N1 1 (15 + 4 * i + 3) (nI w)) k m5 (by omega) (by omega) hw
      have hv : M3.1 16 w = N'.1 1 (47 + 2 * w) := (show M3.1 16 w = _ from c8).trans (c3.1.purse w6)
      have fM3 : FrT 11 M M3 := ((fM.tr m3).tr ((FrT.st (by omega) (by omega)).tr (FrT.st (by omega) (by omega)))).tr c7
      have fN3 : FrA N (zst (cpN N' 4 1 59) 1 (15 + 4 * i + 3) (-1)) := ((fP.st _).A c5).back q.symm
      have mb := m_behind c2 (show 47 + 2 * w < 59 by omega)
      by_cases hc : N'.1 1 (47 + 2 * w) ≤ y
      · obtain ⟨Ma, Na, z, a1, a2, a3, a4, a5⟩ := ih (i + 1) f f' M3 _ x y (by omega) (by omega) (by omega) fM3 fN3 hx
        refine ⟨Ma, Na, z, a1, a2, a3, ?_, ?_⟩
        · rw [zL4_e, ← a4]
          generalize zL4 (bX9_best_51 (nI w) (nI k) E) f = rc
          unfold bX9_best_51
          simp only [e2, if_neg (nI_ge hin (show nb < 2 ^ 31 by omega)), ix8 i8, z_bs, zj_e, e4, if_pos q, m1, po, c1, ix6 w6, hv, if_pos hc, nI_1]
        · rw [zL4_e, ← a5]
          generalize zL4 (bX10_best_46 (nI w) (nI k) E') f' = rc
          unfold bX10_best_46
          simp only [e1, if_neg (nI_ge hin (show nb < 2 ^ 31 by omega)), m_i3 i8, z_bs, zj_e, e3, if_pos q, m_bs3, ix59 (show 15 + 4 * i + 3 < 59 by omega), m_ws0, mb, zb2_s, if_pos hc, nI_1]
      · obtain ⟨Ma, Na, z, a1, a2, a3, a4, a5⟩ := ih (i + 1) f f' M3 _ (nI i) (N'.1 1 (47 + 2 * w)) (by omega) (by omega) (by omega) fM3 fN3 (Or.inr ⟨i, hin, rfl⟩)
        refine ⟨Ma, Na, z, a1, a2, a3, ?_, ?_⟩
        · rw [zL4_e, ← a4]
          generalize zL4 (bX9_best_51 (nI w) (nI k) E) f = rc
          unfold bX9_best_51
          simp only [e2, if_neg (nI_ge hin (show nb < 2 ^ 31 by omega)), ix8 i8, z_bs, zj_e, e4, if_pos q, m1, po, c1, ix6 w6, hv, if_neg hc, nI_1]
        · rw [zL4_e, ← a5]
          generalize zL4 (bX10_best_46 (nI w) (nI k) E') f' = rc
          unfold bX10_best_46
          simp only [e1, if_neg (nI_ge hin (show nb < 2 ^ 31 by omega)), m_i3 i8, z_bs, zj_e, e3, if_pos q, m_bs3, ix59 (show 15 + 4 * i + 3 < 59 by omega), m_ws0, mb, zb2_s, if_neg hc, nI_1]
    · obtain ⟨Ma, Na, z, a1, a2, a3, a4, a5⟩ := ih (i + 1) f f' M1 N1 x y (by omega) (by omega) (by omega) fM fN hx
      refine ⟨Ma, Na, z, a1, a2, a3, ?_, ?_⟩
      · rw [zL4_e, ← a4]
        generalize zL4 (bX9_best_51 (nI w) (nI k) E) f = rc
        unfold bX9_best_51
        simp only [e2, if_neg (nI_ge hin (show nb < 2 ^ 31 by omega)), ix8 i8, z_bs, zj_e, e4, if_neg q, nI_1]
      · rw [zL4_e, ← a5]
        generalize zL4 (bX10_best_46 (nI w) (nI k) E') f' = rc
        unfold bX10_best_46
        simp only [e1, if_neg (nI_ge hin (show nb < 2 ^ 31 by omega)), m_i3 i8, z_bs, zj_e, e3, if_neg q, nI_1]
theorem s_best (h : Rel M N) (a b : Int32) : Okk (fX9_best M a b) (fX10_best N a b) := by
  obtain ⟨n, nb, nw, hn, hS⟩ := h.1
  have hwl := hS.nwl
  have hbl := hS.nbl
  unfold fX9_best fX10_best
  rcases g_wearer hS a with ⟨w, hw, rfl, e1, e2⟩ | ⟨e1, e2⟩
  · have w6 : w < 6 := by omega
    rcases g_soon b with ⟨k, k1, k2, rfl, e3, e4⟩ | ⟨e3, e4⟩
    · have ew : fX10_wornBy N (nI w) = some (M.1 8 w) := m_worn hS hw
      by_cases q : M.1 8 w = -1
      · unfold lX9_best_51 lX10_best_46
        have hF := zFu
        revert hF
        generalize zFuel = fu
        intro hF
        simp only [e1, e2, e3, e4, z_bs, o1, ix6 w6, ew, if_pos q, zj_e]
        obtain ⟨M', N', z, c1, c2, c3, c4, c5⟩ := bestL hw hS hn k2 q (E := fun M9 x10 => if x10 = (-1 : Int32) then (zb2 (fX9_finding M9 (3 : Int32)) fun x13 M14 => some (x13, M14)) else (some (x10, M9))) (E' := fun M9 x10 => if (0 : Int32) ≤ x10 then (some (x10, M9)) else (zb2 (fX10_finds M9 (-1000000004 : Int32)) fun x13 M14 => some (x13, M14))) nb 0 fu fu M N (-1) (-1) (by omega) (by omega) (by omega) FrT.rf FrA.rf (Or.inl rfl)
        rw [show nI 0 = 0 from rfl] at c4 c5
        rw [c4, c5]
        rcases c3 with rfl | ⟨q2, hq, rfl⟩
        · rw [if_pos rfl, if_neg (show ¬ (0 : Int32) ≤ -1 by decide)]
          exact fd3 (h.mvT c1 c2)
        · rw [if_neg (nI_m1 q2 (by omega)), if_pos (nI_pos' (show q2 < 2 ^ 31 by omega))]
          exact Okk.st rfl (h.mvT c1 c2)
      · simp only [e1, e2, e3, e4, z_bs, o1, ix6 w6, ew, if_neg q]; exact fd4 h
    · simp only [e1, e2, e3, e4, z_bs, o1, o0]; exact fd0 h
  · simp only [e1, e2, z_bs, o0]; exact fd0 h
theorem roundL {w : Nat} (hw : w < nw) (hS : Sim 1 n nb nw M (N.1 1)) (hn : n ≤ 99999) (hk : k ≤ 60) {E E' : zM → Int32 → Option (Int32 × zM)} : ∀ (j i f f' : Nat) (M1 N1 : zM) (x y : Int32), i + j = 6 → j < f → j < f' → FrT 11 M M1 → FrP (47 + 2 * w + 1) N N1 →
    ∃ M' N' z, FrT 11 M M' ∧ FrP (47 + 2 * w + 1) N N' ∧ zL4 (bX9_round_32 (nI w) (nI k) E) f M1 x y (nI i) = E M' z ∧ zL4 (bX10_mostBy_17 (nI (47 + 2 * w + 1)) 5 (nI (47 + 2 * w)) (nI k) E') f' N1 x y (nI i) = E' N' z := by
  have hwl := hS.nwl
  have w6 : w < 6 := by omega
  intro j
  induction j with
  | zero =>
    intro i f f' M1 N1 x y hi hf hf' fM fN
    obtain ⟨f, rfl⟩ : ∃ g, f = g + 1 := ⟨f - 1, by omega⟩
    obtain ⟨f', rfl⟩ : ∃ g, f' = g + 1 := ⟨f' - 1, by omega⟩
    have : i = 6 := by omega
    subst this
    refine ⟨M1, N1, x, fM, fN, ?_, ?_⟩
    · rw [zL4_e]; unfold bX9_round_32; rw [if_pos (show (6 : Int32) ≤ nI 6 by decide)]
    · rw [zL4_e]; unfold bX10_mostBy_17; rw [if_pos (show (5 : Int32) < nI 6 by decide)]
  | succ j ih =>
    intro i f f' M1 N1 x y hi hf hf' fM fN
    obtain ⟨f, rfl⟩ : ∃ g, f = g + 1 := ⟨f - 1, by omega⟩
    obtain ⟨f', rfl⟩ : ∃ g, f' = g + 1 := ⟨f' - 1, by omega⟩
    have i6 : i < 6 := by omega
    obtain ⟨M2, m1, m2, m3⟩ := become_sim (t := 11) (t2 := 1) (by omega) (hS.live fM)
    have m4 := m2.round w6 i6
    have m5 : Sim 11 n nb nw (zst M2 (11 + 6) w (nI i)) ((zst N1 1 (47 + 2 * w + 1) (nI i)).1 1) := m4.congr (fN.upd _)
    obtain ⟨M', N', M3, c1, c2, c3, c4, c5, c6, c7, c8, c9⟩ := aheadW (N := zst N1 1 (47 + 2 * w + 1) (nI i)) k m5 (by omega) (by omega) hw
    have hv : M3.1 16 w = N'.1 1 (47 + 2 * w) := (show M3.1 16 w = _ from c8).trans (c3.1.purse w6)
    have fM3 : FrT 11 M M3 := ((fM.tr m3).tr (FrT.st (by omega) (by omega))).tr c7
    have fN3 : FrP (47 + 2 * w + 1) N (cpN N' 4 1 59) := (fN.st _).A c5
    have mb := m_behind c2 (show 47 + 2 * w < 59 by omega)
    have hl1 : ¬ (6 : Int32) ≤ nI i := nI_ge i6 (by decide)
    have hl2 : ¬ (5 : Int32) < nI i := nI_nlt (a := 5) (b := i) (by omega) (by decide)
    by_cases hc : N'.1 1 (47 + 2 * w) ≤ y
    · obtain ⟨Ma, Na, z, a1, a2, a4, a5⟩ := ih (i + 1) f f' M3 _ x y (by omega) (by omega) (by omega) fM3 fN3
      refine ⟨Ma, Na, z, a1, a2, ?_, ?_⟩
      · rw [zL4_e, ← a4]
        generalize zL4 (bX9_round_32 (nI w) (nI k) E) f = rc
        unfold bX9_round_32
        simp only [if_neg hl1, z_bs, zj_e, m1, ix6 w6, c1, hv, if_pos hc, nI_1]
      · rw [zL4_e, ← a5]
        generalize zL4 (bX10_mostBy_17 (nI (47 + 2 * w + 1)) 5 (nI (47 + 2 * w)) (nI k) E') f' = rc
        unfold bX10_mostBy_17
        simp only [if_neg hl2, ix59 (show 47 + 2 * w + 1 < 59 by omega), z_bs, zj_e, if_pos (nI_pos' (show 47 + 2 * w < 2 ^ 31 by omega)), mb, zb2_s, if_pos hc, nI_1]
    · obtain ⟨Ma, Na, z, a1, a2, a4, a5⟩ := ih (i + 1) f f' M3 _ (nI i) (N'.1 1 (47 + 2 * w)) (by omega) (by omega) (by omega) fM3 fN3
      refine ⟨Ma, Na, z, a1, a2, ?_, ?_⟩
      · rw [zL4_e, ← a4]
        generalize zL4 (bX9_round_32 (nI w) (nI k) E) f = rc
        unfold bX9_round_32
        simp only [if_neg hl1, z_bs, zj_e, m1, ix6 w6, c1, hv, if_neg hc, nI_1]
      · rw [zL4_e, ← a5]
        generalize zL4 (bX10_mostBy_17 (nI (47 + 2 * w + 1)) 5 (nI (47 + 2 * w)) (nI k) E') f' = rc
        unfold bX10_mostBy_17
        simp only [if_neg hl2, ix59 (show 47 + 2 * w + 1 < 59 by omega), z_bs, zj_e, if_pos (nI_pos' (show 47 + 2 * w < 2 ^ 31 by omega)), mb, zb2_s, if_neg hc, nI_1]
theorem m_mostBy {p : Nat} (hp : p < 59) (a b c : Int32) : fX10_mostBy N (nI p) a b c = lX10_mostBy_17 (nI p) a b c (fun M3 x4 => some (x4, zst M3 1 p (N.1 1 p))) zFuel N 0 (-1) 0 := by
  unfold fX10_mostBy
  simp only [ix59 hp, z_bs, zj_e]
theorem s_round (h : Rel M N) (a b : Int32) : Okk (fX9_round M a b) (fX10_round N a b) := by
  obtain ⟨n, nb, nw, hn, hS⟩ := h.1
  have hwl := hS.nwl
  unfold fX9_round fX10_round
  rcases g_wearer hS a with ⟨w, hw, rfl, e1, e2⟩ | ⟨e1, e2⟩
  · have w6 : w < 6 := by omega
    rcases g_soon b with ⟨k, k1, k2, rfl, e3, e4⟩ | ⟨e3, e4⟩
    · obtain ⟨M', N', z, c1, c2, c4, c5⟩ := roundL hw hS hn k2 (E := fun M7 x8 => some (x8, M7)) (E' := fun M3 x4 => some (x4, zst M3 1 (47 + 2 * w + 1) (N.1 1 (47 + 2 * w + 1)))) 6 0 zFuel zFuel M N 0 (-1) (by omega) (zF0 (by omega)) (zF0 (by omega)) FrT.rf FrP.rf
      have e5 : fX10_mostBy N (nI (47 + 2 * w + 1)) 5 (nI (47 + 2 * w)) (nI k) = some (z, zst N' 1 (47 + 2 * w + 1) (N.1 1 (47 + 2 * w + 1))) := (m_mostBy (by omega) _ _ _).trans c5
      have e6 : lX9_round_32 (nI w) (nI k) (fun M7 x8 => some (x8, M7)) zFuel M 0 (-1) 0 = some (z, M') := c4
      simp only [e1, e2, e3, e4, z_bs, o1, m_ws1, m_ws0, zj_e, e5, e6, zb2_s]
      exact Okk.st rfl (h.mvT c1 (c2.back rfl))
    · simp only [e1, e2, e3, e4, z_bs, o1, o0]; exact fd0 h
  · simp only [e1, e2, z_bs, o0]; exact fd0 h
theorem kindL {b : Nat} (hb : b < nb) (hS : Sim 1 n nb nw M (N.1 1)) (hn : n ≤ 99999) (hk : k ≤ 60) {E E' : zM → Int32 → Option (Int32 × zM)} : ∀ (j i f f' : Nat) (M1 N1 : zM) (x y : Int32), i + j = 6 → j < f → j < f' → FrT 11 M M1 → FrP (15 + 4 * b) N N1 →
    ∃ M' N' z, FrT 11 M M' ∧ FrP (15 + 4 * b) N N' ∧ zL4 (bX9_kind_32 (nI b) (nI k) E) f M1 x y (nI i) = E M' z ∧ zL4 (bX10_mostBy_17 (nI (15 + 4 * b)) 5 (-1) (nI k) E') f' N1 x y (nI i) = E' N' z := by
  have hbl := hS.nbl
  have b8 : b < 8 := by omega
  intro j
  induction j with
  | zero =>
    intro i f f' M1 N1 x y hi hf hf' fM fN
    obtain ⟨f, rfl⟩ : ∃ g, f = g + 1 := ⟨f - 1, by omega⟩
    obtain ⟨f', rfl⟩ : ∃ g, f' = g + 1 := ⟨f' - 1, by omega⟩
    have : i = 6 := by omega
    subst this
    refine ⟨M1, N1, x, fM, fN, ?_, ?_⟩
    · rw [zL4_e]; unfold bX9_kind_32; rw [if_pos (show (6 : Int32) ≤ nI 6 by decide)]
    · rw [zL4_e]; unfold bX10_mostBy_17; rw [if_pos (show (5 : Int32) < nI 6 by decide)]
  | succ j ih =>
    intro i f f' M1 N1 x y hi hf hf' fM fN
    obtain ⟨f, rfl⟩ : ∃ g, f = g + 1 := ⟨f - 1, by omega⟩
    obtain ⟨f', rfl⟩ : ∃ g, f' = g + 1 := ⟨f' - 1, by omega⟩
    have i6 : i < 6 := by omega
    obtain ⟨M2, m1, m2, m3⟩ := become_sim (t := 11) (t2 := 1) (by omega) (hS.live fM)
    have m4 := m2.kind b8 i6
    have m5 : Sim 11 n nb nw (zst M2 (11 + 1) b (nI i)) ((zst N1 1 (15 + 4 * b) (nI i)).1 1) := m4.congr (fN.upd _)
    obtain ⟨M3, N', c1, c2, c3, c4, c5, c6⟩ := ahead (N := zst N1 1 (15 + 4 * b) (nI i)) k m5 (by omega) (by omega)
    have fM3 : FrT 11 M M3 := ((fM.tr m3).tr (FrT.st (by omega) (by omega))).tr c4
    have fN3 : FrP (15 + 4 * b) N (cpN N' 4 1 59) := (fN.st _).A c5
    have mb := m_pursesBehind c2 c3
    have cp := c_purses c3
    generalize hsum : aSum (fun w => N'.1 1 (47 + 2 * w)) nw = sm at mb cp
    have hl1 : ¬ (6 : Int32) ≤ nI i := nI_ge i6 (by decide)
    have hl2 : ¬ (5 : Int32) < nI i := nI_nlt (a := 5) (b := i) (by omega) (by decide)
    by_cases hc : sm ≤ y
    · obtain ⟨Ma, Na, z, a1, a2, a4, a5⟩ := ih (i + 1) f f' M3 _ x y (by omega) (by omega) (by omega) fM3 fN3
      refine ⟨Ma, Na, z, a1, a2, ?_, ?_⟩
      · rw [zL4_e, ← a4]
        generalize zL4 (bX9_kind_32 (nI b) (nI k) E) f = rc
        unfold bX9_kind_32
        simp only [if_neg hl1, z_bs, zj_e, m1, ix8 b8, c1, cp, if_pos hc, nI_1]
      · rw [zL4_e, ← a5]
        generalize zL4 (bX10_mostBy_17 (nI (15 + 4 * b)) 5 (-1) (nI k) E') f' = rc
        unfold bX10_mostBy_17
        simp only [if_neg hl2, ix59 (show 15 + 4 * b < 59 by omega), z_bs, zj_e, if_neg (show ¬ (0 : Int32) ≤ -1 by decide), mb, zb2_s, if_pos hc, nI_1]
    · obtain ⟨Ma, Na, z, a1, a2, a4, a5⟩ := ih (i + 1) f f' M3 _ (nI i) sm (by omega) (by omega) (by omega) fM3 fN3
      refine ⟨Ma, Na, z, a1, a2, ?_, ?_⟩
      · rw [zL4_e, ← a4]
        generalize zL4 (bX9_kind_32 (nI b) (nI k) E) f = rc
        unfold bX9_kind_32
        simp only [if_neg hl1, z_bs, zj_e, m1, ix8 b8, c1, cp, if_neg hc, nI_1]
      · rw [zL4_e, ← a5]
        generalize zL4 (bX10_mostBy_17 (nI (15 + 4 * b)) 5 (-1) (nI k) E') f' = rc
        unfold bX10_mostBy_17
        simp only [if_neg hl2, ix59 (show 15 + 4 * b < 59 by omega), z_bs, zj_e, if_neg (show ¬ (0 : Int32) ≤ -1 by decide), mb, zb2_s, if_neg hc, nI_1]
theorem s_kind (h : Rel M N) (a b : Int32) : Okk (fX9_kind M a b) (fX10_kind N a b) := by
  obtain ⟨n, nb, nw, hn, hS⟩ := h.1
  have hbl := hS.nbl
  unfold fX9_kind fX10_kind
  rcases g_beard hS a with ⟨x, hx, rfl, e1, e2⟩ | ⟨e1, e2⟩
  · have x8 : x < 8 := by omega
    rcases g_soon b with ⟨k, k1, k2, rfl, e3, e4⟩ | ⟨e3, e4⟩
    · obtain ⟨M', N', z, c1, c2, c4, c5⟩ := kindL hx hS hn k2 (E := fun M7 x8 => some (x8, M7)) (E' := fun M3 x4 => some (x4, zst M3 1 (15 + 4 * x) (N.1 1 (15 + 4 * x)))) 6 0 zFuel zFuel M N 0 (-1) (by omega) (zF0 (by omega)) (zF0 (by omega)) FrT.rf FrP.rf
      have e5 : fX10_mostBy N (nI (15 + 4 * x)) 5 (-1) (nI k) = some (z, zst N' 1 (15 + 4 * x) (N.1 1 (15 + 4 * x))) := (m_mostBy (by omega) _ _ _).trans c5
      have e6 : lX9_kind_32 (nI x) (nI k) (fun M7 x8 => some (x8, M7)) zFuel M 0 (-1) 0 = some (z, M') := c4
      simp only [e1, e2, e3, e4, z_bs, o1, m_bs0, zj_e, e5, e6, zb2_s]
      exact Okk.st rfl (h.mvT c1 (c2.back rfl))
    · simp only [e1, e2, e3, e4, z_bs, o1, o0]; exact fd0 h
  · simp only [e1, e2, z_bs, o0]; exact fd0 h
end TF
