/-! read -/
section TK
variable {M N M' N' : zM}
theorem FrR.A (h : FrR N N') : FrA N N' := ⟨fun j hj => (h.1 j hj).1, h.2.1, h.2.2⟩
theorem readO {s l w b n nb nw : Nat} (h : Rel M N) (hS : Sim 1 n nb nw M (N.1 1)) (hn : n ≤ 99999) (hs : s < 4) (hl : l ≤ 40) (l1 : M.1 (42 + 2 * s) 2 = nI l) (l2 : N.1 8 s = nI l) (hw : w < nw) (hb : b < nb) {E E' : zM → Int32 → Option (Int32 × zM)} : ∀ (j k f f' : Nat) (M1 N1 : zM) (x : Int32), k + j = 6 → j < f → FrT 11 M M1 → FrR N N1 →
    ∃ M' N' z, FrT 11 M M' ∧ FrR N N' ∧ zL3 (bX9_read_59 (nI s) (nI w) (nI b) E) f M1 x (nI k) = E M' z ∧ zL3 (bX10_read_52 (nI s) (nI w) (nI b) E') (f' + 1 + 6 * j) N1 x (nI (6 * k)) = E' N' z := by
  intro j
  induction j with
  | zero =>
    intro k f f' M1 N1 x hi hf fM fN
    obtain ⟨f, rfl⟩ : ∃ g, f = g + 1 := ⟨f - 1, by omega⟩
    have : k = 6 := by omega
    subst this
    refine ⟨M1, N1, x, fM, fN, ?_, ?_⟩
    · rw [zL3_e]; unfold bX9_read_59; rw [if_pos (show (6 : Int32) ≤ nI 6 by decide)]
    · rw [show f' + 1 + 6 * 0 = f' + 1 by omega, zL3_e]; unfold bX10_read_52; rw [if_pos (show (36 : Int32) ≤ nI (6 * 6) by decide)]
  | succ j ih =>
    intro k f f' M1 N1 x hi hf fM fN
    obtain ⟨f, rfl⟩ : ∃ g, f = g + 1 := ⟨f - 1, by omega⟩
    have k6 : k < 6 := by omega
    have hl1 : ¬ (6 : Int32) ≤ nI k := nI_ge k6 (by decide)
    obtain ⟨M2, N2, y, a1, a2, a3, a4⟩ := readI h hS hn hs hl l1 l2 hw hb k6 (E := fun M20 x21 => (some (nI k + 1)).bind fun x23 => zL3 (bX9_read_59 (nI s) (nI w) (nI b) E) f M20 x21 x23) (E' := E') 6 0 zFuel (f' + 1 + 6 * j) M1 N1 x (by omega) (zF0 (by omega)) fM fN
    obtain ⟨Ma, Na, z, c1, c2, c3, c4⟩ := ih (k + 1) f f' M2 N2 y (by omega) (by omega) a1 a2
    refine ⟨Ma, Na, z, c1, c2, ?_, ?_⟩
    · have e1 : lX9_read_69 (nI s) (nI w) (nI b) (nI k) (fun M20 x21 => (some (nI k + 1)).bind fun x23 => zL3 (bX9_read_59 (nI s) (nI w) (nI b) E) f M20 x21 x23) zFuel M1 x 0 = zL3 (bX9_read_59 (nI s) (nI w) (nI b) E) f M2 y (nI (k + 1)) := a3.trans (by rw [z_bn, nI_1])
      rw [zL3_e, ← c3, ← e1]
      generalize zL3 (bX9_read_59 (nI s) (nI w) (nI b) E) f = rc
      unfold bX9_read_59
      rw [if_neg hl1, zj_n]
    · rw [show f' + 1 + 6 * (j + 1) = f' + 1 + 6 * j + 6 by omega, show 6 * k = 6 * k + 0 by omega, a4, show 6 * k + 6 = 6 * (k + 1) by omega]
      exact c4
theorem s_read (h : Rel M N) (a b d : Int32) : Okk (fX9_read M a b d) (fX10_read N a b d) := by
  obtain ⟨n, nb, nw, hn, hS⟩ := h.1
  unfold fX9_read fX10_read
  rcases g_sh h a with ⟨e1, e2, _⟩ | ⟨s, hs, rfl, e1, _, ⟨_, _, e3, e4⟩ | ⟨q1, q2, e3, e4⟩⟩
  · simp only [e1, e2, z_bn, if_true, ne1]; exact fd0 h
  · simp only [e1, e3, e4, z_bn, o1, ix4 hs, ne6]; exact fd5 h
  · obtain ⟨a1, ⟨l, l1, l2, l3⟩, c1⟩ := h.2.2.2.2 s hs
    rcases g_wearer hS b with ⟨w, hw, rfl, e5, e6⟩ | ⟨e5, e6⟩
    · rcases g_beard hS d with ⟨x, hx, rfl, e7, e8⟩ | ⟨e7, e8⟩
      · have f0 : FrR N (cpN N 1 4 59) := ⟨fun j hj => ⟨by rw [cpN_ne (by decide)], cpN_at hj⟩, fun x h1 h4 => cpN_ne h4, cpN_2⟩
        obtain ⟨M', N', z, d1, d2, d3, d4⟩ := readO h hS hn hs l1 l2 l3 hw hx (E := fun M12 x13 => some (x13, M12)) (E' := fun M10 x11 => some (x11, M10)) 6 0 zFuel 999963 M (cpN N 1 4 59) 0 (by omega) (zF0 (by omega)) FrT.rf f0
        have e9 : lX9_read_59 (nI s) (nI w) (nI x) (fun M12 x13 => some (x13, M12)) zFuel M 0 0 = some (z, M') := d3
        have e10 : lX10_read_52 (nI s) (nI w) (nI x) (fun M10 x11 => some (x11, M10)) zFuel (cpN N 1 4 59) 0 0 = some (z, N') := d4
        simp only [e1, e3, e4, e5, e6, e7, e8, z_bn, o1, if_true, ix4 hs, zj_n, e9, m_laysAside, e10]
        exact Okk.st rfl (h.mvT d1 d2.A)
      · simp only [e1, e3, e4, e5, e6, e7, e8, z_bn, o1, if_true, ix4 hs]; exact fd0 h
    · simp only [e1, e3, e4, e5, e6, z_bn, o1, if_true, ix4 hs]; exact fd0 h
end TK
