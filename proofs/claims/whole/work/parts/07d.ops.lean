/-! more calls -/
section TD
variable {M N : zM}
theorem s_set (h : Rel M N) (a b d : Int32) : Okk (fX9_set M a b d) (fX10_set N a b d) := by
  obtain ⟨n, nb, nw, hn, hS⟩ := h.1
  have hbl := hS.nbl
  unfold fX9_set fX10_set
  have hb12 : fX10_in b.toInt64 1 2 = some (if b = 1 ∨ b = 2 then 1 else 0) := by
    rw [m_in, Int32.toInt_toInt64, show (1 : Int64).toInt = 1 from rfl, show (2 : Int64).toInt = 2 from rfl]
    congr 1
    by_cases q : b = 1 ∨ b = 2
    · rw [if_pos q, if_pos]
      rcases q with rfl | rfl <;> decide
    · rw [if_neg q, if_neg]
      intro z
      refine q ?_
      rcases (show b.toInt = 1 ∨ b.toInt = 2 by omega) with z | z
      · exact Or.inl (Int32.toInt_inj.mp z)
      · exact Or.inr (Int32.toInt_inj.mp z)
  by_cases b1 : b = 1
  · subst b1
    rcases g_beard hS a with ⟨x, hx, rfl, e1, e2⟩ | ⟨e1, e2⟩
    · have x8 : x < 8 := by omega
      rcases g_in d (lo := 0) (hi := 99) (lo' := 0) (hi' := 99) (by decide) (by decide) with ⟨_, _, e3, e4⟩ | ⟨_, e3, e4⟩
      · simp only [e1, e2, e3, e4, hb12, z_bs, zj_e, o1, if_pos (show (1 : Int32) = 1 ∨ (1 : Int32) = 2 by decide), if_pos (show (1 : Int32) = 1 from rfl), ix8 x8, m_bs1, m_becomes (show 15 + 4 * x + 1 < 59 by omega), zb2_s]
        exact Okk.st (hS.1.fame x8) (h.live (FrT.st (by omega) (by omega)) FrN.st hn (by rw [zst_1]; exact hS.fame x8 d))
      · simp only [e1, e2, e3, e4, hb12, z_bs, zj_e, o1, o0, if_pos (show (1 : Int32) = 1 ∨ (1 : Int32) = 2 by decide), if_pos (show (1 : Int32) = 1 from rfl), if_neg (show ¬ (1 : Int32) = 2 by decide)]
        exact fd0 h
    · rcases g_in d (lo := 0) (hi := 99) (lo' := 0) (hi' := 99) (by decide) (by decide) with ⟨_, _, e3, e4⟩ | ⟨_, e3, e4⟩
      · simp only [e1, e2, e3, e4, hb12, z_bs, zj_e, o1, o0, if_pos (show (1 : Int32) = 1 ∨ (1 : Int32) = 2 by decide), if_pos (show (1 : Int32) = 1 from rfl)]
        exact fd0 h
      · simp only [e1, e2, e3, e4, hb12, z_bs, zj_e, o1, o0, if_pos (show (1 : Int32) = 1 ∨ (1 : Int32) = 2 by decide), if_pos (show (1 : Int32) = 1 from rfl)]
        exact fd0 h
  · by_cases b2 : b = 2
    · subst b2
      rcases g_beard hS a with ⟨x, hx, rfl, e1, e2⟩ | ⟨e1, e2⟩
      · have x8 : x < 8 := by omega
        rcases g_in d (lo := 0) (hi := 999) (lo' := 0) (hi' := 999) (by decide) (by decide) with ⟨q1, _, e3, e4⟩ | ⟨_, e3, e4⟩
        · simp only [e1, e2, e3, e4, hb12, z_bs, zj_e, o1, if_pos (show (2 : Int32) = 1 ∨ (2 : Int32) = 2 by decide), if_neg b1, if_pos (show (2 : Int32) = 2 from rfl), ix8 x8, m_bs2, m_becomes (show 15 + 4 * x + 2 < 59 by omega), zb2_s]
          exact Okk.st (hS.1.hoard x8) (h.live (FrT.st (by omega) (by omega)) FrN.st hn (by rw [zst_1]; exact hS.hoard x8 (by rw [i_lt]; have : (0 : Int32).toInt = 0 := rfl; omega)))
        · simp only [e1, e2, e3, e4, hb12, z_bs, zj_e, o1, o0, if_pos (show (2 : Int32) = 1 ∨ (2 : Int32) = 2 by decide), if_neg b1, if_pos (show (2 : Int32) = 2 from rfl)]
          exact fd0 h
      · rcases g_in d (lo := 0) (hi := 999) (lo' := 0) (hi' := 999) (by decide) (by decide) with ⟨_, _, e3, e4⟩ | ⟨_, e3, e4⟩
        · simp only [e1, e2, e3, e4, hb12, z_bs, zj_e, o1, o0, if_pos (show (2 : Int32) = 1 ∨ (2 : Int32) = 2 by decide), if_neg b1]
          exact fd0 h
        · simp only [e1, e2, e3, e4, hb12, z_bs, zj_e, o1, o0, if_pos (show (2 : Int32) = 1 ∨ (2 : Int32) = 2 by decide), if_neg b1]
          exact fd0 h
    · have hb0 : ¬ (b = 1 ∨ b = 2) := fun q => q.elim b1 b2
      rcases g_beard hS a with ⟨x, hx, rfl, e1, e2⟩ | ⟨e1, e2⟩
      · simp only [e1, e2, hb12, z_bs, zj_e, o1, o0, if_neg hb0, if_neg b1, if_neg b2]; exact fd0 h
      · simp only [e1, e2, hb12, z_bs, zj_e, o1, o0, if_neg hb0, if_neg b1, if_neg b2]; exact fd0 h
theorem c_addW {t n nb nw : Nat} {s : Nat → Int32} (hS : Sim t n nb nw M s) {v : Int32} (hw : nw < 6) : fX7_addWearer M t v = some (nI nw, zst (zst (zst (zst M t 3 (nI (nw + 1))) (t + 5) nw v) (t + 6) nw (nI nw)) (t + 7) nw (-1)) := by
  unfold fX7_addWearer
  simp only [hS.1.w2, hS.e2, if_pos (show nI nw < 6 from nI_lt hw (by decide)), z_bs, ix6 hw, nI_1]
theorem c_addWno {t n nb nw : Nat} {s : Nat → Int32} (hS : Sim t n nb nw M s) {v : Int32} (hw : ¬ nw < 6) : fX7_addWearer M t v = some (-1, M) := by
  unfold fX7_addWearer
  rw [hS.1.w2, hS.e2, if_neg (show ¬ nI nw < 6 from nI_nlt (a := nw) (b := 6) (by omega) (by have := hS.nwl; omega))]
theorem m_addW {t n nb nw : Nat} (hS : Sim t n nb nw M (N.1 1)) (v : Int32) (hw : nw < 6) : ∃ N', fX10_addsWearer N v = some (nI nw, N') ∧ FrN N N' ∧ N'.1 1 = upd (upd (upd (N.1 1) 2 (nI (nw + 1))) (47 + 2 * nw) v) (47 + 2 * nw + 1) (nI nw) := by
  unfold fX10_addsWearer
  simp only [hS.e2, z_bs, nI_1, m_ws0, m_ws1, ix59 (show 47 + 2 * nw < 59 by omega), ix59 (show 47 + 2 * nw + 1 < 59 by omega)]
  exact ⟨_, rfl, FrN.st.tr (FrN.st.tr FrN.st), by rw [zst_1, zst_1, zst_1]⟩
theorem FrW {t nw : Nat} {v1 v2 v3 v4 : Int32} : FrT t M (zst (zst (zst (zst M t 3 v1) (t + 5) nw v2) (t + 6) nw v3) (t + 7) nw v4) :=
  (FrT.st (by omega) (by omega)).tr ((FrT.st (by omega) (by omega)).tr ((FrT.st (by omega) (by omega)).tr (FrT.st (by omega) (by omega))))
theorem s_wearer (h : Rel M N) (a : Int32) : Okk (fX9_wearer M a) (fX10_wearer N a) := by
  obtain ⟨n, nb, nw, hn, hS⟩ := h.1
  have hwl := hS.nwl
  unfold fX9_wearer fX10_wearer
  rcases g_in a (lo := 0) (hi := 9999) (lo' := 0) (hi' := 9999) (by decide) (by decide) with ⟨_, _, e1, e2⟩ | ⟨_, e1, e2⟩
  · by_cases hw : nw < 6
    · obtain ⟨N', n1, n2, n3⟩ := m_addW hS a hw
      simp only [e1, e2, z_bs, o1, c_addW hS hw, zb2_s, hS.e2, if_neg (show ¬ nI nw = 6 from fun q => absurd (nI_inj (by omega) (by decide) (show nI nw = nI 6 from q)) (by omega)), n1, if_pos (nI_pos' (show nw < 2 ^ 31 by omega))]
      exact Okk.st rfl (h.live FrW n2 hn (by rw [n3]; exact hS.addW hw a))
    · simp only [e1, e2, z_bs, o1, c_addWno hS hw, zb2_s, hS.e2, if_pos (show nI nw = 6 by rw [show nw = 6 by omega]; rfl), if_neg (show ¬ (0 : Int32) ≤ -1 by decide)]
      exact fd1 h
  · simp only [e1, e2, z_bs, o0]; exact fd0 h
theorem s_wearerOf (h : Rel M N) (a b : Int32) : Okk (fX9_wearerOf M a b) (fX10_wearerOf N a b) := by
  obtain ⟨n, nb, nw, hn, hS⟩ := h.1
  have hwl := hS.nwl
  unfold fX9_wearerOf fX10_wearerOf
  rcases g_wearer hS a with ⟨x, hx, rfl, e1, e2⟩ | ⟨e1, e2⟩
  · have x6 : x < 6 := by omega
    rcases w_in b 3 (hi := 3) (by decide) (by decide) with ⟨j, hj, rfl, e3⟩ | ⟨h3, e3⟩
    · simp only [e1, e2, e3, z_bs, o1]
      rcases (show j = 0 ∨ j = 1 ∨ j = 2 ∨ j = 3 by omega) with rfl | rfl | rfl | rfl
      · rw [if_pos (show nI 0 = 0 from rfl), if_neg (show ¬ (1 : Int32) < nI 0 by decide), m_t x6 (by decide), ix6 x6, z_bs, z_bs]; exact Okk.rd h (hS.1.purse x6)
      · rw [if_neg (show ¬ nI 1 = 0 by decide), if_pos (show nI 1 = 1 from rfl), if_neg (show ¬ (1 : Int32) < nI 1 by decide), m_t x6 (by decide), ix6 x6, z_bs, z_bs]; exact Okk.rd h (hS.1.round x6)
      · rw [if_neg (show ¬ nI 2 = 0 by decide), if_neg (show ¬ nI 2 = 1 by decide), if_pos (show nI 2 = 2 from rfl), if_pos (show (1 : Int32) < nI 2 by decide), if_pos (show nI 2 = 2 from rfl), m_worn hS hx, ix6 x6, z_bs, z_bs]; exact Okk.rd h rfl
      · rw [if_neg (show ¬ nI 3 = 0 by decide), if_neg (show ¬ nI 3 = 1 by decide), if_neg (show ¬ nI 3 = 2 by decide), if_pos (show nI 3 = 3 from rfl), if_pos (show (1 : Int32) < nI 3 by decide), if_neg (show ¬ nI 3 = 2 by decide), c_house x6, m_place x6, z_bs, z_bs]; exact Okk.rd h (by rw [hS.1.n0, hS.1.round x6])
    · simp only [e1, e2, e3, z_bs, o1, o0, if_neg (show ¬ b = 0 from h3 0 (by decide)), if_neg (show ¬ b = 1 from h3 1 (by decide)), if_neg (show ¬ b = 2 from h3 2 (by decide)), if_neg (show ¬ b = 3 from h3 3 (by decide))]
      exact fd0 h
  · simp only [e1, e2, z_bs, o0]; exact fd0 h
theorem s_give (h : Rel M N) (a b d : Int32) : Okk (fX9_give M a b d) (fX10_give N a b d) := by
  obtain ⟨n, nb, nw, hn, hS⟩ := h.1
  have hwl := hS.nwl
  unfold fX9_give fX10_give
  rcases w_in b 1 (hi := 1) (by decide) (by decide) with ⟨j, hj, rfl, e5⟩ | ⟨h5, e5⟩
  · rcases (show j = 0 ∨ j = 1 by omega) with rfl | rfl
    · rcases g_wearer hS a with ⟨x, hx, rfl, e1, e2⟩ | ⟨e1, e2⟩
      · have x6 : x < 6 := by omega
        rcases g_in d (lo := 0) (hi := 9999) (lo' := 0) (hi' := 9999) (by decide) (by decide) with ⟨_, _, e3, e4⟩ | ⟨_, e3, e4⟩
        · simp only [e1, e2, e3, e4, e5, z_bs, zj_e, o1, if_pos (show nI 0 = 0 from rfl), ix6 x6, show fX10_wearerSpot (nI x) (nI 0) = some (nI (47 + 2 * x)) from m_ws0 x, m_becomes (show 47 + 2 * x < 59 by omega), zb2_s]
          exact Okk.st (hS.1.purse x6) (h.live (FrT.st (by omega) (by omega)) FrN.st hn (by rw [zst_1]; exact hS.purse x6 d))
        · simp only [e1, e2, e3, e4, e5, z_bs, zj_e, o1, o0, if_pos (show nI 0 = 0 from rfl), if_neg (show ¬ nI 0 = 1 by decide)]
          exact fd0 h
      · rcases g_in d (lo := 0) (hi := 9999) (lo' := 0) (hi' := 9999) (by decide) (by decide) with ⟨_, _, e3, e4⟩ | ⟨_, e3, e4⟩
        · simp only [e1, e2, e3, e4, e5, z_bs, zj_e, o1, o0, if_pos (show nI 0 = 0 from rfl)]; exact fd0 h
        · simp only [e1, e2, e3, e4, e5, z_bs, zj_e, o1, o0, if_pos (show nI 0 = 0 from rfl)]; exact fd0 h
    · have hd : ((∃ x, x < 6 ∧ d = nI x ∧ fX9_isHouse d = some 1 ∧ fX10_in d.toInt64 0 5 = some 1) ∨ (fX9_isHouse d = some 0 ∧ fX10_in d.toInt64 0 5 = some 0)) := by
        have e : fX9_isHouse d = some (if 0 ≤ d.toInt ∧ d.toInt ≤ 5 then 1 else 0) := c_lt6 d
        rw [e, m_in, Int32.toInt_toInt64, show (0 : Int64).toInt = 0 from rfl, show (5 : Int64).toInt = 5 from rfl]
        by_cases q : 0 ≤ d.toInt ∧ d.toInt ≤ 5
        · rw [if_pos q]; exact Or.inl ⟨d.toInt.toNat, by omega, nI_toNat q.1, rfl, rfl⟩
        · rw [if_neg q]; exact Or.inr ⟨rfl, rfl⟩
      rcases g_wearer hS a with ⟨x, hx, rfl, e1, e2⟩ | ⟨e1, e2⟩
      · have x6 : x < 6 := by omega
        rcases hd with ⟨y, hy, rfl, e3, e4⟩ | ⟨e3, e4⟩
        · simp only [e1, e2, e3, e4, e5, z_bs, zj_e, o1, if_neg (show ¬ nI 1 = 0 by decide), if_pos (show nI 1 = 1 from rfl), ix6 x6, show fX10_wearerSpot (nI x) (nI 1) = some (nI (47 + 2 * x + 1)) from m_ws1 x, m_becomes (show 47 + 2 * x + 1 < 59 by omega), zb2_s]
          exact Okk.st (hS.1.round x6) (h.live (FrT.st (by omega) (by omega)) FrN.st hn (by rw [zst_1]; exact hS.round x6 hy))
        · simp only [e1, e2, e3, e4, e5, z_bs, zj_e, o1, o0, if_neg (show ¬ nI 1 = 0 by decide), if_pos (show nI 1 = 1 from rfl)]
          exact fd0 h
      · rcases hd with ⟨y, hy, rfl, e3, e4⟩ | ⟨e3, e4⟩
        · simp only [e1, e2, e3, e4, e5, z_bs, zj_e, o1, o0, if_neg (show ¬ nI 1 = 0 by decide)]; exact fd0 h
        · simp only [e1, e2, e3, e4, e5, z_bs, zj_e, o1, o0, if_neg (show ¬ nI 1 = 0 by decide)]; exact fd0 h
  · rcases g_wearer hS a with ⟨x, hx, rfl, e1, e2⟩ | ⟨e1, e2⟩
    · simp only [e1, e2, e5, z_bs, zj_e, o1, o0, if_neg (show ¬ b = 0 from h5 0 (by decide)), if_neg (show ¬ b = 1 from h5 1 (by decide))]; exact fd0 h
    · simp only [e1, e2, e5, z_bs, zj_e, o1, o0]; exact fd0 h
theorem s_hire (h : Rel M N) (a b : Int32) : Okk (fX9_hire M a b) (fX10_hire N a b) := by
  obtain ⟨n, nb, nw, hn, hS⟩ := h.1
  have hwl := hS.nwl
  have hbl := hS.nbl
  unfold fX9_hire fX10_hire
  rcases g_wearer hS a with ⟨x, hx, rfl, e1, e2⟩ | ⟨e1, e2⟩
  · have x6 : x < 6 := by omega
    rcases g_beard hS b with ⟨y, hy, rfl, e3, e4⟩ | ⟨e3, e4⟩
    · have y8 : y < 8 := by omega
      have on : M.1 5 y = N.1 1 (15 + 4 * y + 3) := hS.1.on y8
      by_cases q1 : M.1 8 x = -1
      · by_cases q2 : N.1 1 (15 + 4 * y + 3) = -1
        · have hS' := hS.hire hx hy q1 q2
          obtain ⟨k, hk, ek⟩ := (hS'.B hy).1
          have ek' : (zst N 1 (15 + 4 * y + 3) (nI x)).1 1 (15 + 4 * y) = nI k := by rw [zst_1]; exact ek
          have cc := c_costOf hS' y8 hk ek
          have mc := m_cost (N := zst N 1 (15 + 4 * y + 3) (nI x)) y8 hk ek'
          have po : fX7_putOn M 1 (nI x) (nI y) = some (zst (zst M (1 + 7) x (nI y)) (1 + 4) y (nI x)) := by
            unfold fX7_putOn; simp only [ix6 x6, ix8 y8, z_bs]
          simp only [e1, e2, e3, e4, z_bs, o1, ix6 x6, ix8 y8, if_pos q1, m_worn hS hx, on, m_i3 y8, if_pos q2, po, cc, m_bs3, ix59 (show 15 + 4 * y + 3 < 59 by omega), mc]
          exact Okk.st (by rw [zst_1]) (h.live ((FrT.st (by omega) (by omega)).tr (FrT.st (by omega) (by omega))) FrN.st hn (by rw [zst_1]; exact hS'))
        · have wq : M.1 (1 + 7) x = -1 := q1
          simp only [e1, e2, e3, e4, z_bs, o1, ix6 x6, ix8 y8, if_pos q1, m_worn hS hx, on, m_i3 y8, if_neg q2, if_pos wq]
          exact fd4 h
      · have wq : ¬ M.1 (1 + 7) x = -1 := q1
        simp only [e1, e2, e3, e4, z_bs, o1, ix6 x6, if_neg q1, m_worn hS hx, if_neg wq]
        exact fd4 h
    · simp only [e1, e2, e3, e4, z_bs, o1, o0]; exact fd0 h
  · simp only [e1, e2, z_bs, o0]; exact fd0 h
theorem s_back (h : Rel M N) (b : Int32) : Okk (fX9_back M b) (fX10_back N b) := by
  obtain ⟨n, nb, nw, hn, hS⟩ := h.1
  have hwl := hS.nwl
  have hbl := hS.nbl
  unfold fX9_back fX10_back
  rcases g_beard hS b with ⟨y, hy, rfl, e3, e4⟩ | ⟨e3, e4⟩
  · have y8 : y < 8 := by omega
    have on : M.1 5 y = N.1 1 (15 + 4 * y + 3) := hS.1.on y8
    rcases (hS.B hy).2.2 with q | ⟨w, hw, q, q2⟩
    · simp only [e3, e4, z_bs, o1, ix8 y8, on, m_i3 y8, if_pos q]; exact fd4 h
    · have hne : ¬ N.1 1 (15 + 4 * y + 3) = -1 := by rw [q]; exact nI_m1 w (by omega)
      have to : fX7_takeOff M 1 (nI w) (nI y) = some (zst (zst M (1 + 7) w (-1)) (1 + 4) y (-1)) := by
        unfold fX7_takeOff; simp only [ix6 (show w < 6 by omega), ix8 y8, z_bs]
      simp only [e3, e4, z_bs, o1, ix8 y8, on, m_i3 y8, if_neg hne, m_bs3, m_becomes (show 15 + 4 * y + 3 < 59 by omega), zb2_s]
      rw [q, to, z_bs]
      exact Okk.st rfl (h.live ((FrT.st (by omega) (by omega)).tr (FrT.st (by omega) (by omega))) FrN.st hn (by rw [zst_1]; exact hS.off hw hy q2))
  · simp only [e3, e4, z_bs, o0]; exact fd0 h
theorem s_nights (h : Rel M N) (a : Int32) : Okk (fX9_nights M a) (fX10_nights N a) := by
  obtain ⟨n, nb, nw, hn, hS⟩ := h.1
  unfold fX9_nights fX10_nights
  rcases g_upto a (lo := 1) (hi := 100) (lo' := 1) (hi' := 100) (l := 1) (m := 100) (by decide) (by decide) (by decide) (by decide) with ⟨k, h1, h2, rfl, e1, e2⟩ | ⟨e1, e2⟩
  · obtain ⟨M', N', c1, c2, c3, c4, c5, c6⟩ := nightsG k hS (by omega) (by omega)
    by_cases q : n + k ≤ 99999
    · simp only [e1, e2, z_bs, o1, show M.1 1 1 = N.1 1 0 from hS.1.n0, hS.e0, nI_add, if_pos (show nI (n + k) ≤ 99999 from nI_le q (by decide)), c1, c2, c_purses c3, m_purses c3]
      exact Okk.st rfl (h.live c4 c5 q c3)
    · simp only [e1, e2, z_bs, o1, show M.1 1 1 = N.1 1 0 from hS.1.n0, hS.e0, nI_add, if_neg (show ¬ nI (n + k) ≤ 99999 from nI_ge (show 99999 < n + k by omega) (by omega))]
      exact fd4 h
  · simp only [e1, e2, z_bs, o0]; exact fd0 h
theorem s_count (h : Rel M N) (a : Int32) : Okk (fX9_count M a) (fX10_count N a) := by
  obtain ⟨n, nb, nw, hn, hS⟩ := h.1
  obtain ⟨L, l1, l2, l3, l4⟩ := h.2.2.2.1
  unfold fX9_count fX10_count
  by_cases h0 : a = 0
  · rw [if_pos h0, if_pos h0]; exact Okk.rd h hS.1.b1
  · rw [if_neg h0, if_neg h0]
    by_cases h1 : a = 1
    · rw [if_pos h1, if_pos h1]; exact Okk.rd h hS.1.w2
    · rw [if_neg h1, if_neg h1]
      by_cases h2 : a = 2
      · rw [if_pos h2, if_pos h2]; exact Okk.rd h (l2.trans l3.symm)
      · rw [if_neg h2, if_neg h2]
        by_cases h3 : a = 3
        · rw [if_pos h3, if_pos h3, c_hoards hS, m_hoards hS, z_bs, z_bs]; exact Okk.rd h rfl
        · rw [if_neg h3, if_neg h3]; exact fd0 h
theorem s_status (h : Rel M N) (a : Int32) : Okk (fX9_status M a) (fX10_status N a) := by
  have hF := h.2.2.1
  unfold fX9_status fX10_status
  rw [m_in, z_bs, Int32.toInt_toInt64, show (-1 : Int64).toInt = -1 from rfl, show (6 : Int64).toInt = 6 from rfl]
  by_cases h0 : a = -1
  · subst h0
    rw [if_pos rfl, if_pos (show -1 ≤ (-1 : Int32).toInt ∧ (-1 : Int32).toInt ≤ 6 by decide), o1, zj_e, zj_e]
    unfold lX9_status_9 lX10_status_25
    have e1 := loop2 (F := bX9_status_9 M fun x9 => some (x9, M)) (E := fun x9 => some (x9, M)) (m := 7) (fun i => aSum (fun j => N.1 5 j) i) (fun rc => by
      unfold bX9_status_9
      rw [if_pos (show (7 : Int32) ≤ nI 7 from nI_le (Nat.le_refl 7) (by decide))]) (fun rc i hi => by
      unfold bX9_status_9
      simp only [if_neg (show ¬ (7 : Int32) ≤ nI i from nI_ge hi (by decide)), zix_nI hi (show 7 < 2 ^ 31 by decide), z_bs, nI_1, hF i hi]
      rfl) 7 0 zFuel (by omega) (zF0 (by omega))
    have e2 := loop2 (F := bX10_status_25 N (-1) fun x9 => some (x9, N)) (E := fun x9 => some (x9, N)) (m := 7) (fun i => aSum (fun j => N.1 5 j) i) (fun rc => by
      unfold bX10_status_25
      rw [if_pos (show (7 : Int32) ≤ nI 7 from nI_le (Nat.le_refl 7) (by decide))]) (fun rc i hi => by
      unfold bX10_status_25
      simp only [if_neg (show ¬ (7 : Int32) ≤ nI i from nI_ge hi (by decide)), zix_nI hi (show 7 < 2 ^ 31 by decide), z_bs, zj_e, nI_1, if_pos (show (-1 : Int32) < 0 by decide)]
      rfl) 7 0 zFuel (by omega) (zF0 (by omega))
    exact Okk.mk e1 e2 h
  · rw [if_neg h0]
    by_cases q : -1 ≤ a.toInt ∧ a.toInt ≤ 6
    · have q0 : a.toInt ≠ -1 := fun z => h0 (Int32.toInt_inj.mp z)
      have e := nI_toNat (a := a) (by omega)
      generalize hj : a.toInt.toNat = j at e
      have j7 : j < 7 := by omega
      subst e
      rw [if_pos q, o1, zj_e, if_neg (nI_pos (show j < 2 ^ 31 by omega)), if_neg (show ¬ (7 : Int32) ≤ nI j from nI_ge j7 (by decide)), zix_nI j7 (by decide), z_bs]
      unfold lX10_status_25
      have e2 := loop2 (F := bX10_status_25 N (nI j) fun x9 => some (x9, N)) (E := fun x9 => some (x9, N)) (m := 7) (fun i => if j < i then N.1 5 j else 0) (fun rc => by
        unfold bX10_status_25
        rw [if_pos (show (7 : Int32) ≤ nI 7 from nI_le (Nat.le_refl 7) (by decide))]) (fun rc i hi => by
        unfold bX10_status_25
        by_cases c : i = j
        · subst c
          simp only [if_neg (show ¬ (7 : Int32) ≤ nI i from nI_ge hi (by decide)), zix_nI hi (show 7 < 2 ^ 31 by decide), z_bs, zj_e, nI_1, if_neg (nI_pos (show i < 2 ^ 31 by omega)), if_neg (show ¬ i < i by omega), if_pos (show i < i + 1 by omega), Int32.zero_add, if_true]
        · have c2 : ¬ nI i = nI j := fun z => c (nI_inj (by omega) (by omega) z)
          simp only [if_neg (show ¬ (7 : Int32) ≤ nI i from nI_ge hi (by decide)), z_bs, zj_e, nI_1, if_neg (nI_pos (show j < 2 ^ 31 by omega)), if_neg c2, Int32.add_zero]
          by_cases d : j < i
          · rw [if_pos d, if_pos (by omega)]
          · rw [if_neg d, if_neg (by omega)]) 7 0 zFuel (by omega) (zF0 (by omega))
      exact Okk.mk rfl (by rw [hF j j7]; exact e2.trans (by rw [if_pos j7])) h
    · have em : (7 : Int32).toInt = 7 := rfl
      have ez : (0 : Int32).toInt = 0 := rfl
      rw [if_neg q, o0]
      by_cases c : a < 0
      · rw [if_pos c]; exact fd0 h
      · rw [if_neg c, if_pos (show (7 : Int32) ≤ a by rw [i_lt] at c; rw [i_le]; omega)]; exact fd0 h
theorem s_wipe (h : Rel M N) : Okk (fX9_wipe M) (fX10_wipe N) := by
  obtain ⟨a, b, c, ⟨L, l1, l2, l3, l4⟩, e⟩ := h
  unfold fX9_wipe fX10_wipe
  simp only [z_bs]
  refine Okk.st (l2.trans l3.symm) ⟨a.mv (fun q q1 q2 => st_ne (by omega)) (fun j hj => by rw [st_ne (by decide)]), b.mv (by rw [st_ne (by decide)]) (fun q q1 q2 => st_ne (by omega)) (by rw [zst_g, if_neg (by decide)]) (fun j hj => by rw [st_ne (by decide)]), c.mv (st_ne (by decide)) (st_ne (by decide)), ⟨0, by omega, by rw [zst_g, if_pos ⟨rfl, rfl⟩]; rfl, by rw [zst_g, if_pos ⟨rfl, rfl⟩]; rfl, fun j hj => by omega⟩, e.mv (fun q q1 q2 => st_ne (by omega)) rfl (st_ne (by decide)) (st_ne (by decide)) rfl⟩
theorem s_tear (h : Rel M N) : Okk (fX9_tear M) (fX10_tear N) := by
  obtain ⟨a, b, c, d, e⟩ := h
  have key : Rel (zst M 0 3 0) (zst N 0 5 0) := by
    refine ⟨a.mv (fun q q1 q2 => st_ne (by omega)) (fun j hj => by rw [st_ne (by decide)]), ⟨by rw [zst_g, if_pos ⟨rfl, rfl⟩, zst_g, if_pos ⟨rfl, rfl⟩], Or.inl (by rw [zst_g, if_pos ⟨rfl, rfl⟩])⟩, c.mv (st_ne (by decide)) (st_ne (by decide)), d.mv (by rw [st_ne (by decide)]) (st_ne (by decide)) (by rw [zst_g, if_neg (by decide)]) (st_ne (by decide)), e.mv (fun q q1 q2 => st_ne (by omega)) rfl (st_ne (by decide)) (st_ne (by decide)) rfl⟩
  unfold fX9_tear fX10_tear
  simp only [z_bs, b.1]
  by_cases q : N.1 0 5 = 0
  · rw [if_pos q, if_pos q]; exact Okk.st rfl key
  · rw [if_neg q, if_neg q]; exact Okk.st rfl key
theorem s_image (h : Rel M N) : Okk (fX9_image M) (fX10_image N) := by
  obtain ⟨⟨n, nb, nw, hn, hS⟩, b, c, d, e⟩ := h
  obtain ⟨M1, m1, m2, m3⟩ := become_sim (t := 21) (t2 := 1) (by omega) hS
  unfold fX9_image
  rw [m1, z_bs, z_bs, m_image]
  have hs1 : Sim 1 n nb nw (zst M1 0 3 1) ((zst (cpN N 1 2 59) 0 5 1).1 1) := by
    rw [st_ne (by decide), cpN_ne (by decide)]
    exact hS.congrM (fun k k1 k2 => by rw [st_ne (by omega), m3.1 k (by omega)])
  refine Okk.st rfl ⟨⟨n, nb, nw, hn, hs1⟩, ⟨by rw [zst_g, if_pos ⟨rfl, rfl⟩, zst_g, if_pos ⟨rfl, rfl⟩], Or.inr ⟨by rw [zst_g, if_pos ⟨rfl, rfl⟩], n, nb, nw, hn, ?_⟩⟩, c.mv (by rw [st_ne (by decide), m3.1 33 (by omega)]) (by rw [st_ne (by decide), cpN_ne (by decide)]), d.mv (by rw [st_ne (by decide), m3.1 31 (by omega)]) (by rw [st_ne (by decide), m3.1 32 (by omega)]) (by rw [zst_g, if_neg (by decide), cpN_ne (by decide)]) (by rw [st_ne (by decide), cpN_ne (by decide)]), e.mv (fun q q1 q2 => by rw [st_ne (by omega), m3.1 q (by omega)]) (by rw [zst_g2, m3.2]) (by rw [st_ne (by decide), cpN_ne (by decide)]) (by rw [st_ne (by decide), cpN_ne (by decide)]) rfl⟩
  rw [st_ne (by decide)]
  exact (m2.congrM (fun k k1 k2 => by rw [st_ne (by omega)])).congr (fun j hj => cpN_at hj)
theorem s_undo (h : Rel M N) : Okk (fX9_undo M) (fX10_undo N) := by
  obtain ⟨b1, b2⟩ := h.2.1
  rcases b2 with b2 | ⟨b2, n, nb, nw, hn, hS⟩
  · unfold fX9_undo fX10_undo
    rw [b1, if_pos b2, if_pos b2]; exact fd3 h
  · obtain ⟨M1, m1, m2, m3⟩ := become_sim (t := 1) (t2 := 21) (by omega) hS
    have hne : ¬ N.1 0 5 = 0 := by rw [b2]; decide
    rw [m_undo hne]
    unfold fX9_undo
    rw [b1, if_neg hne, m1, z_bs]
    refine Okk.st m2.1.b1 ?_
    obtain ⟨a, b, c, d, e⟩ := h
    refine ⟨⟨n, nb, nw, hn, m2.congr (fun j hj => cpN_at hj)⟩, b.mv (by rw [m3.1 0 (by omega)]) (fun k k1 k2 => m3.1 k (by omega)) (by rw [cpN_ne (by decide)]) (fun j hj => by rw [cpN_ne (by decide)]), c.mv (m3.1 33 (by omega)) (cpN_ne (by decide)), d.mv (by rw [m3.1 31 (by omega)]) (m3.1 32 (by omega)) (by rw [cpN_ne (by decide)]) (cpN_ne (by decide)), e.mv (fun q q1 q2 => m3.1 q (by omega)) m3.2 (cpN_ne (by decide)) (cpN_ne (by decide)) rfl⟩
end TD
