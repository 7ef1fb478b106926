/-! the simple calls -/
section TC
variable {M N : zM}
theorem m_becomes {p : Nat} (hp : p < 59) (v : Int32) : fX10_becomes N (nI p) v = some (N.1 1 p, zst N 1 p v) := by
  unfold fX10_becomes
  simp only [ix59 hp, z_bs]
theorem Okk.mk {α : Type} {x y : Option (α × zM)} {r : α} {M' N' : zM} (h1 : x = some (r, M')) (h2 : y = some (r, N')) (h3 : Rel M' N') : Okk x y := ⟨r, M', N', h1, h2, h3⟩
theorem Okk.rd {r r' : Int32} (h : Rel M N) (e : r = r') : Okk (some (r, M)) (some (r', N)) := ⟨r, M, N, rfl, by rw [e], h⟩
theorem Okk.st {r r' : Int32} {M' N' : zM} (e : r = r') (h : Rel M' N') : Okk (some (r, M')) (some (r', N')) := ⟨r, M', N', rfl, by rw [e], h⟩
theorem s_mood (h : Rel M N) (a b : Int32) : Okk (fX9_mood M a b) (fX10_mood N a b) := by
  obtain ⟨n, nb, nw, hn, hS⟩ := h.1
  unfold fX9_mood fX10_mood
  rcases g_house a with ⟨x, hx, rfl, e1, e2⟩ | ⟨e1, e2⟩
  · rcases g_in b (lo := -50) (hi := 50) (lo' := -50) (hi' := 50) (by decide) (by decide) with ⟨_, _, e3, e4⟩ | ⟨_, e3, e4⟩
    · simp only [e1, e2, e3, e4, z_bs, o1, ix6 hx, m_hs1, m_becomes (show 3 + 2 * x + 1 < 59 by omega), zb2_s]
      exact Okk.st (hS.1.mood hx) (h.live (FrT.st (by omega) (by omega)) FrN.st hn (by rw [zst_1]; exact hS.mood hx b))
    · simp only [e1, e2, e3, e4, z_bs, o1, o0]; exact fd0 h
  · simp only [e1, e2, z_bs, o0]; exact fd0 h
theorem s_recall (h : Rel M N) (a b : Int32) : Okk (fX9_recall M a b) (fX10_recall N a b) := by
  obtain ⟨n, nb, nw, hn, hS⟩ := h.1
  unfold fX9_recall fX10_recall
  rcases g_house a with ⟨x, hx, rfl, e1, e2⟩ | ⟨e1, e2⟩
  · by_cases hb : b = -1
    · simp only [e1, e2, z_bs, zj_e, o1, if_pos hb, ix6 hx, m_hs0, m_becomes (show 3 + 2 * x < 59 by omega), zb2_s]
      exact Okk.st (hS.1.known hx) (h.live (FrT.st (by omega) (by omega)) FrN.st hn (by rw [zst_1]; exact hS.known hx b))
    · rcases g_beard hS b with ⟨y, hy, rfl, e3, e4⟩ | ⟨e3, e4⟩
      · simp only [e1, e2, e3, e4, z_bs, zj_e, o1, if_neg hb, ix6 hx, m_hs0, m_becomes (show 3 + 2 * x < 59 by omega), zb2_s]
        exact Okk.st (hS.1.known hx) (h.live (FrT.st (by omega) (by omega)) FrN.st hn (by rw [zst_1]; exact hS.known hx _))
      · simp only [e1, e2, e3, e4, z_bs, zj_e, o1, o0, if_neg hb]; exact fd0 h
  · by_cases hb : b = -1
    · simp only [e1, e2, z_bs, zj_e, o0, if_pos hb]; exact fd0 h
    · rcases g_beard hS b with ⟨y, hy, rfl, e3, e4⟩ | ⟨e3, e4⟩
      · simp only [e1, e2, e3, e4, z_bs, zj_e, o1, o0, if_neg hb]; exact fd0 h
      · simp only [e1, e2, e3, e4, z_bs, zj_e, o0, if_neg hb]; exact fd0 h
/-- which of 0, 1 .. an int is -/
theorem w_in (a : Int32) (m : Nat) {hi : Int64} (hm : m < 2 ^ 30) (e : hi.toInt = m) : (∃ j, j ≤ m ∧ a = nI j ∧ fX10_in a.toInt64 0 hi = some 1) ∨ ((∀ j, j ≤ m → ¬ a = nI j) ∧ fX10_in a.toInt64 0 hi = some 0) := by
  rw [m_in, Int32.toInt_toInt64, e, show (0 : Int64).toInt = 0 from rfl]
  by_cases h : 0 ≤ a.toInt ∧ a.toInt ≤ m
  · rw [if_pos h]; exact Or.inl ⟨a.toInt.toNat, by omega, nI_toNat h.1, rfl⟩
  · rw [if_neg h]
    refine Or.inr ⟨fun j hj q => h ?_, rfl⟩
    rw [q, nI_toInt (by omega)]; omega
theorem s_houseOf (h : Rel M N) (a b : Int32) : Okk (fX9_houseOf M a b) (fX10_houseOf N a b) := by
  obtain ⟨n, nb, nw, hn, hS⟩ := h.1
  unfold fX9_houseOf fX10_houseOf
  rcases g_house a with ⟨x, hx, rfl, e1, e2⟩ | ⟨e1, e2⟩
  · rcases w_in b 2 (hi := 2) (by decide) (by decide) with ⟨j, hj, rfl, e3⟩ | ⟨h3, e3⟩
    · simp only [e1, e2, e3, z_bs, o1]
      rcases (show j = 0 ∨ j = 1 ∨ j = 2 by omega) with rfl | rfl | rfl
      · simp only [if_pos (show nI 0 = 0 from rfl), ix6 hx, m_h1 hx, z_bs]
        exact Okk.rd h (by rw [show M.1 9 x = _ from hS.1.mood hx])
      · simp only [if_neg (show ¬ nI 1 = 0 by decide), if_pos (show nI 1 = 1 from rfl), ix6 hx, m_h0 hx, z_bs]
        exact Okk.rd h (hS.1.known hx)
      · simp only [if_neg (show ¬ nI 2 = 0 by decide), if_neg (show ¬ nI 2 = 1 by decide), if_pos (show nI 2 = 2 from rfl), c_guests hS, m_goers hS, z_bs]
        exact Okk.rd h rfl
    · simp only [e1, e2, e3, z_bs, o1, o0, if_neg (show ¬ b = 0 from h3 0 (by decide)), if_neg (show ¬ b = 1 from h3 1 (by decide)), if_neg (show ¬ b = 2 from h3 2 (by decide))]
      exact fd0 h
  · simp only [e1, e2, z_bs, o0]; exact fd0 h
theorem s_now (h : Rel M N) (a : Int32) : Okk (fX9_now M a) (fX10_now N a) := by
  obtain ⟨n, nb, nw, hn, hS⟩ := h.1
  unfold fX9_now fX10_now
  by_cases h0 : a = 0
  · rw [if_pos h0, if_pos h0]; exact Okk.rd h hS.1.n0
  · rw [if_neg h0, if_neg h0]
    by_cases h1 : a = 1
    · rw [if_pos h1, if_pos h1, c_mon, m_mon, z_bs, z_bs, hS.1.n0]
      by_cases q : aMon (N.1 1 0) = 0
      · rw [if_pos q, if_pos q]; exact Okk.rd h rfl
      · rw [if_neg q, if_neg q]; exact Okk.rd h rfl
    · rw [if_neg h1, if_neg h1]
      by_cases h2 : a = 2
      · rw [if_pos h2, if_pos h2, c_inShop hS, m_inShop hS, z_bs, z_bs]; exact Okk.rd h rfl
      · rw [if_neg h2, if_neg h2]
        by_cases h3 : a = 3
        · rw [if_pos h3, if_pos h3, c_inBeards hS, m_bearded hS, z_bs, z_bs]; exact Okk.rd h (beards_eq hS)
        · rw [if_neg h3, if_neg h3]
          by_cases h4 : a = 4
          · rw [if_pos h4, if_pos h4, c_purses hS, m_purses hS, z_bs, z_bs]; exact Okk.rd h rfl
          · rw [if_neg h4, if_neg h4]; exact fd0 h
theorem c_addB {t n nb nw : Nat} {s : Nat → Int32} (hS : Sim t n nb nw M s) {k : Nat} (hb : nb < 8) : fX7_addBeard M t (nI k) = some (nI nb, zst (zst (zst (zst (zst M t 2 (nI (nb + 1))) (t + 1) nb (nI k)) (t + 2) nb 10) (t + 3) nb 0) (t + 4) nb (-1)) := by
  unfold fX7_addBeard
  simp only [hS.1.b1, hS.e1, if_pos (show nI nb < 8 from nI_lt hb (by decide)), z_bs, ix8 hb, nI_1]
theorem c_addBno {t n nb nw : Nat} {s : Nat → Int32} (hS : Sim t n nb nw M s) {k : Int32} (hb : ¬ nb < 8) : fX7_addBeard M t k = some (-1, M) := by
  unfold fX7_addBeard
  rw [hS.1.b1, hS.e1, if_neg (show ¬ nI nb < 8 from nI_nlt (a := nb) (b := 8) (by omega) (by have := hS.nbl; omega))]
theorem m_addB {t n nb nw : Nat} (hS : Sim t n nb nw M (N.1 1)) {k : Nat} (hb : nb < 8) : ∃ N', fX10_addsBeard N (nI k) = some (nI nb, N') ∧ FrN N N' ∧ N'.1 1 = upd (upd (upd (upd (upd (N.1 1) 1 (nI (nb + 1))) (15 + 4 * nb) (nI k)) (15 + 4 * nb + 1) 10) (15 + 4 * nb + 2) 0) (15 + 4 * nb + 3) (-1) := by
  unfold fX10_addsBeard
  simp only [hS.e1, z_bs, nI_1, m_bs0, m_bs1, m_bs2, m_bs3, ix59 (show 15 + 4 * nb < 59 by omega), ix59 (show 15 + 4 * nb + 1 < 59 by omega), ix59 (show 15 + 4 * nb + 2 < 59 by omega), ix59 (show 15 + 4 * nb + 3 < 59 by omega)]
  exact ⟨_, rfl, FrN.st.tr (FrN.st.tr (FrN.st.tr (FrN.st.tr FrN.st))), by rw [zst_1, zst_1, zst_1, zst_1, zst_1]⟩
theorem FrB {t nb : Nat} {v1 v2 v3 v4 v5 : Int32} : FrT t M (zst (zst (zst (zst (zst M t 2 v1) (t + 1) nb v2) (t + 2) nb v3) (t + 3) nb v4) (t + 4) nb v5) :=
  (FrT.st (by omega) (by omega)).tr ((FrT.st (by omega) (by omega)).tr ((FrT.st (by omega) (by omega)).tr ((FrT.st (by omega) (by omega)).tr (FrT.st (by omega) (by omega)))))
theorem s_beard (h : Rel M N) (a : Int32) : Okk (fX9_beard M a) (fX10_beard N a) := by
  obtain ⟨n, nb, nw, hn, hS⟩ := h.1
  have hbl := hS.nbl
  unfold fX9_beard fX10_beard
  rcases g_kind a with ⟨k, hk, rfl, e1, e2⟩ | ⟨e1, e2⟩
  · by_cases hb : nb < 8
    · obtain ⟨N', n1, n2, n3⟩ := m_addB hS (k := k) hb
      simp only [e1, e2, z_bs, o1, c_addB hS hb, zb2_s, hS.e1, if_neg (show ¬ nI nb = 8 from fun q => absurd (nI_inj (by omega) (by decide) (show nI nb = nI 8 from q)) (by omega)), n1, if_pos (nI_pos' (show nb < 2 ^ 31 by omega))]
      exact Okk.st rfl (h.live FrB n2 hn (by rw [n3]; exact hS.addB hb hk))
    · simp only [e1, e2, z_bs, o1, c_addBno hS hb, zb2_s, hS.e1, if_pos (show nI nb = 8 by rw [show nb = 8 by omega]; rfl), if_neg (show ¬ (0 : Int32) ≤ -1 by decide)]
      exact fd1 h
  · simp only [e1, e2, z_bs, o0]; exact fd0 h
theorem c_costOf {t n nb nw : Nat} {s : Nat → Int32} (hS : Sim t n nb nw M s) {b k : Nat} (hb : b < 8) (hk : k < 6) (ek : s (15 + 4 * b) = nI k) : fX7_costOf M t (nI b) = some (aCost k (s (15 + 4 * b + 1)) (s (15 + 4 * b + 2))) := by
  unfold fX7_costOf
  simp only [ix8 hb, z_bs, hS.1.kind hb, ek, ix6 hk, hS.1.fame hb, hS.1.hoard hb, c_cost hk]
theorem c_gainOf {t n nb nw : Nat} {s : Nat → Int32} (hS : Sim t n nb nw M s) {b k : Nat} (hb : b < 8) (hk : k < 6) (ek : s (15 + 4 * b) = nI k) : fX7_gainOf M t (nI b) = some (aGains k (aMon (s 0))) := by
  unfold fX7_gainOf
  simp only [ix8 hb, z_bs, hS.1.kind hb, ek, ix6 hk, c_mon, hS.1.n0, c_gains hk]
theorem c_leavingOf {t n nb nw : Nat} {s : Nat → Int32} (hS : Sim t n nb nw M s) {b k : Nat} (hb : b < 8) (hk : k < 6) (ek : s (15 + 4 * b) = nI k) : fX7_leavingOf M t (nI b) = some (aLeaves k (s (15 + 4 * b + 1))) := by
  unfold fX7_leavingOf
  simp only [ix8 hb, z_bs, hS.1.kind hb, ek, ix6 hk, hS.1.fame hb, c_leaves hk]
theorem c_meetingAt {t n nb nw : Nat} {s : Nat → Int32} (hS : Sim t n nb nw M s) {b k x : Nat} (hb : b < 8) (hx : x < 6) (hk : k < 6) (ek : s (15 + 4 * b) = nI k) : fX7_meetingAt M t (nI b) (nI x) = some (aMeets k (s (3 + 2 * x + 1)) (if s (3 + 2 * x) = nI b then s (3 + 2 * x + 1) / 10 else 0) (s (15 + 4 * b + 1))) := by
  unfold fX7_meetingAt
  simp only [ix8 hb, ix6 hx, z_bs, hS.1.kind hb, ek, ix6 hk, hS.1.known hx, hS.1.mood hx, hS.1.fame hb, c_meets hk]
  by_cases q : s (3 + 2 * x) = nI b
  · rw [if_pos q, if_pos q]; rfl
  · rw [if_neg q, if_neg q]; rfl
theorem s_of (h : Rel M N) (a b : Int32) : Okk (fX9_of M a b) (fX10_of N a b) := by
  obtain ⟨n, nb, nw, hn, hS⟩ := h.1
  have hbl := hS.nbl
  unfold fX9_of fX10_of
  rcases g_beard hS a with ⟨x, hx, rfl, e1, e2⟩ | ⟨e1, e2⟩
  · obtain ⟨k, hk, ek⟩ := (hS.B hx).1
    have x8 : x < 8 := by omega
    rcases w_in b 5 (hi := 5) (by decide) (by decide) with ⟨j, hj, rfl, e3⟩ | ⟨h3, e3⟩
    · simp only [e1, e2, e3, z_bs, o1]
      rcases (show j = 0 ∨ j = 1 ∨ j = 2 ∨ j = 3 ∨ j = 4 ∨ j = 5 by omega) with rfl | rfl | rfl | rfl | rfl | rfl
      · rw [if_pos (show nI 0 = 0 from rfl), if_neg (show ¬ (3 : Int32) < nI 0 by decide), m_i x8 (by decide), ix8 x8, z_bs, z_bs]; exact Okk.rd h (hS.1.kind x8)
      · rw [if_neg (show ¬ nI 1 = 0 by decide), if_pos (show nI 1 = 1 from rfl), if_neg (show ¬ (3 : Int32) < nI 1 by decide), m_i x8 (by decide), ix8 x8, z_bs, z_bs]; exact Okk.rd h (hS.1.fame x8)
      · rw [if_neg (show ¬ nI 2 = 0 by decide), if_neg (show ¬ nI 2 = 1 by decide), if_pos (show nI 2 = 2 from rfl), if_neg (show ¬ (3 : Int32) < nI 2 by decide), m_i x8 (by decide), ix8 x8, z_bs, z_bs]; exact Okk.rd h (hS.1.hoard x8)
      · rw [if_neg (show ¬ nI 3 = 0 by decide), if_neg (show ¬ nI 3 = 1 by decide), if_neg (show ¬ nI 3 = 2 by decide), if_pos (show nI 3 = 3 from rfl), if_neg (show ¬ (3 : Int32) < nI 3 by decide), m_i x8 (by decide), ix8 x8, z_bs, z_bs]; exact Okk.rd h (hS.1.on x8)
      · rw [if_neg (show ¬ nI 4 = 0 by decide), if_neg (show ¬ nI 4 = 1 by decide), if_neg (show ¬ nI 4 = 2 by decide), if_neg (show ¬ nI 4 = 3 by decide), if_pos (show nI 4 = 4 from rfl), if_pos (show (3 : Int32) < nI 4 by decide), if_pos (show nI 4 = 4 from rfl), c_costOf hS x8 hk ek, m_cost x8 hk ek, z_bs, z_bs]; exact Okk.rd h rfl
      · rw [if_neg (show ¬ nI 5 = 0 by decide), if_neg (show ¬ nI 5 = 1 by decide), if_neg (show ¬ nI 5 = 2 by decide), if_neg (show ¬ nI 5 = 3 by decide), if_neg (show ¬ nI 5 = 4 by decide), if_pos (show nI 5 = 5 from rfl), if_pos (show (3 : Int32) < nI 5 by decide), if_neg (show ¬ nI 5 = 4 by decide), c_gainOf hS x8 hk ek, m_gains x8 hk ek, z_bs, z_bs]; exact Okk.rd h rfl
    · simp only [e1, e2, e3, z_bs, o1, o0, if_neg (show ¬ b = 0 from h3 0 (by decide)), if_neg (show ¬ b = 1 from h3 1 (by decide)), if_neg (show ¬ b = 2 from h3 2 (by decide)), if_neg (show ¬ b = 3 from h3 3 (by decide)), if_neg (show ¬ b = 4 from h3 4 (by decide)), if_neg (show ¬ b = 5 from h3 5 (by decide))]
      exact fd0 h
  · simp only [e1, e2, z_bs, o0]; exact fd0 h
theorem s_can (h : Rel M N) (a b d : Int32) : Okk (fX9_can M a b d) (fX10_can N a b d) := by
  obtain ⟨n, nb, nw, hn, hS⟩ := h.1
  have hbl := hS.nbl
  unfold fX9_can fX10_can
  rcases g_beard hS a with ⟨x, hx, rfl, e1, e2⟩ | ⟨e1, e2⟩
  · obtain ⟨k, hk, ek⟩ := (hS.B hx).1
    have x8 : x < 8 := by omega
    rcases g_house b with ⟨y, hy, rfl, e3, e4⟩ | ⟨e3, e4⟩
    · rcases w_in d 1 (hi := 1) (by decide) (by decide) with ⟨j, hj, rfl, e5⟩ | ⟨h5, e5⟩
      · simp only [e1, e2, e3, e4, e5, z_bs, o1]
        rcases (show j = 0 ∨ j = 1 by omega) with rfl | rfl
        · rw [if_pos (show nI 0 = 0 from rfl), if_pos (show nI 0 = 0 from rfl), c_meetingAt hS x8 hy hk ek, m_meets x8 hy hk ek, z_bs, z_bs]; exact Okk.rd h rfl
        · rw [if_neg (show ¬ nI 1 = 0 by decide), if_pos (show nI 1 = 1 from rfl), if_neg (show ¬ nI 1 = 0 by decide), c_leavingOf hS x8 hk ek, m_leaves x8 hk ek, z_bs, z_bs]; exact Okk.rd h rfl
      · simp only [e1, e2, e3, e4, e5, z_bs, o1, o0, if_neg (show ¬ d = 0 from h5 0 (by decide)), if_neg (show ¬ d = 1 from h5 1 (by decide))]
        exact fd0 h
    · simp only [e1, e2, e3, e4, z_bs, o1, o0]; exact fd0 h
  · simp only [e1, e2, z_bs, o0]; exact fd0 h
theorem s_turn (h : Rel M N) (a b : Int32) : Okk (fX9_turn M a b) (fX10_turn N a b) := by
  obtain ⟨n, nb, nw, hn, hS⟩ := h.1
  have hbl := hS.nbl
  unfold fX9_turn fX10_turn
  rcases g_beard hS a with ⟨x, hx, rfl, e1, e2⟩ | ⟨e1, e2⟩
  · have x8 : x < 8 := by omega
    rcases g_kind b with ⟨k, hk, rfl, e3, e4⟩ | ⟨e3, e4⟩
    · simp only [e1, e2, e3, e4, z_bs, o1, ix8 x8, m_bs0, m_becomes (show 15 + 4 * x < 59 by omega), zb2_s]
      exact Okk.st (hS.1.kind x8) (h.live (FrT.st (by omega) (by omega)) FrN.st hn (by rw [zst_1]; exact hS.kind x8 hk))
    · simp only [e1, e2, e3, e4, z_bs, o1, o0]; exact fd0 h
  · simp only [e1, e2, z_bs, o0]; exact fd0 h
theorem s_as (h : Rel M N) (a b : Int32) : Okk (fX9_as M a b) (fX10_as N a b) := by
  obtain ⟨n, nb, nw, hn, hS⟩ := h.1
  have hbl := hS.nbl
  unfold fX9_as fX10_as
  rcases g_beard hS a with ⟨x, hx, rfl, e1, e2⟩ | ⟨e1, e2⟩
  · have x8 : x < 8 := by omega
    obtain ⟨k, hk, ek⟩ := (hS.B hx).1
    rcases g_kind b with ⟨c, hc, rfl, e3, e4⟩ | ⟨e3, e4⟩
    · have u := under_eq k hk c hc
      have u1 : fX9_isUnder M (nI k) (nI c) = fX10_isUnder (nI k) (nI c) := u.1
      have kk : M.1 2 x = nI k := (hS.1.kind x8).trans ek
      simp only [e1, e2, e3, e4, z_bs, o1, ix8 x8, kk, m_i0 x8, ek, u1]
      rcases u.2 with u2 | u2
      · simp only [u2, z_bs, o0]; exact fd2 h
      · simp only [u2, z_bs, o1, m_i1 x8]; exact Okk.rd h (hS.1.fame x8)
    · simp only [e1, e2, e3, e4, z_bs, o1, o0]; exact fd0 h
  · simp only [e1, e2, z_bs, o0]; exact fd0 h
end TC
