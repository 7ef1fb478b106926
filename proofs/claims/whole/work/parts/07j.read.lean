/-! feed, book, read -/
section TJ
variable {M N M' N' : zM}
theorem byte_eq (a : Int32) : ∀ c, c < 4 → (a.toUInt32 >>> (((8 : Int32) * nI c).toUInt32 &&& Int32.toUInt32 31)).toInt32 &&& (255 : Int32) = (a >>> (((8 : Int32) * nI c) &&& 31)) &&& (255 : Int32) := by
  have key : ∀ (s : Int32) (k : Nat), ((s.toUInt32 &&& Int32.toUInt32 31).toBitVec % 32).toNat = k → ((s &&& 31).toBitVec.smod 32).toNat = k → (k = 0 ∨ k = 8 ∨ k = 16 ∨ k = 24) → (a.toUInt32 >>> (s.toUInt32 &&& Int32.toUInt32 31)).toInt32 &&& (255 : Int32) = (a >>> (s &&& 31)) &&& (255 : Int32) := by
    intro s k h1 h2 hk
    rw [pk_and _ 8 (by decide), pk_and _ 8 (by decide), pk_ushr a s k h1]
    have e2 := pk_shr a (s &&& 31) k h2
    have e3 : (a >>> (s &&& 31)).toInt = (a >>> (s &&& 31)).toBitVec.toInt := rfl
    have e4 : a.toInt = a.toBitVec.toInt := rfl
    rw [e3, e4, BitVec.toInt_eq_toNat_cond, BitVec.toInt_eq_toNat_cond, Int.shiftRight_eq_div_pow] at e2
    generalize (a >>> (s &&& 31)).toBitVec.toNat = y at e2 ⊢
    have hx : a.toBitVec.toNat < 2 ^ 32 := a.toBitVec.isLt
    generalize a.toBitVec.toNat = x at e2 hx ⊢
    congr 1
    rcases hk with rfl | rfl | rfl | rfl <;> split at e2 <;> split at e2 <;> omega
  intro c hc
  rcases (show c = 0 ∨ c = 1 ∨ c = 2 ∨ c = 3 by omega) with rfl | rfl | rfl | rfl
  · exact key _ 0 (by decide) (by decide) (by decide)
  · exact key _ 8 (by decide) (by decide) (by decide)
  · exact key _ 16 (by decide) (by decide) (by decide)
  · exact key _ 24 (by decide) (by decide) (by decide)
theorem Rel.tape (h : Rel M N) {L : Nat} (hL : L < 120) (e1 : M.1 31 2 = nI L) (e2 : N.1 0 7 = nI L) (e3 : ∀ j, j < L → M.1 32 j = N.1 6 j) (v : Int32) : Rel (zst (zst M 32 L v) 31 2 (nI (L + 1))) (zst (zst N 6 L v) 0 7 (nI (L + 1))) := by
  obtain ⟨a, b, c, d, e⟩ := h
  refine ⟨a.mv (fun q q1 q2 => by rw [st_ne (by omega), st_ne (by omega)]) (fun j hj => by rw [st_ne (by decide), st_ne (by decide)]), b.mv (by rw [st_ne (by decide), st_ne (by decide)]) (fun q q1 q2 => by rw [st_ne (by omega), st_ne (by omega)]) (by rw [zst_g, if_neg (by decide), st_ne (by decide)]) (fun j hj => by rw [st_ne (by decide), st_ne (by decide)]), c.mv (by rw [st_ne (by decide), st_ne (by decide)]) (by rw [st_ne (by decide), st_ne (by decide)]), ⟨L + 1, by omega, by rw [zst_g, if_pos ⟨rfl, rfl⟩], by rw [zst_g, if_pos ⟨rfl, rfl⟩], fun j hj => ?_⟩, e.mv (fun q q1 q2 => by rw [st_ne (by omega), st_ne (by omega)]) rfl (by rw [st_ne (by decide), st_ne (by decide)]) (by rw [st_ne (by decide), st_ne (by decide)]) rfl⟩
  rw [st_ne (show 32 ≠ 31 by decide), st_ne (show 6 ≠ 0 by decide), zst_g, zst_g]
  by_cases q : j = L
  · rw [if_pos ⟨rfl, q⟩, if_pos ⟨rfl, q⟩]
  · rw [if_neg (fun z => q z.2), if_neg (fun z => q z.2)]; exact e3 j (by omega)
theorem feedL {a : Int32} {E E' : zM → Option (Int32 × zM)} : ∀ (c f f' L : Nat) (M N : zM) (x : Int32), c ≤ 4 → c < f → c < f' → x = nI c - 1 → L + c ≤ 120 → Rel M N → M.1 31 2 = nI L → N.1 0 7 = nI L → (∀ j, j < L → M.1 32 j = N.1 6 j) →
    ∃ M' N', Rel M' N' ∧ M'.1 31 2 = nI (L + c) ∧ N'.1 0 7 = nI (L + c) ∧ zL2 (bX9_feed_39 a E) f M x = E M' ∧ zL2 (bX10_feed_41 a E') f' N x = E' N' := by
  intro c
  induction c with
  | zero =>
    intro f f' L M N x hc hf hf' hx hL h e1 e2 e3
    obtain ⟨f, rfl⟩ : ∃ g, f = g + 1 := ⟨f - 1, by omega⟩
    obtain ⟨f', rfl⟩ : ∃ g, f' = g + 1 := ⟨f' - 1, by omega⟩
    subst hx
    refine ⟨M, N, h, e1, e2, ?_, ?_⟩
    · rw [zL2_e]; unfold bX9_feed_39; rw [if_pos (by decide)]
    · rw [zL2_e]; unfold bX10_feed_41; rw [if_pos (by decide)]
  | succ c ih =>
    intro f f' L M N x hc hf hf' hx hL h e1 e2 e3
    obtain ⟨f, rfl⟩ : ∃ g, f = g + 1 := ⟨f - 1, by omega⟩
    obtain ⟨f', rfl⟩ : ∃ g, f' = g + 1 := ⟨f' - 1, by omega⟩
    rw [nI_pred] at hx
    subst hx
    have hb := byte_eq a c (by omega)
    have h' := h.tape (show L < 120 by omega) e1 e2 e3 ((a >>> (((8 : Int32) * nI c) &&& 31)) &&& (255 : Int32))
    have hstep : nI c + (-1) = nI c - 1 := by rw [Int32.sub_eq_add_neg]
    obtain ⟨Ma, Na, a1, a2, a3, a4, a5⟩ := ih f f' (L + 1) _ _ (nI c - 1) (by omega) (by omega) (by omega) rfl (by omega) h' (by rw [zst_g, if_pos ⟨rfl, rfl⟩]) (by rw [zst_g, if_pos ⟨rfl, rfl⟩]) (fun j hj => by
      rw [st_ne (show 32 ≠ 31 by decide), st_ne (show 6 ≠ 0 by decide), zst_g, zst_g]
      by_cases q : j = L
      · rw [if_pos ⟨rfl, q⟩, if_pos ⟨rfl, q⟩]
      · rw [if_neg (fun z => q z.2), if_neg (fun z => q z.2)]; exact e3 j (by omega))
    refine ⟨Ma, Na, a1, by rw [a2]; congr 1; omega, by rw [a3]; congr 1; omega, ?_, ?_⟩
    · rw [zL2_e, ← a4]
      generalize zL2 (bX9_feed_39 a E) f = rc
      unfold bX9_feed_39 fX6_append
      simp only [if_neg (nI_pos (show c < 2 ^ 31 by omega)), e1, if_neg (show ¬ (120 : Int32) ≤ nI L from nI_ge (show L < 120 by omega) (by decide)), zix_nI (show L < 120 by omega) (show 120 < 2 ^ 31 by decide), z_bs, hb, st_ne (show 31 ≠ 32 by decide), nI_1, hstep]
    · rw [zL2_e, ← a5]
      generalize zL2 (bX10_feed_41 a E') f' = rc
      unfold bX10_feed_41
      simp only [if_neg (nI_pos (show c < 2 ^ 31 by omega)), e2, zix_nI (show L < 120 by omega) (show 120 < 2 ^ 31 by decide), z_bs, st_ne (show 0 ≠ 6 by decide), nI_1, hstep]
theorem s_feed (h : Rel M N) (a b : Int32) : Okk (fX9_feed M a b) (fX10_feed N a b) := by
  obtain ⟨L, l1, l2, l3, l4⟩ := h.2.2.2.1
  unfold fX9_feed fX10_feed
  rcases g_upto b (lo := 1) (hi := 4) (lo' := 1) (hi' := 4) (l := 1) (m := 4) (by decide) (by decide) (by decide) (by decide) with ⟨k, h1, h2, rfl, e1, e2⟩ | ⟨e1, e2⟩
  · by_cases q : L + k ≤ 120
    · obtain ⟨M', N', c1, c2, c3, c4, c5⟩ := feedL (a := a) (E := fun M5 => some ((M5.1 31 2), M5)) (E' := fun M5 => some ((M5.1 0 7), M5)) k zFuel zFuel L M N (nI k - 1) h2 (zF0 (by omega)) (zF0 (by omega)) rfl q h l2 l3 l4
      have e3 : lX9_feed_39 a (fun M5 => some ((M5.1 31 2), M5)) zFuel M (nI k - 1) = some (M'.1 31 2, M') := c4
      have e4 : lX10_feed_41 a (fun M5 => some ((M5.1 0 7), M5)) zFuel N (nI k - 1) = some (N'.1 0 7, N') := c5
      simp only [e1, e2, z_bn, o1, l2, l3, nI_add, if_pos (show nI (L + k) ≤ 120 from nI_le q (by decide)), zj_n, e3, e4]
      exact Okk.st (c2.trans c3.symm) c1
    · simp only [e1, e2, z_bn, o1, l2, l3, nI_add, if_neg (show ¬ nI (L + k) ≤ 120 from nI_ge (show 120 < L + k by omega) (by omega))]
      exact fd1 h
  · simp only [e1, e2, z_bn, if_true]; exact fd0 h
theorem Rel.mv2 (h : Rel M N) (hM : ∀ k, k < 11 ∨ 21 ≤ k → M'.1 k = M.1 k) (hN1 : ∀ j, j < 59 → N'.1 1 j = N.1 1 j) (hN : ∀ x, x ≠ 1 → x ≠ 4 → N'.1 x = N.1 x) (hS : RelS M' N') : Rel M' N' := by
  obtain ⟨a, b, c, d, e⟩ := h
  exact ⟨a.mv (fun k k1 k2 => hM k (by omega)) hN1, b.mv (by rw [hM 0 (by omega)]) (fun k k1 k2 => hM k (by omega)) (by rw [hN 0 (by decide) (by decide)]) (fun j hj => by rw [hN 2 (by decide) (by decide)]), c.mv (hM 33 (by omega)) (hN 5 (by decide) (by decide)), d.mv (by rw [hM 31 (by omega)]) (hM 32 (by omega)) (by rw [hN 0 (by decide) (by decide)]) (hN 6 (by decide) (by decide)), hS⟩
theorem bookL {s l w n nb nw : Nat} (hs : s < 4) (hl : l ≤ 40) (hw : w < nw) {E E' : zM → Option (Int32 × zM)} : ∀ (j i f f' : Nat) (M N : zM), i + j = l → j < f → j < f' → n < 2 ^ 28 → Sim 11 (n + i) nb nw M (N.1 1) → RelS M N → M.1 (42 + 2 * s) 2 = nI l → N.1 8 s = nI l →
    ∃ M' N', (∀ k, k < 11 ∨ 21 ≤ k → M'.1 k = M.1 k) ∧ (∀ x, x ≠ 1 → N'.1 x = N.1 x) ∧ RelS M' N' ∧ zL2 (bX9_book_61 (nI w) s E) f M (nI i) = E M' ∧ zL2 (bX10_book_38 (nI s) (nI w) E') f' N (nI i) = E' N' := by
  intro j
  induction j with
  | zero =>
    intro i f f' M N hi hf hf' hn hS hR l1 l2
    obtain ⟨f, rfl⟩ : ∃ g, f = g + 1 := ⟨f - 1, by omega⟩
    obtain ⟨f', rfl⟩ : ∃ g, f' = g + 1 := ⟨f' - 1, by omega⟩
    have : i = l := by omega
    subst this
    refine ⟨M, N, fun _ _ => rfl, fun _ _ => rfl, hR, ?_, ?_⟩
    · rw [zL2_e]; unfold bX9_book_61; rw [l1, if_pos (nI_le (Nat.le_refl i) (by omega))]
    · rw [zL2_e]; unfold bX10_book_38; rw [ix4 hs, z_bs, l2, if_pos (nI_le (Nat.le_refl i) (by omega))]
  | succ j ih =>
    intro i f f' M N hi hf hf' hn hS hR l1 l2
    have hwl := hS.nwl
    have w6 : w < 6 := by omega
    obtain ⟨f, rfl⟩ : ∃ g, f = g + 1 := ⟨f - 1, by omega⟩
    obtain ⟨f', rfl⟩ : ∃ g, f' = g + 1 := ⟨f' - 1, by omega⟩
    have hlt : ¬ nI l ≤ nI i := nI_ge (by omega) (by omega)
    have pu : M.1 16 w = N.1 1 (47 + 2 * w) := hS.1.purse w6
    have eb : M.1 (42 + 2 * s) 1 = N.1 7 s := (hR s hs).1
    have hS1 : Sim 11 (n + i) nb nw (zstL M (42 + 2 * s + 1) i (nar (N.1 7 s) (N.1 1 (47 + 2 * w)).toInt64)) ((zstL N 9 (40 * s + i) (nar (N.1 7 s) (N.1 1 (47 + 2 * w)).toInt64)).1 1) := hS.congrM (fun _ _ _ => rfl)
    obtain ⟨M1, N1, d1, d2, d3, d4, d5, d6⟩ := night_sim hS1 (by omega)
    have hR1 : RelS M1 N1 := by
      refine (RelS.num hR hs (show i < 40 by omega) (nar (N.1 7 s) (N.1 1 (47 + 2 * w)).toInt64)).mv (fun k k1 k2 => d4.1 k (by omega)) d4.2 (d5.1 7 (by decide)) (d5.1 8 (by decide)) d5.2
    obtain ⟨Ma, Na, a1, a2, a3, a4, a5⟩ := ih (i + 1) f f' M1 N1 (by omega) (by omega) (by omega) hn (by rw [show n + (i + 1) = n + i + 1 by omega]; exact d3) hR1 (by rw [d4.1 (42 + 2 * s) (by omega)]; exact l1) (by rw [d5.1 8 (by decide)]; exact l2)
    refine ⟨Ma, Na, fun k hk => (a1 k hk).trans (d4.1 k (by omega)), fun x hx => (a2 x hx).trans (d5.1 x hx), a3, ?_, ?_⟩
    · rw [zL2_e, ← a4]
      generalize zL2 (bX9_book_61 (nI w) s E) f = rc
      unfold bX9_book_61
      simp only [l1, if_neg hlt, ix6 w6, z_bs, pu, c_put (show i < 40 by omega), eb, d1, nI_1]
    · rw [zL2_e, ← a5]
      generalize zL2 (bX10_book_38 (nI s) (nI w) E') f' = rc
      unfold bX10_book_38
      simp only [ix4 hs, l2, if_neg hlt, z_bs, m_t0 w6, m_nar, ix160 hs (show i < 40 by omega), d2, nI_1]
theorem s_book (h : Rel M N) (a b : Int32) : Okk (fX9_book M a b) (fX10_book N a b) := by
  obtain ⟨n, nb, nw, hn, hS⟩ := h.1
  unfold fX9_book fX10_book
  rcases g_sh h a with ⟨e1, e2, _⟩ | ⟨s, hs, rfl, e1, _, ⟨_, _, e3, e4⟩ | ⟨q1, q2, e3, e4⟩⟩
  · simp only [e1, e2, z_bn, if_true, ne1]; exact fd0 h
  · simp only [e1, e3, e4, z_bn, o1, ix4 hs, ne6]; exact fd5 h
  · obtain ⟨a1, ⟨l, l1, l2, l3⟩, c1⟩ := h.2.2.2.2 s hs
    rcases g_wearer hS b with ⟨w, hw, rfl, e5, e6⟩ | ⟨e5, e6⟩
    · obtain ⟨M1, m1, m2, m3⟩ := become_sim (t := 11) (t2 := 1) (by omega) hS
      have hR1 : RelS M1 (cpN N 1 4 59) := h.2.2.2.2.mv (fun k k1 k2 => m3.1 k (by omega)) m3.2 (cpN_ne (by decide)) (cpN_ne (by decide)) cpN_2
      obtain ⟨M', N', d1, d2, d3, d4, d5⟩ := bookL (n := n) hs l1 hw (E := fun M9 => some ((M9.1 (42 + 2 * s) 2), M9)) (E' := fun M6 => some (M6.1 8 s, cpN M6 4 1 59)) l 0 zFuel zFuel M1 (cpN N 1 4 59) (by omega) (zF0 (by omega)) (zF0 (by omega)) (by omega) (by rw [cpN_ne (by decide)]; exact m2) hR1 (by rw [m3.1 _ (by omega)]; exact l2) (by rw [cpN_ne (by decide)]; exact l3)
      have e7 : lX9_book_61 (nI w) s (fun M9 => some ((M9.1 (42 + 2 * s) 2), M9)) zFuel M1 0 = some (M'.1 (42 + 2 * s) 2, M') := d4
      have e8 : lX10_book_38 (nI s) (nI w) (fun M6 => some (M6.1 8 s, cpN M6 4 1 59)) zFuel (cpN N 1 4 59) 0 = some (N'.1 8 s, cpN N' 4 1 59) := d5
      simp only [e1, e3, e4, e5, e6, z_bn, o1, if_true, ix4 hs, m1, zj_n, e7, m_laysAside, m_takesBack, zb2_n, e8]
      refine Okk.st ?_ (h.mv2 (fun k hk => (d1 k hk).trans (m3.1 k (by omega))) (fun j hj => ?_) (fun x x1 x4 => ?_) ?_)
      · rw [d1 (42 + 2 * s) (by omega), m3.1 _ (by omega), d2 8 (by decide), cpN_ne (by decide), l2, l3]
      · rw [cpN_at hj, d2 4 (by decide), cpN_at hj]
      · rw [cpN_ne x1, d2 x x1, cpN_ne x4]
      · exact d3.mv (fun _ _ _ => rfl) rfl (cpN_ne (by decide)) (cpN_ne (by decide)) cpN_2
    · simp only [e1, e3, e4, e5, e6, z_bn, o1, if_true, ix4 hs]; exact fd0 h
theorem followL {s l w n nb nw : Nat} (hs : s < 4) (hl : l ≤ 40) (hw : w < nw) : ∀ (j i f f' : Nat) (M N : zM), i + j = l → j < f → j < f' → n < 2 ^ 28 → Sim 11 (n + i) nb nw M (N.1 1) → RelS M N → M.1 (42 + 2 * s) 2 = nI l → N.1 8 s = nI l →
    ∃ M' N' r, FrT 11 M M' ∧ FrN N N' ∧ (r = 0 ∨ r = 1) ∧ zL2 (bX9_trialFollows_2 (42 + 2 * s) (nI w) fun M1 => some (1, M1)) f M (nI i) = some (r, M') ∧ zL2 (bX10_isBook_2 (nI s) (nI w) fun M1 => some (1, M1)) f' N (nI i) = some (r, N') := by
  intro j
  induction j with
  | zero =>
    intro i f f' M N hi hf hf' hn hS hR l1 l2
    obtain ⟨f, rfl⟩ : ∃ g, f = g + 1 := ⟨f - 1, by omega⟩
    obtain ⟨f', rfl⟩ : ∃ g, f' = g + 1 := ⟨f' - 1, by omega⟩
    have : i = l := by omega
    subst this
    refine ⟨M, N, 1, FrT.rf, FrN.rf, Or.inr rfl, ?_, ?_⟩
    · rw [zL2_e]; unfold bX9_trialFollows_2; rw [l1, if_pos (nI_le (Nat.le_refl i) (by omega))]
    · rw [zL2_e]; unfold bX10_isBook_2; rw [ix4 hs, z_bs, l2, if_pos (nI_le (Nat.le_refl i) (by omega))]
  | succ j ih =>
    intro i f f' M N hi hf hf' hn hS hR l1 l2
    have hwl := hS.nwl
    have w6 : w < 6 := by omega
    obtain ⟨f, rfl⟩ : ∃ g, f = g + 1 := ⟨f - 1, by omega⟩
    obtain ⟨f', rfl⟩ : ∃ g, f' = g + 1 := ⟨f' - 1, by omega⟩
    have hlt : ¬ nI l ≤ nI i := nI_ge (by omega) (by omega)
    have pu : M.1 16 w = N.1 1 (47 + 2 * w) := hS.1.purse w6
    have ey : M.2 (42 + 2 * s + 1) i = N.2 9 (40 * s + i) := (hR s hs).2.2 i (by omega)
    by_cases c : N.2 9 (40 * s + i) = (N.1 1 (47 + 2 * w)).toInt64
    · have c1 : lg_cmp (N.2 9 (40 * s + i)) (N.1 1 (47 + 2 * w)).toInt64 = 0 := (lg_cmp_eq _ _).mpr c
      have c2 : lg_cmp (N.1 1 (47 + 2 * w)).toInt64 (N.2 9 (40 * s + i)) = 0 := (lg_cmp_eq _ _).mpr c.symm
      obtain ⟨M1, N1, d1, d2, d3, d4, d5, d6⟩ := night_sim hS (by omega)
      have hR1 : RelS M1 N1 := hR.mv (fun k k1 k2 => d4.1 k (by omega)) d4.2 (d5.1 7 (by decide)) (d5.1 8 (by decide)) d5.2
      obtain ⟨Ma, Na, r, a1, a2, a3, a4, a5⟩ := ih (i + 1) f f' M1 N1 (by omega) (by omega) (by omega) hn (by rw [show n + (i + 1) = n + i + 1 by omega]; exact d3) hR1 (by rw [d4.1 (42 + 2 * s) (by omega)]; exact l1) (by rw [d5.1 8 (by decide)]; exact l2)
      refine ⟨Ma, Na, r, d4.tr a1, d5.tr a2, a3, ?_, ?_⟩
      · rw [zL2_e, ← a4]
        generalize zL2 (bX9_trialFollows_2 (42 + 2 * s) (nI w) fun M1 => some (1, M1)) f = rc
        unfold bX9_trialFollows_2
        simp only [l1, if_neg hlt, ix6 w6, ix40 (show i < 40 by omega), z_bs, pu, ey, c2, if_true, d1, nI_1]
      · rw [zL2_e, ← a5]
        generalize zL2 (bX10_isBook_2 (nI s) (nI w) fun M1 => some (1, M1)) f' = rc
        unfold bX10_isBook_2
        simp only [ix4 hs, l2, if_neg hlt, z_bs, m_t0 w6, ix160 hs (show i < 40 by omega), c1, if_true, d2, nI_1]
    · have c1 : ¬ lg_cmp (N.2 9 (40 * s + i)) (N.1 1 (47 + 2 * w)).toInt64 = 0 := fun z => c ((lg_cmp_eq _ _).mp z)
      have c2 : ¬ lg_cmp (N.1 1 (47 + 2 * w)).toInt64 (N.2 9 (40 * s + i)) = 0 := fun z => c ((lg_cmp_eq _ _).mp z).symm
      refine ⟨M, N, 0, FrT.rf, FrN.rf, Or.inl rfl, ?_, ?_⟩
      · rw [zL2_e]; unfold bX9_trialFollows_2
        simp only [l1, if_neg hlt, ix6 w6, ix40 (show i < 40 by omega), z_bs, pu, ey, if_neg c2, zbl0]
      · rw [zL2_e]; unfold bX10_isBook_2
        simp only [ix4 hs, l2, if_neg hlt, z_bs, m_t0 w6, ix160 hs (show i < 40 by omega), if_neg c1, zbl0]
/-- the model's row and what lies aside, as at first -/
def FrR (N N' : zM) : Prop := (∀ j, j < 59 → N'.1 1 j = N.1 1 j ∧ N'.1 4 j = N.1 1 j) ∧ (∀ x, x ≠ 1 → x ≠ 4 → N'.1 x = N.1 x) ∧ N'.2 = N.2
theorem readI {s l w b k n nb nw : Nat} (h : Rel M N) (hS : Sim 1 n nb nw M (N.1 1)) (hn : n ≤ 99999) (hs : s < 4) (hl : l ≤ 40) (l1 : M.1 (42 + 2 * s) 2 = nI l) (l2 : N.1 8 s = nI l) (hw : w < nw) (hb : b < nb) (hk : k < 6) {E E' : zM → Int32 → Option (Int32 × zM)} : ∀ (j r f f' : Nat) (M1 N1 : zM) (x : Int32), r + j = 6 → j < f → FrT 11 M M1 → FrR N N1 →
    ∃ M' N' z, FrT 11 M M' ∧ FrR N N' ∧ zL3 (bX9_read_69 (nI s) (nI w) (nI b) (nI k) E) f M1 x (nI r) = E M' z ∧ zL3 (bX10_read_52 (nI s) (nI w) (nI b) E') (f' + j) N1 x (nI (6 * k + r)) = zL3 (bX10_read_52 (nI s) (nI w) (nI b) E') f' N' z (nI (6 * k + 6)) := by
  have hwl := hS.nwl
  have hbl := hS.nbl
  have w6 : w < 6 := by omega
  have b8 : b < 8 := by omega
  intro j
  induction j with
  | zero =>
    intro r f f' M1 N1 x hi hf fM fN
    obtain ⟨f, rfl⟩ : ∃ g, f = g + 1 := ⟨f - 1, by omega⟩
    have : r = 6 := by omega
    subst this
    refine ⟨M1, N1, x, fM, fN, ?_, rfl⟩
    rw [zL3_e]; unfold bX9_read_69; rw [if_pos (show (6 : Int32) ≤ nI 6 by decide)]
  | succ j ih =>
    intro r f f' M1 N1 x hi hf fM fN
    obtain ⟨f, rfl⟩ : ∃ g, f = g + 1 := ⟨f - 1, by omega⟩
    have r6 : r < 6 := by omega
    have hl1 : ¬ (6 : Int32) ≤ nI r := nI_ge r6 (by decide)
    have hl2 : ¬ (36 : Int32) ≤ nI (6 * k + r) := nI_ge (show 6 * k + r < 36 by omega) (by decide)
    have hd : nI (6 * k + r) / 6 = nI k := by
      rw [show (6 : Int32) = nI 6 from rfl, pk_div (by omega) (by decide) (by decide), show (6 * k + r) / 6 = k by omega]
    have hm : zrem (nI (6 * k + r)) 6 = nI r := by
      refine (pk_rem (a := 6 * k + r) (d := 6) (by omega) (by decide) (by decide)).trans ?_
      rw [show (6 * k + r) % 6 = r by omega]
    obtain ⟨M2, m1, m2, m3⟩ := become_sim (t := 11) (t2 := 1) (by omega) (hS.live fM)
    have m4 := (m2.kind b8 hk).round w6 r6
    generalize hN2 : zst (zst N1 1 (15 + 4 * b) (nI k)) 1 (47 + 2 * w + 1) (nI r) = N2
    have fN2 : ∀ x, x ≠ 1 → N2.1 x = N1.1 x := fun x hx => by rw [← hN2, st_ne hx, st_ne hx]
    have m5 : Sim 11 (n + 0) nb nw (zst (zst M2 (11 + 1) b (nI k)) (11 + 6) w (nI r)) (N2.1 1) := by
      refine m4.congr (fun j hj => ?_)
      rw [← hN2, zst_1, zst_1]
      by_cases q1 : j = 47 + 2 * w + 1
      · rw [q1, pk_us, pk_us]
      · rw [pk_un q1, pk_un q1]
        by_cases q2 : j = 15 + 4 * b
        · rw [q2, pk_us, pk_us]
        · rw [pk_un q2, pk_un q2]; exact (fN.1 j hj).1
    generalize hM2 : zst (zst M2 (11 + 1) b (nI k)) (11 + 6) w (nI r) = M3 at m5
    have fM3 : FrT 11 M M3 := (fM.tr m3).tr (by rw [← hM2]; exact (FrT.st (by omega) (by omega)).tr (FrT.st (by omega) (by omega)))
    have hR : RelS M3 N2 := h.2.2.2.2.mv (fun k k1 k2 => fM3.1 k (by omega)) fM3.2 ((fN2 7 (by decide)).trans (fN.2.1 7 (by decide) (by decide))) ((fN2 8 (by decide)).trans (fN.2.1 8 (by decide) (by decide))) (by rw [← hN2, zst_g2, zst_g2]; exact fN.2.2)
    obtain ⟨M', N', v, c1, c2, c3, c4, c5⟩ := followL (n := n) hs hl hw l 0 zFuel zFuel M3 N2 (by omega) (zF0 (by omega)) (zF0 (by omega)) (by omega) m5 hR (by rw [fM3.1 _ (by omega)]; exact l1) (by rw [fN2 8 (by decide), fN.2.1 8 (by decide) (by decide)]; exact l2)
    have e1 : fX9_trialFollows M3 (42 + 2 * s) (nI w) = some (v, M') := by
      unfold fX9_trialFollows; rw [zj_n]; simp only [zbl1, z_bn]; exact c4
    have e2 : fX10_isBook N2 (nI s) (nI w) = some (v, N') := by
      unfold fX10_isBook; rw [zj_n]; simp only [zbl1, z_bn]; exact c5
    have fN3 : FrR N (cpN N' 4 1 59) := by
      refine ⟨fun j hj => ⟨?_, ?_⟩, fun x h1 h4 => ?_, ?_⟩
      · rw [cpN_at hj, c2.1 4 (by decide), fN2 4 (by decide)]; exact (fN.1 j hj).2
      · rw [cpN_ne (by decide), c2.1 4 (by decide), fN2 4 (by decide)]; exact (fN.1 j hj).2
      · rw [cpN_ne h1, c2.1 x h1, fN2 x h1]; exact fN.2.1 x h1 h4
      · rw [cpN_2, c2.2, ← hN2, zst_g2, zst_g2]; exact fN.2.2
    obtain ⟨Ma, Na, z, a1, a2, a3, a4⟩ := ih (r + 1) f f' M' (cpN N' 4 1 59) (x + v) (by omega) (by omega) (fM3.tr c1) fN3
    refine ⟨Ma, Na, z, a1, a2, ?_, ?_⟩
    · rw [zL3_e, ← a3]
      generalize zL3 (bX9_read_69 (nI s) (nI w) (nI b) (nI k) E) f = rc
      unfold bX9_read_69
      have hM2' : zst (zst M2 12 b (nI k)) 17 w (nI r) = M3 := hM2
      rcases c3 with rfl | rfl
      · simp only [if_neg hl1, m1, z_bs, ix8 b8, ix6 w6, hM2', ix4 hs, e1, zb2_s, zj_e, if_true, nI_1, Int32.add_zero]
      · simp only [if_neg hl1, m1, z_bs, ix8 b8, ix6 w6, hM2', ix4 hs, e1, zb2_s, zj_e, o1, nI_1]
    · rw [show f' + (j + 1) = f' + j + 1 by omega, zL3_e, show 6 * k + (r + 1) = 6 * k + r + 1 by omega] at *
      rw [← a4]
      generalize zL3 (bX10_read_52 (nI s) (nI w) (nI b) E') (f' + j) = rc
      unfold bX10_read_52
      rcases c3 with rfl | rfl
      · simp only [if_neg hl2, m_bs0, z_bs, ix59 (show 15 + 4 * b < 59 by omega), hd, m_ws1, ix59 (show 47 + 2 * w + 1 < 59 by omega), hm, hN2, e2, zb2_s, zj_e, if_true, m_takesBack, nI_1]
      · simp only [if_neg hl2, m_bs0, z_bs, ix59 (show 15 + 4 * b < 59 by omega), hd, m_ws1, ix59 (show 47 + 2 * w + 1 < 59 by omega), hm, hN2, e2, zb2_s, zj_e, o1, m_takesBack, nI_1]
end TJ
