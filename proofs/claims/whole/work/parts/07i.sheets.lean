/-! lays, copy, feed -/
section TI
variable {M N M' N' : zM}
theorem laysL {s l n nb nw : Nat} (hs : s < 4) (hl : l ≤ 40) (hn : n ≤ 99999) {E E' : zM → Int32 → Option (Int32 × zM)} : ∀ (j i f f' : Nat) (M N : zM) (x : Int32), i + j = nw → j < f → j < f' → Rel M N → Sim 1 n nb nw M (N.1 1) → M.1 (42 + 2 * s) 2 = nI l → N.1 8 s = nI l →
    ∃ M' N' z, Rel M' N' ∧ zL3 (bX9_lays_38 s E) f M x (nI i) = E M' z ∧ zL3 (bX10_lays_21 (nI s) E') f' N x (nI i) = E' N' z := by
  intro j
  induction j with
  | zero =>
    intro i f f' M N x hi hf hf' h hS l1 l2
    have hwl := hS.nwl
    obtain ⟨f, rfl⟩ : ∃ g, f = g + 1 := ⟨f - 1, by omega⟩
    obtain ⟨f', rfl⟩ : ∃ g, f' = g + 1 := ⟨f' - 1, by omega⟩
    have : i = nw := by omega
    subst this
    refine ⟨M, N, x, h, ?_, ?_⟩
    · rw [zL3_e]; unfold bX9_lays_38
      rw [show M.1 1 3 = nI i from hS.1.w2.trans hS.e2, if_pos (nI_le (Nat.le_refl i) (by omega))]
      by_cases q : M.1 (42 + 2 * s) 2 ≤ nI i
      · rw [if_pos q]
      · rw [if_neg q]
    · rw [zL3_e]; unfold bX10_lays_21
      rw [ix4 hs, z_bs, hS.e2, if_pos (nI_le (Nat.le_refl i) (by omega))]
      by_cases q : N.1 8 s ≤ nI i
      · rw [if_pos q]
      · rw [if_neg q]
  | succ j ih =>
    intro i f f' M N x hi hf hf' h hS l1 l2
    have hwl := hS.nwl
    obtain ⟨f, rfl⟩ : ∃ g, f = g + 1 := ⟨f - 1, by omega⟩
    obtain ⟨f', rfl⟩ : ∃ g, f' = g + 1 := ⟨f' - 1, by omega⟩
    have i6 : i < 6 := by omega
    by_cases q : l ≤ i
    · refine ⟨M, N, x, h, ?_, ?_⟩
      · rw [zL3_e]; unfold bX9_lays_38
        rw [l1, if_pos (nI_le q (by omega))]
      · rw [zL3_e]; unfold bX10_lays_21
        rw [ix4 hs, z_bs, l2, if_pos (nI_le q (by omega))]
    · have hq1 : ¬ nI l ≤ nI i := nI_ge (by omega) (by omega)
      have hq2 : ¬ nI nw ≤ nI i := nI_ge (by omega) (by omega)
      have ew : M.1 1 3 = nI nw := hS.1.w2.trans hS.e2
      have ey : M.2 (42 + 2 * s + 1) i = N.2 9 (40 * s + i) := (h.2.2.2.2 s hs).2.2 i (by omega)
      have e0 : (0 : Int64).toInt = 0 := rfl
      have e9 : (9999 : Int64).toInt = 9999 := rfl
      by_cases c : 0 ≤ (N.2 9 (40 * s + i)).toInt ∧ (N.2 9 (40 * s + i)).toInt ≤ 9999
      · have c1 : ¬ lg_cmp (N.2 9 (40 * s + i)) 0 < 0 := by rw [lg_cmp_lt, Int64.lt_iff_toInt_lt]; omega
        have c2 : ¬ 0 < lg_cmp (N.2 9 (40 * s + i)) 9999 := by rw [lg_cmp_gt, Int64.lt_iff_toInt_lt]; omega
        have hS' : Sim 1 n nb nw (zst M 6 i (N.2 9 (40 * s + i)).toInt32) ((zst N 1 (47 + 2 * i) (N.2 9 (40 * s + i)).toInt32).1 1) := by rw [zst_1]; exact hS.purse i6 _
        have h' := h.live (FrT.st (t := 1) (k := 6) (j := i) (v := (N.2 9 (40 * s + i)).toInt32) (by omega) (by omega)) (FrN.st (j := 47 + 2 * i) (v := (N.2 9 (40 * s + i)).toInt32)) hn hS'
        obtain ⟨Ma, Na, z, a1, a2, a3⟩ := ih (i + 1) f f' _ _ (x + 1) (by omega) (by omega) (by omega) h' hS' (by rw [st_ne (by omega)]; exact l1) (by rw [st_ne (by decide)]; exact l2)
        refine ⟨Ma, Na, z, a1, ?_, ?_⟩
        · rw [zL3_e, ← a2]
          generalize zL3 (bX9_lays_38 s E) f = rc
          unfold bX9_lays_38
          simp only [l1, if_neg hq1, ew, if_neg hq2, ix40 (show i < 40 by omega), z_bs, zj_e, ey, if_neg c1, if_neg c2, ix6 i6, nI_1]
        · rw [zL3_e, ← a3]
          generalize zL3 (bX10_lays_21 (nI s) E') f' = rc
          unfold bX10_lays_21
          simp only [ix4 hs, l2, if_neg hq1, hS.e2, if_neg hq2, ix160 hs (show i < 40 by omega), z_bs, zj_e, m_in, e0, e9, if_pos c, m_ws0, o1, ix59 (show 47 + 2 * i < 59 by omega), nI_1]
      · have hS' : Sim 1 n nb nw M ((zst N 1 (47 + 2 * i) (N.1 1 (47 + 2 * i))).1 1) := by rw [zst_1, upd_self]; exact hS
        have h' := h.live FrT.rf (FrN.st (j := 47 + 2 * i) (v := N.1 1 (47 + 2 * i))) hn hS'
        obtain ⟨Ma, Na, z, a1, a2, a3⟩ := ih (i + 1) f f' _ _ x (by omega) (by omega) (by omega) h' hS' l1 (by rw [st_ne (by decide)]; exact l2)
        refine ⟨Ma, Na, z, a1, ?_, ?_⟩
        · rw [zL3_e, ← a2]
          generalize zL3 (bX9_lays_38 s E) f = rc
          unfold bX9_lays_38
          simp only [l1, if_neg hq1, ew, if_neg hq2, ix40 (show i < 40 by omega), z_bs, zj_e, ey, nI_1]
          by_cases c1 : lg_cmp (N.2 9 (40 * s + i)) 0 < 0
          · rw [if_pos c1]
          · rw [if_neg c1, if_pos (show 0 < lg_cmp (N.2 9 (40 * s + i)) 9999 by rw [lg_cmp_lt, Int64.lt_iff_toInt_lt] at c1; rw [lg_cmp_gt, Int64.lt_iff_toInt_lt]; omega)]
        · rw [zL3_e, ← a3]
          generalize zL3 (bX10_lays_21 (nI s) E') f' = rc
          unfold bX10_lays_21
          simp only [ix4 hs, l2, if_neg hq1, hS.e2, if_neg hq2, ix160 hs (show i < 40 by omega), z_bs, zj_e, m_in, e0, e9, if_neg c, m_ws0, if_true, m_t0 i6, ix59 (show 47 + 2 * i < 59 by omega), nI_1, Int32.add_zero]
theorem s_lays (h : Rel M N) (a : Int32) : Okk (fX9_lays M a) (fX10_lays N a) := by
  obtain ⟨n, nb, nw, hn, hS⟩ := h.1
  unfold fX9_lays fX10_lays
  rcases g_sh h a with ⟨e1, e2, _⟩ | ⟨s, hs, rfl, e1, _, ⟨_, _, e3, e4⟩ | ⟨q1, q2, e3, e4⟩⟩
  · simp only [e1, e2, z_bn, if_true, ne1]; exact fd0 h
  · simp only [e1, e3, e4, z_bn, o1, ix4 hs, ne6]; exact fd5 h
  · obtain ⟨a1, ⟨l, l1, l2, l3⟩, c1⟩ := h.2.2.2.2 s hs
    obtain ⟨M', N', z, d1, d2, d3⟩ := laysL hs l1 hn (E := fun M6 x7 => some (x7, M6)) (E' := fun M3 x4 => some (x4, M3)) nw 0 zFuel zFuel M N 0 (by omega) (zF0 (by have := hS.nwl; omega)) (zF0 (by have := hS.nwl; omega)) h hS l2 l3
    have e5 : lX9_lays_38 s (fun M6 x7 => some (x7, M6)) zFuel M 0 0 = some (z, M') := d2
    have e6 : lX10_lays_21 (nI s) (fun M3 x4 => some (x4, M3)) zFuel N 0 0 = some (z, N') := d3
    simp only [e1, e3, e4, z_bn, o1, if_true, ix4 hs, zj_n, e5, e6]
    exact Okk.st rfl d1
theorem sub_int {x y : Int32} (h1 : 0 ≤ x.toInt) (h2 : x.toInt ≤ 40) (h3 : 0 ≤ y.toInt) : (x - y).toInt = x.toInt - y.toInt := by
  have h4 : y.toInt < 2 ^ 31 := Int32.toInt_lt y
  rw [Int32.toInt_sub, Int.bmod_def]
  split <;> omega
theorem c_span {q l : Nat} (hl : l ≤ 40) (e : M.1 q 2 = nI l) (x y : Int32) : fX5_hasSpan M q x y = some (if 0 ≤ x.toInt ∧ 0 ≤ y.toInt ∧ x.toInt + y.toInt ≤ l then 1 else 0) := by
  have e0 : (0 : Int32).toInt = 0 := rfl
  have el : (nI l).toInt = l := nI_toInt (by omega)
  unfold fX5_hasSpan
  rw [e]
  by_cases h1 : x < 0
  · rw [if_pos h1, zbl0]; rw [i_lt] at h1; rw [if_neg (by omega)]
  · rw [if_neg h1]; rw [i_lt] at h1
    by_cases h2 : y < 0
    · rw [if_pos h2, zbl0]; rw [i_lt] at h2; rw [if_neg (by omega)]
    · rw [if_neg h2]; rw [i_lt] at h2
      by_cases h3 : nI l < y
      · rw [if_pos h3, zbl0]; rw [i_lt] at h3; rw [if_neg (by omega)]
      · rw [if_neg h3]; rw [i_lt] at h3
        have es : (nI l - y).toInt = (l : Int) - y.toInt := by rw [sub_int (by omega) (by omega) (by omega), el]
        by_cases h4 : nI l - y < x
        · rw [if_pos h4, zbl0]; rw [i_lt, es] at h4; rw [if_neg (by omega)]
        · rw [if_neg h4, zbl1]; rw [i_lt, es] at h4; rw [if_pos (by omega)]
/-- i numbers of a row of longs to another place -/
def mvL (M : zM) (a p c q i : Nat) : zM := (M.1, fun x y => if x = c ∧ q ≤ y ∧ y < q + i then M.2 a (p + (y - q)) else M.2 x y)
theorem mvL_0 {a p c q : Nat} : mvL M a p c q 0 = M := by
  refine Prod.ext rfl ?_
  funext x y
  exact if_neg (by omega)
theorem mvL_s {a p c q i : Nat} (h : a ≠ c) : zstL (mvL M a p c q i) c (q + i) ((mvL M a p c q i).2 a (p + i)) = mvL M a p c q (i + 1) := by
  refine Prod.ext rfl ?_
  funext x y
  show (if x = c ∧ y = q + i then (if a = c ∧ q ≤ p + i ∧ p + i < q + i then M.2 a (p + (p + i - q)) else M.2 a (p + i)) else if x = c ∧ q ≤ y ∧ y < q + i then M.2 a (p + (y - q)) else M.2 x y) = if x = c ∧ q ≤ y ∧ y < q + (i + 1) then M.2 a (p + (y - q)) else M.2 x y
  rw [if_neg (show ¬ (a = c ∧ q ≤ p + i ∧ p + i < q + i) from fun z => h z.1)]
  by_cases h1 : x = c ∧ y = q + i
  · rw [if_pos h1, if_pos ⟨h1.1, by omega, by omega⟩, h1.2, show q + i - q = i by omega]
  · rw [if_neg h1]
    by_cases h2 : x = c ∧ q ≤ y ∧ y < q + i
    · rw [if_pos h2, if_pos ⟨h2.1, by omega, by omega⟩]
    · rw [if_neg h2, if_neg (fun z => by
        by_cases h3 : y = q + i
        · exact h1 ⟨z.1, h3⟩
        · exact h2 ⟨z.1, z.2.1, by omega⟩)]
theorem m_cp1 {s x n : Nat} (hs : s < 4) (hx : x + n ≤ 40) {E : zM → Option (Int32 × zM)} : lX10_copy_120 (nI s) (nI x) (nI n) E zFuel N 0 = E (mvL N 9 (40 * s + x) 10 0 n) := by
  have := loop2 (F := bX10_copy_120 (nI s) (nI x) (nI n) E) (E := E) (m := n) (fun i => mvL N 9 (40 * s + x) 10 0 i) (fun rc => by
    unfold bX10_copy_120
    rw [if_pos (nI_le (Nat.le_refl n) (by omega))]) (fun rc i hi => by
    unfold bX10_copy_120
    have e := mvL_s (M := N) (a := 9) (p := 40 * s + x) (c := 10) (q := 0) (i := i) (by decide)
    rw [Nat.zero_add, show 40 * s + x + i = 40 * s + (x + i) by omega] at e
    simp only [if_neg (nI_ge hi (show n < 2 ^ 31 by omega)), ix160' hs (show x + i < 40 by omega), ix40 (show i < 40 by omega), z_bs, nI_1, e]) n 0 zFuel (by omega) (zF0 (by omega))
  simp only [mvL_0] at this
  exact this
theorem m_cp2 {s x n : Nat} (hs : s < 4) (hx : x + n ≤ 40) {E : zM → Option (Int32 × zM)} : lX10_copy_157 (nI s) (nI x) (nI n) E zFuel N 0 = E (mvL N 10 0 9 (40 * s + x) n) := by
  have := loop2 (F := bX10_copy_157 (nI s) (nI x) (nI n) E) (E := E) (m := n) (fun i => mvL N 10 0 9 (40 * s + x) i) (fun rc => by
    unfold bX10_copy_157
    rw [if_pos (nI_le (Nat.le_refl n) (by omega))]) (fun rc i hi => by
    unfold bX10_copy_157
    have e := mvL_s (M := N) (a := 10) (p := 0) (c := 9) (q := 40 * s + x) (i := i) (by decide)
    rw [Nat.zero_add, show 40 * s + x + i = 40 * s + (x + i) by omega] at e
    simp only [if_neg (nI_ge hi (show n < 2 ^ 31 by omega)), ix160' hs (show x + i < 40 by omega), ix40 (show i < 40 by omega), z_bs, nI_1, e]) n 0 zFuel (by omega) (zF0 (by omega))
  simp only [mvL_0] at this
  exact this
theorem s_copy (h : Rel M N) (a b c d g : Int32) : Okk (fX9_copy M a b c d g) (fX10_copy N a b c d g) := by
  have e0 : (0 : Int32).toInt = 0 := rfl
  unfold fX9_copy fX10_copy
  rcases g_sheet a with ⟨s, hs, rfl, e1, e2⟩ | ⟨e1, e2⟩
  · rcases g_sheet c with ⟨u, hu, rfl, e3, e4⟩ | ⟨e3, e4⟩
    · obtain ⟨a1, ⟨l, l1, l2, l3⟩, c1⟩ := h.2.2.2.2 s hs
      obtain ⟨a2, ⟨k, k1, k2, k3⟩, c2⟩ := h.2.2.2.2 u hu
      by_cases q1 : N.1 7 s = 0
      · simp only [e1, e2, e3, e4, z_bn, o1, ix4 hs, ix4 hu, c_miss, a1, if_pos q1]; exact fd5 h
      · by_cases q2 : N.1 7 u = 0
        · simp only [e1, e2, e3, e4, z_bn, o1, ix4 hs, ix4 hu, c_miss, a1, a2, if_neg q1, if_pos q2, if_true]; exact fd5 h
        · by_cases q3 : N.1 7 s = N.1 7 u
          · have elS : (nI l).toInt = l := nI_toInt (by omega)
            have elU : (nI k).toInt = k := nI_toInt (by omega)
            simp only [e1, e2, e3, e4, z_bn, o1, ix4 hs, ix4 hu, c_miss, a1, a2, if_neg q1, if_neg q2, if_true, if_pos q3, c_span l1 l2, c_span k1 k2, l3, k3]
            by_cases p1 : b < 0
            · rw [if_pos p1]; rw [i_lt] at p1; rw [if_neg (show ¬ (0 ≤ b.toInt ∧ 0 ≤ g.toInt ∧ b.toInt + g.toInt ≤ l) by omega), o0]; exact fd0 h
            · rw [if_neg p1]; rw [i_lt] at p1
              by_cases p2 : d < 0
              · rw [if_pos p2]; rw [i_lt] at p2; rw [if_neg (show ¬ (0 ≤ d.toInt ∧ 0 ≤ g.toInt ∧ d.toInt + g.toInt ≤ k) by omega)]
                by_cases z : 0 ≤ b.toInt ∧ 0 ≤ g.toInt ∧ b.toInt + g.toInt ≤ l
                · rw [if_pos z, o1, o0]; exact fd0 h
                · rw [if_neg z, o0]; exact fd0 h
              · rw [if_neg p2]; rw [i_lt] at p2
                by_cases p3 : g < 0
                · rw [if_pos p3]; rw [i_lt] at p3; rw [if_neg (show ¬ (0 ≤ b.toInt ∧ 0 ≤ g.toInt ∧ b.toInt + g.toInt ≤ l) by omega), o0]; exact fd0 h
                · rw [if_neg p3]; rw [i_lt] at p3
                  have es : (nI l - b).toInt = (l : Int) - b.toInt := by rw [sub_int (by omega) (by omega) (by omega), elS]
                  have eu : (nI k - d).toInt = (k : Int) - d.toInt := by rw [sub_int (by omega) (by omega) (by omega), elU]
                  by_cases p4 : nI l - b < g
                  · rw [if_pos p4]; rw [i_lt, es] at p4; rw [if_neg (show ¬ (0 ≤ b.toInt ∧ 0 ≤ g.toInt ∧ b.toInt + g.toInt ≤ l) by omega), o0]; exact fd0 h
                  · rw [if_neg p4]; rw [i_lt, es] at p4
                    rw [if_pos (show 0 ≤ b.toInt ∧ 0 ≤ g.toInt ∧ b.toInt + g.toInt ≤ l by omega), o1]
                    by_cases p5 : g ≤ nI k - d
                    · rw [if_pos p5]; rw [i_le, eu] at p5
                      rw [if_pos (show 0 ≤ d.toInt ∧ 0 ≤ g.toInt ∧ d.toInt + g.toInt ≤ k by omega), o1]
                      have eb := nI_toNat (a := b) (by omega)
                      have ed := nI_toNat (a := d) (by omega)
                      have eg := nI_toNat (a := g) (by omega)
                      generalize hx : b.toInt.toNat = x at eb
                      generalize hy : d.toInt.toNat = y at ed
                      generalize hm : g.toInt.toNat = m at eg
                      have hxm : x + m ≤ l := by omega
                      have hym : y + m ≤ k := by omega
                      subst eb ed eg
                      have ok : zcpT (nI x) (nI y) (nI m) 40 40 = some () := by
                        unfold zcpT
                        rw [if_neg]
                        rw [nI_clamp (by omega), nI_clamp (by omega), nI_clamp (by omega)]
                        intro z
                        rcases z with z | z | z | z | z
                        · exact nI_pos (by omega) z
                        · exact nI_pos (by omega) z
                        · exact nI_pos (by omega) z
                        · omega
                        · omega
                      simp only [ok, z_bn, zj_n, m_cp1 hs (show x + m ≤ 40 by omega), m_cp2 hu (show y + m ≤ 40 by omega), nI_clamp (show x < 2 ^ 31 by omega), nI_clamp (show y < 2 ^ 31 by omega), nI_clamp (show m < 2 ^ 31 by omega)]
                      refine Okk.st rfl (h.sh (fun _ _ => rfl) (fun _ _ _ => rfl) (fun i hi => ?_))
                      obtain ⟨a3, b3, c3⟩ := h.2.2.2.2 i hi
                      refine ⟨a3, b3, fun j hj => ?_⟩
                      show (if 42 + 2 * i + 1 = 42 + 2 * u + 1 then va_cpy (M.2 (42 + 2 * s + 1)) (M.2 (42 + 2 * u + 1)) x y m j else M.2 (42 + 2 * i + 1) j) = if 9 = 9 ∧ 40 * u + y ≤ 40 * i + j ∧ 40 * i + j < 40 * u + y + m then (if 10 = 10 ∧ 0 ≤ 0 + (40 * i + j - (40 * u + y)) ∧ 0 + (40 * i + j - (40 * u + y)) < 0 + m then N.2 9 (40 * s + x + (0 + (40 * i + j - (40 * u + y)) - 0)) else N.2 10 (0 + (40 * i + j - (40 * u + y)))) else (if 9 = 10 ∧ 0 ≤ 40 * i + j ∧ 40 * i + j < 0 + m then N.2 9 (40 * s + x + (40 * i + j - 0)) else N.2 9 (40 * i + j))
                      by_cases qi : i = u
                      · subst qi
                        rw [if_pos rfl]
                        by_cases qj : y ≤ j ∧ j < y + m
                        · rw [pk_cpy_in qj.1 qj.2, if_pos ⟨rfl, by omega, by omega⟩, if_pos ⟨rfl, by omega, by omega⟩, c1 _ (by omega)]
                          exact congrArg (N.2 9) (by omega)
                        · rw [pk_cpy_out (by omega), if_neg (by omega), if_neg (by omega)]; exact c3 j hj
                      · rw [if_neg (by omega), if_neg (by omega), if_neg (by omega)]; exact c3 j hj
                    · rw [if_neg p5]; rw [i_le, eu] at p5
                      rw [if_neg (show ¬ (0 ≤ d.toInt ∧ 0 ≤ g.toInt ∧ d.toInt + g.toInt ≤ k) by omega), o0]; exact fd0 h
          · simp only [e1, e2, e3, e4, z_bn, o1, ix4 hs, ix4 hu, c_miss, a1, a2, if_neg q1, if_neg q2, if_true, if_neg q3]; exact fd2 h
    · simp only [e1, e2, e3, e4, z_bn, o1, if_true]; exact fd0 h
  · simp only [e1, e2, z_bn, if_true]; exact fd0 h
end TI
