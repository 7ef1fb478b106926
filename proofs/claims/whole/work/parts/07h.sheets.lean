/-! sheets and the tape -/
section TH
variable {M N M' N' : zM}
theorem Rel.sh (h : Rel M N) (hM : ∀ k, k < 42 ∨ 50 ≤ k → M'.1 k = M.1 k) (hN : ∀ k, k ≠ 7 → k ≠ 8 → N'.1 k = N.1 k) (hS : RelS M' N') : Rel M' N' := by
  obtain ⟨a, b, c, d, e⟩ := h
  exact ⟨a.mv (fun k k1 k2 => hM k (by omega)) (fun j hj => by rw [hN 1 (by decide) (by decide)]), b.mv (by rw [hM 0 (by omega)]) (fun k k1 k2 => hM k (by omega)) (by rw [hN 0 (by decide) (by decide)]) (fun j hj => by rw [hN 2 (by decide) (by decide)]), c.mv (hM 33 (by omega)) (hN 5 (by decide) (by decide)), d.mv (by rw [hM 31 (by omega)]) (hM 32 (by omega)) (by rw [hN 0 (by decide) (by decide)]) (hN 6 (by decide) (by decide)), hS⟩
theorem RelS.num (h : RelS M N) {i j : Nat} (hi : i < 4) (hj : j < 40) (v : Int64) : RelS (zstL M (42 + 2 * i + 1) j v) (zstL N 9 (40 * i + j) v) := by
  intro i' hi'
  obtain ⟨a, b, c⟩ := h i' hi'
  refine ⟨a, b, fun j' hj' => ?_⟩
  rw [zstL_g, zstL_g]
  by_cases q : i' = i ∧ j' = j
  · rw [if_pos ⟨by omega, q.2⟩, if_pos ⟨rfl, by omega⟩]
  · rw [if_neg (fun z => q ⟨by omega, z.2⟩), if_neg (fun z => q (by omega))]; exact c j' hj'
theorem ix4 {p : Nat} (h : p < 4) : zix (nI p) 4 = some p := zix_nI h (by decide)
theorem ix40 {p : Nat} (h : p < 40) : zix (nI p) 40 = some p := zix_nI h (by decide)
theorem ix160 {i j : Nat} (hi : i < 4) (hj : j < 40) : zix ((40 : Int32) * nI i + nI j) 160 = some (40 * i + j) := by
  rw [show (40 : Int32) = nI 40 from rfl, pk_mul, nI_add]
  exact zix_nI (by omega) (by decide)
theorem ix160' {i j k : Nat} (hi : i < 4) (hj : j + k < 40) : zix ((40 : Int32) * nI i + nI j + nI k) 160 = some (40 * i + (j + k)) := by
  rw [show (40 : Int32) = nI 40 from rfl, pk_mul, nI_add, nI_add, show 40 * i + j + k = 40 * i + (j + k) by omega]
  exact zix_nI (by omega) (by decide)
def clL (M : zM) (a b i : Nat) : zM := (M.1, fun x y => if x = a ∧ b ≤ y ∧ y < b + i then 0 else M.2 x y)
theorem clL_0 {a b : Nat} : clL M a b 0 = M := by
  refine Prod.ext rfl ?_
  funext x y
  exact if_neg (by omega)
theorem clL_s {a b i : Nat} : zstL (clL M a b i) a (b + i) 0 = clL M a b (i + 1) := by
  refine Prod.ext rfl ?_
  funext x y
  show (if x = a ∧ y = b + i then 0 else if x = a ∧ b ≤ y ∧ y < b + i then 0 else M.2 x y) = if x = a ∧ b ≤ y ∧ y < b + (i + 1) then 0 else M.2 x y
  by_cases h1 : x = a ∧ y = b + i
  · rw [if_pos h1, if_pos ⟨h1.1, by omega, by omega⟩]
  · rw [if_neg h1]
    by_cases h2 : x = a ∧ b ≤ y ∧ y < b + i
    · rw [if_pos h2, if_pos ⟨h2.1, by omega, by omega⟩]
    · rw [if_neg h2, if_neg (fun q => by
        by_cases h3 : y = b + i
        · exact h1 ⟨q.1, h3⟩
        · exact h2 ⟨q.1, q.2.1, by omega⟩)]
theorem c_layOut (q : Nat) (a b : Int32) : fX5_layOut M q a b = some (clL (zst (zst M q 1 a) q 2 b) (q + 1) 0 40) := by
  unfold fX5_layOut
  simp only [z_bn, zj_n]
  have := loop2 (F := bX5_layOut_12 q fun M3 => some M3) (E := fun M3 => some M3) (m := 40) (fun i => clL (zst (zst M q 1 a) q 2 b) (q + 1) 0 i) (fun rc => by
    unfold bX5_layOut_12
    rw [if_pos (show (40 : Int32) ≤ nI 40 from nI_le (Nat.le_refl 40) (by decide))]) (fun rc i hi => by
    unfold bX5_layOut_12
    have e := clL_s (M := zst (zst M q 1 a) q 2 b) (a := q + 1) (b := 0) (i := i)
    rw [Nat.zero_add] at e
    simp only [if_neg (show ¬ (40 : Int32) ≤ nI i from nI_ge hi (by decide)), ix40 hi, z_bs, nI_1, e]) 40 0 zFuel (by omega) (zF0 (by omega))
  simp only [clL_0] at this
  exact this
theorem m_clear {s : Nat} (hs : s < 4) {E : zM → Option (Int32 × zM)} : lX10_sheet_86 (nI s) E zFuel N 0 = E (clL N 9 (40 * s) 40) := by
  have := loop2 (F := bX10_sheet_86 (nI s) E) (E := E) (m := 40) (fun i => clL N 9 (40 * s) i) (fun rc => by
    unfold bX10_sheet_86
    rw [if_pos (show (40 : Int32) ≤ nI 40 from nI_le (Nat.le_refl 40) (by decide))]) (fun rc i hi => by
    unfold bX10_sheet_86
    simp only [if_neg (show ¬ (40 : Int32) ≤ nI i from nI_ge hi (by decide)), ix160 hs hi, z_bs, nI_1, clL_s]) 40 0 zFuel (by omega) (zF0 (by omega))
  simp only [clL_0] at this
  exact this
theorem sheet_rel (h : Rel M N) {s l : Nat} (hs : s < 4) (hl : l ≤ 40) (b : Int32) : Rel (clL (zst (zst M (42 + 2 * s) 1 b) (42 + 2 * s) 2 (nI l)) (42 + 2 * s + 1) 0 40) (clL (zst (zst N 7 s b) 8 s (nI l)) 9 (40 * s) 40) := by
  refine h.sh (fun k hk => ?_) (fun k h7 h8 => ?_) (fun i hi => ?_)
  · show (zst (zst M (42 + 2 * s) 1 b) (42 + 2 * s) 2 (nI l)).1 k = M.1 k
    rw [st_ne (by omega), st_ne (by omega)]
  · show (zst (zst N 7 s b) 8 s (nI l)).1 k = N.1 k
    rw [st_ne h8, st_ne h7]
  · obtain ⟨a1, ⟨l', b1, b2, b3⟩, c1⟩ := h.2.2.2.2 i hi
    show (zst (zst M (42 + 2 * s) 1 b) (42 + 2 * s) 2 (nI l)).1 (42 + 2 * i) 1 = (zst (zst N 7 s b) 8 s (nI l)).1 7 i ∧ (∃ l', l' ≤ 40 ∧ (zst (zst M (42 + 2 * s) 1 b) (42 + 2 * s) 2 (nI l)).1 (42 + 2 * i) 2 = nI l' ∧ (zst (zst N 7 s b) 8 s (nI l)).1 8 i = nI l') ∧ ∀ j, j < 40 → (if 42 + 2 * i + 1 = 42 + 2 * s + 1 ∧ 0 ≤ j ∧ j < 0 + 40 then 0 else M.2 (42 + 2 * i + 1) j) = if 9 = 9 ∧ 40 * s ≤ 40 * i + j ∧ 40 * i + j < 40 * s + 40 then 0 else N.2 9 (40 * i + j)
    by_cases q : i = s
    · subst q
      refine ⟨?_, ⟨l, hl, ?_, ?_⟩, fun j hj => ?_⟩
      · rw [zst_g, if_neg (by omega), zst_g, if_pos ⟨rfl, rfl⟩, st_ne (by decide), zst_g, if_pos ⟨rfl, rfl⟩]
      · rw [zst_g, if_pos ⟨rfl, rfl⟩]
      · rw [zst_g, if_pos ⟨rfl, rfl⟩]
      · rw [if_pos ⟨rfl, by omega, by omega⟩, if_pos ⟨rfl, by omega, by omega⟩]
    · refine ⟨?_, ⟨l', b1, ?_, ?_⟩, fun j hj => ?_⟩
      · rw [st_ne (by omega), st_ne (by omega), st_ne (by decide), zst_g, if_neg (fun z => q z.2)]; exact a1
      · rw [st_ne (by omega), st_ne (by omega)]; exact b2
      · rw [zst_g, if_neg (fun z => q z.2), st_ne (by decide)]; exact b3
      · rw [if_neg (by omega), if_neg (by omega)]; exact c1 j hj
theorem s_sheet (h : Rel M N) (a b d : Int32) : Okk (fX9_sheet M a b d) (fX10_sheet N a b d) := by
  unfold fX9_sheet fX10_sheet
  rcases g_sheet a with ⟨s, hs, rfl, e1, e2⟩ | ⟨e1, e2⟩
  · simp only [e1, e2, z_bn, o1, zj_n, ix4 hs, c_layOut, m_clear hs]
    have core : Okk (if (0 : Int32) ≤ d then (if d ≤ (40 : Int32) then (if b = (0 : Int32) then some ((clL (zst (zst M (42 + 2 * s) 1 b) (42 + 2 * s) 2 0) (42 + 2 * s + 1) 0 40).1 (42 + 2 * s) 2, clL (zst (zst M (42 + 2 * s) 1 b) (42 + 2 * s) 2 0) (42 + 2 * s + 1) 0 40) else some ((clL (zst (zst M (42 + 2 * s) 1 b) (42 + 2 * s) 2 d) (42 + 2 * s + 1) 0 40).1 (42 + 2 * s) 2, clL (zst (zst M (42 + 2 * s) 1 b) (42 + 2 * s) 2 d) (42 + 2 * s + 1) 0 40)) else (zb2 (fX9_finding M (0 : Int32)) fun x14 M15 => some (x14, M15))) else (zb2 (fX9_finding M (6 : Int32)) fun x16 M17 => some (x16, M17)))
        (if (0 : Int32) ≤ d then (if d ≤ (40 : Int32) then (if b = (0 : Int32) then some ((clL (zst (zst N 7 s b) 8 s 0) 9 (40 * s) 40).1 8 s, clL (zst (zst N 7 s b) 8 s 0) 9 (40 * s) 40) else some ((clL (zst (zst N 7 s b) 8 s d) 9 (40 * s) 40).1 8 s, clL (zst (zst N 7 s b) 8 s d) 9 (40 * s) 40)) else (zb2 (fX10_finds N (-1000000001 : Int32)) fun x25 M26 => some (x25, M26))) else (zb2 (fX10_finds N (-1000000007 : Int32)) fun x27 M28 => some (x27, M28))) := by
      by_cases q0 : (0 : Int32) ≤ d
      · rw [if_pos q0, if_pos q0]
        by_cases q1 : d ≤ 40
        · rw [if_pos q1, if_pos q1]
          have e0 : (0 : Int32).toInt = 0 := rfl
          have e40 : (40 : Int32).toInt = 40 := rfl
          rw [i_le] at q0 q1
          have ed := nI_toNat (a := d) (by omega)
          generalize hl : d.toInt.toNat = l at ed
          have hl40 : l ≤ 40 := by omega
          subst ed
          by_cases qb : b = 0
          · rw [if_pos qb, if_pos qb]
            refine Okk.st ?_ (sheet_rel h hs (l := 0) (by omega) b)
            show (zst (zst M (42 + 2 * s) 1 b) (42 + 2 * s) 2 0).1 (42 + 2 * s) 2 = (zst (zst N 7 s b) 8 s 0).1 8 s
            rw [zst_g, if_pos ⟨rfl, rfl⟩, zst_g, if_pos ⟨rfl, rfl⟩]
          · rw [if_neg qb, if_neg qb]
            refine Okk.st ?_ (sheet_rel h hs (l := l) hl40 b)
            show (zst (zst M (42 + 2 * s) 1 b) (42 + 2 * s) 2 (nI l)).1 (42 + 2 * s) 2 = (zst (zst N 7 s b) 8 s (nI l)).1 8 s
            rw [zst_g, if_pos ⟨rfl, rfl⟩, zst_g, if_pos ⟨rfl, rfl⟩]
        · rw [if_neg q1, if_neg q1]; exact fd0 h
      · rw [if_neg q0, if_neg q0]; exact fd6 h
    by_cases b0 : b = 0
    · simp only [if_pos b0] at core ⊢; exact core
    · by_cases b8 : b = 8
      · simp only [if_neg b0, if_pos b8] at core ⊢; exact core
      · by_cases b16 : b = 16
        · simp only [if_neg b0, if_neg b8, if_pos b16] at core ⊢; exact core
        · by_cases b64 : b = 64
          · simp only [if_neg b0, if_neg b8, if_neg b16, if_pos b64] at core ⊢; exact core
          · simp only [if_neg b0, if_neg b8, if_neg b16, if_neg b64]; exact fd0 h
  · simp only [e1, e2, z_bn, o0]; exact fd0 h
def nar (b : Int32) (v : Int64) : Int64 := if b = 8 then v.toInt32.toInt8.toInt32.toInt64 else if b = 16 then v.toInt32.toInt16.toInt32.toInt64 else v
theorem m_nar (b : Int32) (v : Int64) : fX10_narrowed b v = some (nar b v) := by
  unfold fX10_narrowed nar
  by_cases h : b = 8
  · rw [if_pos h, if_pos h]
  · rw [if_neg h, if_neg h]
    by_cases h2 : b = 16
    · rw [if_pos h2, if_pos h2]
    · rw [if_neg h2, if_neg h2]
theorem c_put {q j : Nat} (hj : j < 40) (v : Int64) : fX5_put M q (nI j) v = some (zstL M (q + 1) j (nar (M.1 q 1) v)) := by
  unfold fX5_put nar
  simp only [ix40 hj, z_bs]
  by_cases h : M.1 q 1 = 8
  · rw [if_pos h, if_pos h]
  · rw [if_neg h, if_neg h]
    by_cases h2 : M.1 q 1 = 16
    · rw [if_pos h2, if_pos h2]
    · rw [if_neg h2, if_neg h2]
theorem c_miss {q : Nat} : fX5_isMissing M q = some (if M.1 q 1 = 0 then 1 else 0) := by
  unfold fX5_isMissing
  by_cases h : M.1 q 1 = 0
  · rw [if_pos h, if_pos h]; rfl
  · rw [if_neg h, if_neg h]; rfl
/-- which sheet, as both ask it -/
theorem g_sh (h : Rel M N) (a : Int32) : (fX9_isSheet a = some 0 ∧ fX10_wrongSheet N a = some (-1000000001) ∧ fX10_isOne a = some 0) ∨ (∃ s, s < 4 ∧ a = nI s ∧ fX9_isSheet a = some 1 ∧ fX10_isOne a = some 1 ∧ ((M.1 (42 + 2 * s) 1 = 0 ∧ N.1 7 s = 0 ∧ fX5_isMissing M (42 + 2 * s) = some 1 ∧ fX10_wrongSheet N a = some (-1000000006)) ∨ (¬ M.1 (42 + 2 * s) 1 = 0 ∧ ¬ N.1 7 s = 0 ∧ fX5_isMissing M (42 + 2 * s) = some 0 ∧ fX10_wrongSheet N a = some 0))) := by
  rcases g_sheet a with ⟨s, hs, rfl, e1, e2⟩ | ⟨e1, e2⟩
  · obtain ⟨a1, b1, c1⟩ := h.2.2.2.2 s hs
    refine Or.inr ⟨s, hs, rfl, e1, e2, ?_⟩
    unfold fX10_wrongSheet
    rw [e2, z_bs, o1, ix4 hs, z_bs, c_miss, a1]
    by_cases q : N.1 7 s = 0
    · rw [if_pos q, if_pos q]; exact Or.inl ⟨q, q, rfl, rfl⟩
    · rw [if_neg q, if_neg q]; exact Or.inr ⟨q, q, rfl, rfl⟩
  · refine Or.inl ⟨e1, ?_, e2⟩
    unfold fX10_wrongSheet
    rw [e2, z_bs, o0]
theorem ne1 {α : Type} {x y : α} : (if (-1000000001 : Int32) = 0 then x else y) = y := if_neg (by decide)
theorem ne6 {α : Type} {x y : α} : (if (-1000000006 : Int32) = 0 then x else y) = y := if_neg (by decide)
theorem fdL0 (h : Rel M N) : Okk (zb2 (fX9_finding M 0) fun a b => some (a.toInt64, b)) (zb2 (fX10_finds N (-1000000001)) fun a b => some (a.toInt64, b)) := fdL (k := 0) h (by decide) rfl (by decide)
theorem fdL5 (h : Rel M N) : Okk (zb2 (fX9_finding M 5) fun a b => some (a.toInt64, b)) (zb2 (fX10_finds N (-1000000006)) fun a b => some (a.toInt64, b)) := fdL (k := 5) h (by decide) rfl (by decide)
theorem s_write (h : Rel M N) (a b : Int32) (v : Int64) : Okk (fX9_write M a b v) (fX10_write N a b v) := by
  unfold fX9_write fX10_write
  rcases g_sh h a with ⟨e1, e2, _⟩ | ⟨s, hs, rfl, e1, _, ⟨_, _, e3, e4⟩ | ⟨q1, q2, e3, e4⟩⟩
  · simp only [e1, e2, z_bn, o0, ne1]; exact fdL0 h
  · simp only [e1, e3, e4, z_bn, o1, ix4 hs, ne6]; exact fdL5 h
  · obtain ⟨a1, ⟨l, l1, l2, l3⟩, c1⟩ := h.2.2.2.2 s hs
    have eh : (((N.1 8 s) - (1 : Int32)).toInt64).toInt = (l : Int) - 1 := by rw [l3]; exact m_lim (by omega)
    have g : (∃ j, j < l ∧ b = nI j ∧ fX10_in b.toInt64 0 ((N.1 8 s) - (1 : Int32)).toInt64 = some 1) ∨ (fX10_in b.toInt64 0 ((N.1 8 s) - (1 : Int32)).toInt64 = some 0 ∧ ¬ (0 ≤ b.toInt ∧ b.toInt < l)) := by
      rw [m_in, Int32.toInt_toInt64, eh, show (0 : Int64).toInt = 0 from rfl]
      by_cases q : 0 ≤ b.toInt ∧ b.toInt < l
      · rw [if_pos (by omega)]; exact Or.inl ⟨b.toInt.toNat, by omega, nI_toNat q.1, rfl⟩
      · rw [if_neg (by omega)]; exact Or.inr ⟨rfl, q⟩
    rcases g with ⟨j, hj, rfl, e5⟩ | ⟨e5, q⟩
    · simp only [e1, e3, e4, e5, z_bn, o1, if_true, ix4 hs, ix40 (show j < 40 by omega), ix160 hs (show j < 40 by omega), if_neg (nI_pos (show j < 2 ^ 31 by omega)), l2, if_pos (nI_lt hj (show l < 2 ^ 31 by omega)), c_put (show j < 40 by omega), m_nar]
      refine Okk.mk (r := M.2 (42 + 2 * s + 1) j) (N' := zstL N 9 (40 * s + j) (nar (N.1 7 s) v)) rfl ?_ ?_
      · rw [c1 j (by omega)]
      · refine h.sh (fun _ _ => rfl) (fun _ _ _ => rfl) ?_
        rw [a1]
        exact RelS.num h.2.2.2.2 hs (by omega) _
    · have e0 : (0 : Int32).toInt = 0 := rfl
      have el : (nI l).toInt = l := nI_toInt (by omega)
      simp only [e1, e3, e4, e5, z_bn, o1, if_true, ix4 hs, l2]
      by_cases q3 : b < 0
      · rw [if_pos q3]; exact fdL0 h
      · rw [if_neg q3, if_neg (show ¬ b < nI l by rw [i_lt] at q3 ⊢; omega)]; exact fdL0 h
end TH
