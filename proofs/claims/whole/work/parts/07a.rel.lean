/-! the relation of the class's memory and the model's; guards; findings -/
def RelL (M N : zM) : Prop := ∃ n nb nw, n ≤ 99999 ∧ Sim 1 n nb nw M (N.1 1)
def RelK (M N : zM) : Prop := M.1 0 3 = N.1 0 5 ∧ (N.1 0 5 = 0 ∨ N.1 0 5 = 1 ∧ ∃ n nb nw, n ≤ 99999 ∧ Sim 21 n nb nw M (N.1 2))
def RelF (M N : zM) : Prop := ∀ j, j < 7 → M.1 33 j = N.1 5 j
def RelX (M N : zM) : Prop := ∃ L, L ≤ 120 ∧ M.1 31 2 = nI L ∧ N.1 0 7 = nI L ∧ ∀ j, j < L → M.1 32 j = N.1 6 j
def RelS (M N : zM) : Prop := ∀ i, i < 4 → M.1 (42 + 2 * i) 1 = N.1 7 i ∧ (∃ l, l ≤ 40 ∧ M.1 (42 + 2 * i) 2 = nI l ∧ N.1 8 i = nI l) ∧ ∀ j, j < 40 → M.2 (42 + 2 * i + 1) j = N.2 9 (40 * i + j)
def Rel (M N : zM) : Prop := RelL M N ∧ RelK M N ∧ RelF M N ∧ RelX M N ∧ RelS M N
def Okk {α : Type} (x y : Option (α × zM)) : Prop := ∃ r M' N', x = some (r, M') ∧ y = some (r, N') ∧ Rel M' N'
section TA
variable {M N M' N' : zM}
theorem RelK.mv (h : RelK M N) (h0 : M'.1 0 3 = M.1 0 3) (h1 : ∀ k, 21 ≤ k → k < 31 → M'.1 k = M.1 k) (h2 : N'.1 0 5 = N.1 0 5) (h3 : ∀ j, j < 59 → N'.1 2 j = N.1 2 j) : RelK M' N' := by
  obtain ⟨a, b⟩ := h
  refine ⟨by rw [h0, h2]; exact a, ?_⟩
  rw [h2]
  rcases b with b | ⟨b, n, nb, nw, hn, hs⟩
  · exact Or.inl b
  · exact Or.inr ⟨b, n, nb, nw, hn, (hs.congrM (fun k k1 k2 => h1 k (by omega) (by omega))).congr h3⟩
theorem RelL.mv (h : RelL M N) (h1 : ∀ k, 1 ≤ k → k < 11 → M'.1 k = M.1 k) (h3 : ∀ j, j < 59 → N'.1 1 j = N.1 1 j) : RelL M' N' := by
  obtain ⟨n, nb, nw, hn, hs⟩ := h
  exact ⟨n, nb, nw, hn, (hs.congrM (fun k k1 k2 => h1 k (by omega) (by omega))).congr h3⟩
theorem RelX.mv (h : RelX M N) (h0 : M'.1 31 2 = M.1 31 2) (h1 : M'.1 32 = M.1 32) (h2 : N'.1 0 7 = N.1 0 7) (h3 : N'.1 6 = N.1 6) : RelX M' N' := by
  obtain ⟨L, a, b, c, d⟩ := h
  exact ⟨L, a, by rw [h0]; exact b, by rw [h2]; exact c, fun j hj => by rw [h1, h3]; exact d j hj⟩
theorem RelF.mv (h : RelF M N) (h0 : M'.1 33 = M.1 33) (h1 : N'.1 5 = N.1 5) : RelF M' N' := fun j hj => by rw [h0, h1]; exact h j hj
theorem RelS.mv (h : RelS M N) (h0 : ∀ k, 42 ≤ k → k < 50 → M'.1 k = M.1 k) (h1 : M'.2 = M.2) (h2 : N'.1 7 = N.1 7) (h3 : N'.1 8 = N.1 8) (h4 : N'.2 = N.2) : RelS M' N' := by
  intro i hi
  rw [h0 (42 + 2 * i) (by omega) (by omega), h1, h2, h3, h4]
  exact h i hi
/-- the trial and what the model lays aside are free -/
theorem Rel.mv (h : Rel M N) (hM : ∀ k, k < 11 ∨ 21 ≤ k → M'.1 k = M.1 k) (hM2 : M'.2 = M.2) (hN : FrA N N') : Rel M' N' := by
  obtain ⟨a, b, c, d, e⟩ := h
  refine ⟨a.mv (fun k k1 k2 => hM k (by omega)) hN.1, b.mv (by rw [hM 0 (by omega)]) (fun k k1 k2 => hM k (by omega)) (by rw [hN.2.1 0 (by decide) (by decide)]) (fun j hj => by rw [hN.2.1 2 (by decide) (by decide)]), c.mv (hM 33 (by omega)) (hN.2.1 5 (by decide) (by decide)), d.mv (by rw [hM 31 (by omega)]) (hM 32 (by omega)) (by rw [hN.2.1 0 (by decide) (by decide)]) (hN.2.1 6 (by decide) (by decide)), e.mv (fun k k1 k2 => hM k (by omega)) hM2 (hN.2.1 7 (by decide) (by decide)) (hN.2.1 8 (by decide) (by decide)) hN.2.2⟩
theorem Rel.mvT (h : Rel M N) (hM : FrT 11 M M') (hN : FrA N N') : Rel M' N' := h.mv (fun k hk => hM.1 k (by omega)) hM.2 hN
/-- the live trade changes -/
theorem Rel.live (h : Rel M N) (hM : FrT 1 M M') (hN : FrN N N') {n nb nw : Nat} (hn : n ≤ 99999) (hS : Sim 1 n nb nw M' (N'.1 1)) : Rel M' N' := by
  obtain ⟨a, b, c, d, e⟩ := h
  refine ⟨⟨n, nb, nw, hn, hS⟩, b.mv (by rw [hM.1 0 (by omega)]) (fun k k1 k2 => hM.1 k (by omega)) (by rw [hN.1 0 (by decide)]) (fun j hj => by rw [hN.1 2 (by decide)]), c.mv (hM.1 33 (by omega)) (hN.1 5 (by decide)), d.mv (by rw [hM.1 31 (by omega)]) (hM.1 32 (by omega)) (by rw [hN.1 0 (by decide)]) (hN.1 6 (by decide)), e.mv (fun k k1 k2 => hM.1 k (by omega)) hM.2 (hN.1 7 (by decide)) (hN.1 8 (by decide)) hN.2⟩
theorem Rel.find (h : Rel M N) {k : Nat} (hk : k < 7) : Rel (zst M 33 k (M.1 33 k + 1)) (zst N 5 k (N.1 5 k + 1)) := by
  obtain ⟨a, b, c, d, e⟩ := h
  refine ⟨a.mv (fun q q1 q2 => st_ne (by omega)) (fun j hj => by rw [st_ne (by decide)]), b.mv (by rw [st_ne (by decide)]) (fun q q1 q2 => st_ne (by omega)) (by rw [st_ne (by decide)]) (fun j hj => by rw [st_ne (by decide)]), fun j hj => ?_, d.mv (by rw [st_ne (by decide)]) (st_ne (by decide)) (by rw [st_ne (by decide)]) (st_ne (by decide)), e.mv (fun q q1 q2 => st_ne (by omega)) rfl (st_ne (by decide)) (st_ne (by decide)) rfl⟩
  rw [zst_g, zst_g, c k hk, c j hj]
  by_cases q : j = k
  · rw [if_pos ⟨rfl, q⟩, if_pos ⟨rfl, q⟩]
  · rw [if_neg (fun z => q z.2), if_neg (fun z => q z.2)]
theorem c_find {k : Nat} (hk : k < 7) : fX9_finding M (nI k) = some (-1000000001 - nI k, zst M 33 k (M.1 33 k + 1)) := by
  unfold fX9_finding
  simp only [zix_nI hk (show 7 < 2 ^ 31 by decide), z_bs]
theorem m_find {k : Nat} (hk : k < 7) : fX10_finds N (-1000000001 - nI k) = some (-1000000001 - nI k, zst N 5 k (N.1 5 k + 1)) := by
  have e : (-1000000001 : Int32) - (-1000000001 - nI k) = nI k := by
    rcases (show k = 0 ∨ k = 1 ∨ k = 2 ∨ k = 3 ∨ k = 4 ∨ k = 5 ∨ k = 6 by omega) with rfl | rfl | rfl | rfl | rfl | rfl | rfl <;> decide
  unfold fX10_finds
  simp only [z_bs, e, zix_nI hk (show 7 < 2 ^ 31 by decide)]
theorem fd {k : Nat} (h : Rel M N) (hk : k < 7) {x y : Int32} (hx : x = nI k) (hy : y = -1000000001 - nI k) : Okk (zb2 (fX9_finding M x) fun a b => some (a, b)) (zb2 (fX10_finds N y) fun a b => some (a, b)) := by
  subst hx hy
  rw [c_find hk, m_find hk, zb2_s, zb2_s]
  exact ⟨_, _, _, rfl, rfl, h.find hk⟩
theorem fdL {k : Nat} (h : Rel M N) (hk : k < 7) {x y : Int32} (hx : x = nI k) (hy : y = -1000000001 - nI k) : Okk (zb2 (fX9_finding M x) fun a b => some (a.toInt64, b)) (zb2 (fX10_finds N y) fun a b => some (a.toInt64, b)) := by
  subst hx hy
  rw [c_find hk, m_find hk, zb2_s, zb2_s]
  exact ⟨_, _, _, rfl, rfl, h.find hk⟩
theorem fd0 (h : Rel M N) : Okk (zb2 (fX9_finding M 0) fun a b => some (a, b)) (zb2 (fX10_finds N (-1000000001)) fun a b => some (a, b)) := fd (k := 0) h (by decide) rfl (by decide)
theorem fd1 (h : Rel M N) : Okk (zb2 (fX9_finding M 1) fun a b => some (a, b)) (zb2 (fX10_finds N (-1000000002)) fun a b => some (a, b)) := fd (k := 1) h (by decide) rfl (by decide)
theorem fd2 (h : Rel M N) : Okk (zb2 (fX9_finding M 2) fun a b => some (a, b)) (zb2 (fX10_finds N (-1000000003)) fun a b => some (a, b)) := fd (k := 2) h (by decide) rfl (by decide)
theorem fd3 (h : Rel M N) : Okk (zb2 (fX9_finding M 3) fun a b => some (a, b)) (zb2 (fX10_finds N (-1000000004)) fun a b => some (a, b)) := fd (k := 3) h (by decide) rfl (by decide)
theorem fd4 (h : Rel M N) : Okk (zb2 (fX9_finding M 4) fun a b => some (a, b)) (zb2 (fX10_finds N (-1000000005)) fun a b => some (a, b)) := fd (k := 4) h (by decide) rfl (by decide)
theorem fd5 (h : Rel M N) : Okk (zb2 (fX9_finding M 5) fun a b => some (a, b)) (zb2 (fX10_finds N (-1000000006)) fun a b => some (a, b)) := fd (k := 5) h (by decide) rfl (by decide)
theorem fd6 (h : Rel M N) : Okk (zb2 (fX9_finding M 6) fun a b => some (a, b)) (zb2 (fX10_finds N (-1000000007)) fun a b => some (a, b)) := fd (k := 6) h (by decide) rfl (by decide)
theorem o0 {α : Type} {x y : α} : (if (0 : Int32) = 0 then x else y) = x := if_pos rfl
theorem o1 {α : Type} {x y : α} : (if (1 : Int32) = 0 then x else y) = y := if_neg (by decide)
theorem nI_toNat {a : Int32} (h : 0 ≤ a.toInt) : a = nI a.toInt.toNat := by
  apply Int32.toInt_inj.mp
  have h2 : a.toInt < 2 ^ 31 := Int32.toInt_lt a
  rw [nI_toInt (by omega)]; omega
theorem m_in (x y z : Int64) : fX10_in x y z = some (if y.toInt ≤ x.toInt ∧ x.toInt ≤ z.toInt then 1 else 0) := by
  unfold fX10_in
  by_cases h1 : lg_cmp x y < 0
  · rw [if_pos h1, zbl0]
    rw [lg_cmp_lt, Int64.lt_iff_toInt_lt] at h1
    rw [if_neg (by omega)]
  · rw [if_neg h1]
    rw [lg_cmp_lt, Int64.lt_iff_toInt_lt] at h1
    by_cases h2 : 0 < lg_cmp x z
    · rw [if_pos h2, zbl0]
      rw [lg_cmp_gt, Int64.lt_iff_toInt_lt] at h2
      rw [if_neg (by omega)]
    · rw [if_neg h2, zbl1]
      rw [lg_cmp_gt, Int64.lt_iff_toInt_lt] at h2
      rw [if_pos (by omega)]
theorem c_within (x y z : Int32) : fX9_isWithin x y z = some (if y.toInt ≤ x.toInt ∧ x.toInt ≤ z.toInt then 1 else 0) := by
  unfold fX9_isWithin
  by_cases h1 : x < y
  · rw [if_pos h1, zbl0]
    rw [i_lt] at h1
    rw [if_neg (by omega)]
  · rw [if_neg h1]
    rw [i_lt] at h1
    by_cases h2 : z < x
    · rw [if_pos h2, zbl0]
      rw [i_lt] at h2
      rw [if_neg (by omega)]
    · rw [if_neg h2, zbl1]
      rw [i_lt] at h2
      rw [if_pos (by omega)]
theorem zbl01 {c : Prop} [Decidable c] : zbl (if c then 1 else 0) = some (if c then 1 else 0) := by
  by_cases h : c
  · rw [if_pos h]; rfl
  · rw [if_neg h]; rfl
/-- within two numbers, as both ask it -/
theorem g_in (a : Int32) {lo hi : Int32} {lo' hi' : Int64} (e1 : lo'.toInt = lo.toInt) (e2 : hi'.toInt = hi.toInt) : (lo.toInt ≤ a.toInt ∧ a.toInt ≤ hi.toInt ∧ fX9_isWithin a lo hi = some 1 ∧ fX10_in a.toInt64 lo' hi' = some 1) ∨ (¬ (lo.toInt ≤ a.toInt ∧ a.toInt ≤ hi.toInt) ∧ fX9_isWithin a lo hi = some 0 ∧ fX10_in a.toInt64 lo' hi' = some 0) := by
  rw [c_within, m_in, Int32.toInt_toInt64, e1, e2]
  by_cases h : lo.toInt ≤ a.toInt ∧ a.toInt ≤ hi.toInt
  · rw [if_pos h]; exact Or.inl ⟨h.1, h.2, rfl, rfl⟩
  · rw [if_neg h]; exact Or.inr ⟨h, rfl, rfl⟩
theorem c_lt6 (a : Int32) : (if a < 0 then zbl 0 else if (6 : Int32) ≤ a then zbl 0 else zbl 1) = some (if 0 ≤ a.toInt ∧ a.toInt ≤ 5 then 1 else 0) := by
  by_cases h1 : a < 0
  · rw [if_pos h1, zbl0]; rw [i_lt] at h1; rw [if_neg (by have : (0 : Int32).toInt = 0 := rfl; omega)]
  · rw [if_neg h1]; rw [i_lt] at h1
    by_cases h2 : (6 : Int32) ≤ a
    · rw [if_pos h2, zbl0]; rw [i_le] at h2; rw [if_neg (by have : (6 : Int32).toInt = 6 := rfl; omega)]
    · rw [if_neg h2, zbl1]; rw [i_le] at h2; rw [if_pos (by have : (6 : Int32).toInt = 6 := rfl; have : (0 : Int32).toInt = 0 := rfl; omega)]
theorem c_ltn (a : Int32) {m : Nat} (hm : m < 2 ^ 30) : (if a < 0 then zbl 0 else if nI m ≤ a then zbl 0 else zbl 1) = some (if 0 ≤ a.toInt ∧ a.toInt < m then 1 else 0) := by
  have e0 : (0 : Int32).toInt = 0 := rfl
  have em : (nI m).toInt = m := nI_toInt (by omega)
  by_cases h1 : a < 0
  · rw [if_pos h1, zbl0]; rw [i_lt] at h1; rw [if_neg (by omega)]
  · rw [if_neg h1]; rw [i_lt] at h1
    by_cases h2 : nI m ≤ a
    · rw [if_pos h2, zbl0]; rw [i_le] at h2; rw [if_neg (by omega)]
    · rw [if_neg h2, zbl1]; rw [i_le] at h2; rw [if_pos (by omega)]
theorem m_lim {m : Nat} (hm : m < 2 ^ 30) : ((nI m - 1).toInt64).toInt = (m : Int) - 1 := by
  rw [Int32.toInt_toInt64]
  exact pk_sub_toInt (b := 1) hm (by decide)
/-- a number of so many, as both ask it -/
theorem g_lt (a : Int32) {m : Nat} (hm : m < 2 ^ 30) {x : Option Int32} {hi : Int64} (ex : x = if a < 0 then zbl 0 else if nI m ≤ a then zbl 0 else zbl 1) (ey : hi.toInt = (m : Int) - 1) : (∃ j, j < m ∧ a = nI j ∧ x = some 1 ∧ ((fX10_in a.toInt64 0 hi).bind fun v => zbl v) = some 1) ∨ (x = some 0 ∧ ((fX10_in a.toInt64 0 hi).bind fun v => zbl v) = some 0) := by
  rw [ex, c_ltn a hm, m_in, z_bs, Int32.toInt_toInt64, ey, zbl01, show (0 : Int64).toInt = 0 from rfl]
  by_cases h : 0 ≤ a.toInt ∧ a.toInt < m
  · rw [if_pos h, if_pos (by omega)]
    exact Or.inl ⟨a.toInt.toNat, by omega, nI_toNat h.1, rfl, rfl⟩
  · rw [if_neg h, if_neg (by omega)]; exact Or.inr ⟨rfl, rfl⟩
theorem g_house (a : Int32) : (∃ x, x < 6 ∧ a = nI x ∧ fX9_isHouse a = some 1 ∧ fX10_isHouse a = some 1) ∨ (fX9_isHouse a = some 0 ∧ fX10_isHouse a = some 0) := g_lt (m := 6) a (by decide) rfl (by decide)
theorem g_kind (a : Int32) : (∃ x, x < 6 ∧ a = nI x ∧ fX9_isKind a = some 1 ∧ fX10_isKind a = some 1) ∨ (fX9_isKind a = some 0 ∧ fX10_isKind a = some 0) := g_lt (m := 6) a (by decide) rfl (by decide)
theorem g_sheet (a : Int32) : (∃ x, x < 4 ∧ a = nI x ∧ fX9_isSheet a = some 1 ∧ fX10_isOne a = some 1) ∨ (fX9_isSheet a = some 0 ∧ fX10_isOne a = some 0) := g_lt (m := 4) a (by decide) rfl (by decide)
theorem g_beard {n nb nw : Nat} (h : Sim 1 n nb nw M (N.1 1)) (a : Int32) : (∃ x, x < nb ∧ a = nI x ∧ fX9_isBeard M a = some 1 ∧ fX10_isBeard N a = some 1) ∨ (fX9_isBeard M a = some 0 ∧ fX10_isBeard N a = some 0) := by
  have := h.nbl
  refine g_lt (m := nb) a (by omega) ?_ ?_
  · unfold fX9_isBeard; rw [h.1.b1, h.e1]
  · rw [h.e1]; exact m_lim (by omega)
theorem g_wearer {n nb nw : Nat} (h : Sim 1 n nb nw M (N.1 1)) (a : Int32) : (∃ x, x < nw ∧ a = nI x ∧ fX9_isWearer M a = some 1 ∧ fX10_isWearer N a = some 1) ∨ (fX9_isWearer M a = some 0 ∧ fX10_isWearer N a = some 0) := by
  have := h.nwl
  refine g_lt (m := nw) a (by omega) ?_ ?_
  · unfold fX9_isWearer; rw [h.1.w2, h.e2]
  · rw [h.e2]; exact m_lim (by omega)
/-- a number within 0 and some, as both ask it -/
theorem g_upto (a : Int32) {m : Nat} {lo hi : Int32} {lo' hi' : Int64} {l : Nat} (e1 : lo'.toInt = lo.toInt) (e2 : hi'.toInt = hi.toInt) (e3 : lo.toInt = l) (e4 : hi.toInt = m) : (∃ j, l ≤ j ∧ j ≤ m ∧ a = nI j ∧ fX9_isWithin a lo hi = some 1 ∧ fX10_in a.toInt64 lo' hi' = some 1) ∨ (fX9_isWithin a lo hi = some 0 ∧ fX10_in a.toInt64 lo' hi' = some 0) := by
  rcases g_in a e1 e2 with ⟨h1, h2, h3, h4⟩ | ⟨h1, h3, h4⟩
  · exact Or.inl ⟨a.toInt.toNat, by omega, by omega, nI_toNat (by omega), h3, h4⟩
  · exact Or.inr ⟨h3, h4⟩
theorem g_ahead (a : Int32) : (∃ j, j ≤ 200 ∧ a = nI j ∧ fX9_isWithin a 0 200 = some 1 ∧ fX10_isAhead a = some 1) ∨ (fX9_isWithin a 0 200 = some 0 ∧ fX10_isAhead a = some 0) := by
  unfold fX10_isAhead
  rcases g_upto a (lo := 0) (hi := 200) (lo' := 0) (hi' := 200) (l := 0) (m := 200) (by decide) (by decide) (by decide) (by decide) with ⟨j, h1, h2, h3, h4, h5⟩ | ⟨h4, h5⟩
  · exact Or.inl ⟨j, h2, h3, h4, by rw [h5]; rfl⟩
  · exact Or.inr ⟨h4, by rw [h5]; rfl⟩
theorem g_soon (a : Int32) : (∃ j, 1 ≤ j ∧ j ≤ 60 ∧ a = nI j ∧ fX9_isWithin a 1 60 = some 1 ∧ fX10_isSoon a = some 1) ∨ (fX9_isWithin a 1 60 = some 0 ∧ fX10_isSoon a = some 0) := by
  unfold fX10_isSoon
  rcases g_upto a (lo := 1) (hi := 60) (lo' := 1) (hi' := 60) (l := 1) (m := 60) (by decide) (by decide) (by decide) (by decide) with ⟨j, h1, h2, h3, h4, h5⟩ | ⟨h4, h5⟩
  · exact Or.inl ⟨j, h1, h2, h3, h4, by rw [h5]; rfl⟩
  · exact Or.inr ⟨h4, by rw [h5]; rfl⟩
end TA
