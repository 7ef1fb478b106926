/-! the text: one token on -/
section TM
variable {M N M' N' : zM}
theorem zst_comm {k j j' : Nat} {a b : Int32} (h : j ≠ j') : zst (zst M k j a) k j' b = zst (zst M k j' b) k j a := by
  refine Prod.ext ?_ rfl
  funext x y
  show (if x = k ∧ y = j' then b else if x = k ∧ y = j then a else M.1 x y) = if x = k ∧ y = j then a else if x = k ∧ y = j' then b else M.1 x y
  by_cases h1 : x = k ∧ y = j
  · rw [if_pos h1, if_neg (fun z => h (h1.2.symm.trans z.2))]
    exact (if_pos h1).symm
  · rw [if_neg h1, if_neg h1]
theorem m_to0 {E : zM → Option zM} {f : Nat} : zL1 (bX10_token_86 0 0 E) (f + 1) N = E N := by
  rw [zL1_e]; unfold bX10_token_86
  rw [zj_n, zj_n, o0, o0]
theorem m_toW {L e : Nat} {E : zM → Option zM} (hL : L ≤ 120) (e1 : N.1 0 7 = nI L) (he : e ≤ L) (hend : e = L ∨ ¬ lt (N.1 6 e)) : ∀ (d j f : Nat), j + d = e → d < f → (∀ i, j ≤ i → i < e → lt (N.1 6 i)) → zL1 (bX10_token_86 1 0 E) f (zst N 0 9 (nI j)) = E (zst N 0 9 (nI e)) := by
  have e2 : ∀ v, (zst N 0 9 v).1 0 7 = nI L := fun v => by rw [zf (by decide)]; exact e1
  have e3 : ∀ v j, (zst N 0 9 v).1 6 j = N.1 6 j := fun v j => by rw [st_ne (by decide)]
  intro d
  induction d with
  | zero =>
    intro j f hj hf hr
    obtain ⟨f, rfl⟩ : ∃ g, f = g + 1 := ⟨f - 1, by omega⟩
    have : j = e := by omega
    subst this
    rw [zL1_e]; unfold bX10_token_86
    rw [zj_n, zj_n, o1, zs, o0]
    by_cases q : j = L
    · subst q
      rcases c_lt (-1) with ⟨z, _⟩ | ⟨_, _, z⟩
      · exact absurd z (by unfold lt; decide)
      · rw [m_byteO hL (e2 _), z_bs, z, z_bs, o0]
    · rcases c_lt (N.1 6 j) with ⟨z, _⟩ | ⟨_, _, z⟩
      · exact absurd z (hend.elim (fun y => absurd y q) id)
      · rw [m_byteI hL (e2 _) (by omega), e3, z_bs, z, z_bs, o0]
  | succ d ih =>
    intro j f hj hf hr
    obtain ⟨f, rfl⟩ : ∃ g, f = g + 1 := ⟨f - 1, by omega⟩
    rcases c_lt (N.1 6 j) with ⟨_, _, z⟩ | ⟨z, _⟩
    · rw [zL1_e, ← ih (j + 1) f (by omega) (by omega) (fun i h1 h2 => hr i (by omega) h2)]
      generalize zL1 (bX10_token_86 1 0 E) f = rc
      unfold bX10_token_86
      rw [zj_n, zj_n, o1, zs, m_byteI hL (e2 _) (show j < L by omega), e3, z_bs, z, z_bs, o1, z_bs, nI_1, zst_zst]
    · exact absurd (hr j (Nat.le_refl _) (by omega)) z
theorem m_toD {L e : Nat} {E : zM → Option zM} (hL : L ≤ 120) (e1 : N.1 0 7 = nI L) (he : e ≤ L) (hend : e = L ∨ ¬ dg (N.1 6 e)) : ∀ (d j f : Nat), j + d = e → d < f → (∀ i, j ≤ i → i < e → dg (N.1 6 i)) → zL1 (bX10_token_86 0 1 E) f (zst N 0 9 (nI j)) = E (zst N 0 9 (nI e)) := by
  have e2 : ∀ v, (zst N 0 9 v).1 0 7 = nI L := fun v => by rw [zf (by decide)]; exact e1
  have e3 : ∀ v j, (zst N 0 9 v).1 6 j = N.1 6 j := fun v j => by rw [st_ne (by decide)]
  intro d
  induction d with
  | zero =>
    intro j f hj hf hr
    obtain ⟨f, rfl⟩ : ∃ g, f = g + 1 := ⟨f - 1, by omega⟩
    have : j = e := by omega
    subst this
    rw [zL1_e]; unfold bX10_token_86
    rw [zj_n, zj_n, o0, zs, o1]
    by_cases q : j = L
    · subst q
      rcases c_dg (-1) with ⟨z, _⟩ | ⟨_, _, z⟩
      · exact absurd z (by unfold dg; decide)
      · rw [m_byteO hL (e2 _), z_bs, z, z_bs, o0]
    · rcases c_dg (N.1 6 j) with ⟨z, _⟩ | ⟨_, _, z⟩
      · exact absurd z (hend.elim (fun y => absurd y q) id)
      · rw [m_byteI hL (e2 _) (by omega), e3, z_bs, z, z_bs, o0]
  | succ d ih =>
    intro j f hj hf hr
    obtain ⟨f, rfl⟩ : ∃ g, f = g + 1 := ⟨f - 1, by omega⟩
    rcases c_dg (N.1 6 j) with ⟨_, _, z⟩ | ⟨z, _⟩
    · rw [zL1_e, ← ih (j + 1) f (by omega) (by omega) (fun i h1 h2 => hr i (by omega) h2)]
      generalize zL1 (bX10_token_86 0 1 E) f = rc
      unfold bX10_token_86
      rw [zj_n, zj_n, o0, zs, o1, m_byteI hL (e2 _) (show j < L by omega), e3, z_bs, z, z_bs, o1, z_bs, nI_1, zst_zst]
    · exact absurd (hr j (Nat.le_refl _) (by omega)) z
def TokC (tp : Nat → Int32) (L p q : Nat) (k : Int32) : Prop := (k = 0 ∧ p = L ∧ q = L) ∨ (k = 1 ∧ p < q ∧ q ≤ L ∧ ∀ j, p ≤ j → j < q → lt (tp j)) ∨ (k = 2 ∧ p < q ∧ q ≤ L ∧ ∀ j, p ≤ j → j < q → dg (tp j)) ∨ (k = 3 ∧ p < L ∧ q = p + 1 ∧ tp p = 59) ∨ (k = 4 ∧ p < L ∧ q = p + 1 ∧ ¬ lt (tp p) ∧ ¬ dg (tp p) ∧ ¬ tp p = 59)
def AdvC (M M' : zM) (p q : Nat) (k : Int32) : Prop := M'.1 31 2 = M.1 31 2 ∧ (∀ x, x ≠ 31 → M'.1 x = M.1 x) ∧ M'.2 = M.2 ∧ M'.1 31 5 = nI p ∧ M'.1 31 6 = nI q ∧ M'.1 31 4 = k
def AdvM (N N' : zM) (p q : Nat) : Prop := (∀ x, x ≠ 0 → N'.1 x = N.1 x) ∧ N'.2 = N.2 ∧ (∀ j, j ≠ 8 → j ≠ 9 → N'.1 0 j = N.1 0 j) ∧ N'.1 0 8 = nI p ∧ N'.1 0 9 = nI q
theorem AdvM.mk {p q : Nat} : AdvM N (zst (zst N 0 8 (nI p)) 0 9 (nI q)) p q := ⟨fun x hx => by rw [st_ne hx, st_ne hx], rfl, fun j h8 h9 => by rw [zf h9, zf h8], by rw [zf (by decide), zs], by rw [zs]⟩
theorem adv_sim {L q : Nat} (hx : zTx M N L) (hq : q ≤ L) (e1 : M.1 31 6 = nI q) (e2 : N.1 0 9 = nI q) : ∃ M' N' p' q' k, fX6_advance M = some M' ∧ fX10_token N = some N' ∧ q ≤ p' ∧ p' ≤ q' ∧ q' ≤ L ∧ AdvC M M' p' q' k ∧ AdvM N N' p' q' ∧ TokC (N.1 6) L p' q' k ∧ (k = 2 → M'.1 31 7 = nI (cv (N.1 6) p' (q' - p'))) := by
  obtain ⟨hL, l1, l2, l3⟩ := hx
  obtain ⟨p, p1, p2, p3, p4⟩ := run_end (fun j => N.1 6 j = 32) L (L - q) q (by omega)
  have hend : p = L ∨ ¬ M.1 32 p = 32 := by
    by_cases w : p = L
    · exact Or.inl w
    · exact Or.inr (by rw [l3 p (by omega)]; exact p4.elim (fun z => absurd z w) id)
  have b1 : ∀ E, lX6_advance_8 E zFuel (zst M 31 5 (nI q)) = E (zst M 31 5 (nI p)) := fun E => c_blank hL l1 p2 hend (p - q) q zFuel (by omega) (zF0 (by omega)) (fun i h1 h2 => by rw [l3 i (by omega)]; exact p3 i h1 h2)
  have b2 : ∀ E, lX10_token_8 E zFuel (zst N 0 8 (nI q)) = E (zst N 0 8 (nI p)) := fun E => m_blank hL l2 p2 p4 (p - q) q zFuel (by omega) (zF0 (by omega)) p3
  have r2 : ∀ v, (zst N 0 8 v).1 0 7 = nI L := fun v => by rw [zf (by decide)]; exact l2
  have r3 : ∀ v j, (zst N 0 8 v).1 6 j = N.1 6 j := fun v j => by rw [st_ne (by decide)]
  by_cases hp : p = L
  · subst hp
    refine ⟨zst (zst (zst M 31 5 (nI p)) 31 6 (nI p)) 31 4 0, zst (zst N 0 8 (nI p)) 0 9 (nI p), p, p, 0, ?_, ?_, p1, Nat.le_refl _, Nat.le_refl _, ⟨by rw [zf (by decide), zf (by decide), zf (by decide)], fun x hx => by rw [st_ne hx, st_ne hx, st_ne hx], rfl, by rw [zf (by decide), zf (by decide), zs], by rw [zf (by decide), zs], by rw [zs]⟩, AdvM.mk, Or.inl ⟨rfl, rfl, rfl⟩, fun z => absurd z (by decide)⟩
    · unfold fX6_advance
      rw [e1, z_bn, zj_n, b1, z_bn, zs, zf (show 5 ≠ 6 by decide), zs, zf (show 2 ≠ 6 by decide), zf (show 2 ≠ 5 by decide), l1, if_neg (nI_nlt (Nat.le_refl p) (by omega)), z_bn]
    · rcases c_lt (-1) with ⟨z, _⟩ | ⟨_, _, z1⟩
      · exact absurd z (by unfold lt; decide)
      rcases c_dg (-1) with ⟨z, _⟩ | ⟨_, _, z2⟩
      · exact absurd z (by unfold dg; decide)
      unfold fX10_token
      simp only [e2, z_bn, zj_n, b2, zs, m_byteO hL (r2 (nI p)), z1, z2, r2, if_pos (nI_le (Nat.le_refl p) (show p < 2 ^ 31 by omega)), if_true]
      exact m_to0 (f := 999999)
  · have pL : p < L := by omega
    have tp : M.1 32 p = N.1 6 p := l3 p pL
    have nb : ¬ N.1 6 p = 32 := p4.elim (fun z => absurd z hp) id
    have hlt1 : nI p < nI L := nI_lt pL (by omega)
    have hle1 : ¬ nI L ≤ nI p := nI_ge pL (by omega)
    have q5 : (zst (zst M 31 5 (nI p)) 31 6 (nI p)).1 31 5 = nI p := by rw [zf (by decide), zs]
    have q2 : (zst (zst M 31 5 (nI p)) 31 6 (nI p)).1 31 2 = nI L := by rw [zf (by decide), zf (by decide)]; exact l1
    have q32 : ∀ j, (zst (zst M 31 5 (nI p)) 31 6 (nI p)).1 32 j = M.1 32 j := fun j => by rw [st_ne (by decide), st_ne (by decide)]
    rcases c_lt (N.1 6 p) with ⟨hw, w1, w2⟩ | ⟨hw, w1, w2⟩
    · obtain ⟨e, g1, g2, g3, g4⟩ := run_end (fun j => lt (N.1 6 j)) L (L - p) p (by omega)
      have pe : p < e := by
        by_cases w : p = e
        · exact absurd (g4.elim (fun z => absurd (w.trans z) hp) (fun z => absurd hw (by rw [w]; exact z))) id
        · omega
      rcases c_dg (N.1 6 p) with ⟨z, _⟩ | ⟨_, d1, d2⟩
      · exact absurd z (lt_ne hw)
      refine ⟨zst (zst (zst M 31 5 (nI p)) 31 4 1) 31 6 (nI e), zst (zst N 0 8 (nI p)) 0 9 (nI e), p, e, 1, ?_, ?_, p1, by omega, g2, ⟨by rw [zf (by decide), zf (by decide), zf (by decide)], fun x hx => by rw [st_ne hx, st_ne hx, st_ne hx], rfl, by rw [zf (by decide), zf (by decide), zs], by rw [zs], by rw [zf (by decide), zs]⟩, AdvM.mk, Or.inr (Or.inl ⟨rfl, pe, g2, g3⟩), fun z => absurd z (by decide)⟩
      · have cw := c_word (M := zst (zst M 31 5 (nI p)) 31 4 1) (E := fun M32 => some M32) hL (by rw [zf (by decide), zf (by decide)]; exact l1) g2 (g4.elim Or.inl (fun z => by
          by_cases w : e = L
          · exact Or.inl w
          · exact Or.inr (by rw [st_ne (by decide), st_ne (by decide), l3 e (by omega)]; exact z))) (e - p) p zFuel (by omega) (zF0 (by omega)) (fun i h1 h2 => by rw [st_ne (by decide), st_ne (by decide), l3 i (by omega)]; exact g3 i h1 h2)
        have cw' : lX6_advance_93 (fun M32 => some M32) zFuel (zst (zst (zst M 31 5 (nI p)) 31 6 (nI p)) 31 4 1) = some (zst (zst (zst M 31 5 (nI p)) 31 4 1) 31 6 (nI e)) := by
          rw [zst_comm (show 6 ≠ 4 by decide)]; exact cw
        unfold fX6_advance
        simp only [e1, z_bn, zj_n, b1, zs, q5, q2, if_pos hlt1, ix120 (show p < 120 by omega), q32, tp, w1, o1, cw', if_true]
      · have mw := m_toW (N := zst N 0 8 (nI p)) (E := fun M11 => some M11) hL (r2 _) g2 (g4.imp id (fun z => by rw [r3]; exact z)) (e - (p + 1)) (p + 1) zFuel (by omega) (zF0 (by omega)) (fun i h1 h2 => by rw [r3]; exact g3 i (by omega) h2)
        have mw' : lX10_token_86 1 0 (fun M11 => some M11) zFuel (zst (zst N 0 8 (nI p)) 0 9 (nI (p + 1))) = some (zst (zst N 0 8 (nI p)) 0 9 (nI e)) := mw
        unfold fX10_token
        simp only [e2, z_bn, zj_n, b2, zs, m_byteI hL (r2 (nI p)) pL, r3, w2, d2, r2, if_neg hle1, nI_1, mw', if_true]
    · rcases c_dg (N.1 6 p) with ⟨hd, d1, d2⟩ | ⟨hd, d1, d2⟩
      · obtain ⟨e, g1, g2, g3, g4⟩ := run_end (fun j => dg (N.1 6 j)) L (L - p) p (by omega)
        have pe : p < e := by
          by_cases w : p = e
          · exact absurd (g4.elim (fun z => absurd (w.trans z) hp) (fun z => absurd hd (by rw [w]; exact z))) id
          · omega
        have cvE : ∀ m, p + m ≤ L → cv (M.1 32) p m = cv (N.1 6) p m := by
          intro m
          induction m with
          | zero => intro _; rfl
          | succ m ih =>
            intro hm
            show min 10000 (cv (M.1 32) p m * 10 + dgv (M.1 32 (p + m))) = min 10000 (cv (N.1 6) p m * 10 + dgv (N.1 6 (p + m)))
            rw [ih (by omega), l3 (p + m) (by omega)]
        refine ⟨zst (zst (zst (zst M 31 5 (nI p)) 31 4 2) 31 7 (nI (cv (M.1 32) p (e - p)))) 31 6 (nI e), zst (zst N 0 8 (nI p)) 0 9 (nI e), p, e, 2, ?_, ?_, p1, by omega, g2, ⟨by rw [zf (by decide), zf (by decide), zf (by decide), zf (by decide)], fun x hx => by rw [st_ne hx, st_ne hx, st_ne hx, st_ne hx], rfl, by rw [zf (by decide), zf (by decide), zf (by decide), zs], by rw [zs], by rw [zf (by decide), zf (by decide), zs]⟩, AdvM.mk, Or.inr (Or.inr (Or.inl ⟨rfl, pe, g2, g3⟩)), fun _ => by rw [zf (by decide), zs, cvE _ (by omega)]⟩
        · have r32 : (zst (zst M 31 5 (nI p)) 31 4 2).1 32 = M.1 32 := by rw [st_ne (by decide), st_ne (by decide)]
          have cw := c_num (M := zst (zst M 31 5 (nI p)) 31 4 2) (p := p) (E := fun M32 => some M32) hL (by rw [zf (by decide), zf (by decide)]; exact l1) g2 (g4.elim Or.inl (fun z => by
            by_cases w : e = L
            · exact Or.inl w
            · exact Or.inr (by rw [r32, l3 e (by omega)]; exact z))) (fun i h1 h2 => by rw [r32, l3 i (by omega)]; exact g3 i h1 h2) (e - p) p zFuel (by omega) (zF0 (by omega)) (Nat.le_refl _)
          rw [r32] at cw
          have cw' : lX6_advance_157 (fun M32 => some M32) zFuel (zst (zst (zst (zst M 31 5 (nI p)) 31 6 (nI p)) 31 4 2) 31 7 0) = some (zst (zst (zst (zst M 31 5 (nI p)) 31 4 2) 31 7 (nI (cv (M.1 32) p (e - p)))) 31 6 (nI e)) := by
            rw [zst_comm (j := 6) (j' := 4) (show 6 ≠ 4 by decide), zst_comm (j := 6) (j' := 7) (show 6 ≠ 7 by decide)]
            rw [Nat.sub_self] at cw
            exact cw
          unfold fX6_advance
          simp only [e1, z_bn, zj_n, b1, zs, q5, q2, if_pos hlt1, ix120 (show p < 120 by omega), q32, tp, w1, o0, d1, o1, cw', if_true]
        · have mw := m_toD (N := zst N 0 8 (nI p)) (E := fun M11 => some M11) hL (r2 _) g2 (g4.imp id (fun z => by rw [r3]; exact z)) (e - (p + 1)) (p + 1) zFuel (by omega) (zF0 (by omega)) (fun i h1 h2 => by rw [r3]; exact g3 i (by omega) h2)
          have mw' : lX10_token_86 0 1 (fun M11 => some M11) zFuel (zst (zst N 0 8 (nI p)) 0 9 (nI (p + 1))) = some (zst (zst N 0 8 (nI p)) 0 9 (nI e)) := mw
          unfold fX10_token
          simp only [e2, z_bn, zj_n, b2, zs, m_byteI hL (r2 (nI p)) pL, r3, w2, d2, r2, if_neg hle1, nI_1, mw', if_true]
      · have m0 : lX10_token_86 0 0 (fun M11 => some M11) zFuel (zst (zst N 0 8 (nI p)) 0 9 (nI (p + 1))) = some (zst (zst N 0 8 (nI p)) 0 9 (nI (p + 1))) := m_to0 (f := 999999)
        have mt : fX10_token N = some (zst (zst N 0 8 (nI p)) 0 9 (nI (p + 1))) := by
          unfold fX10_token
          simp only [e2, z_bn, zj_n, b2, zs, m_byteI hL (r2 (nI p)) pL, r3, w2, d2, r2, if_neg hle1, nI_1, m0, if_true]
        have q6 : ∀ v : Int32, (zst (zst (zst M 31 5 (nI p)) 31 6 (nI p)) 31 4 v).1 31 6 = nI p := fun v => by rw [zf (by decide), zs]
        have ct : ∀ v : Int32, zst (zst (zst (zst M 31 5 (nI p)) 31 6 (nI p)) 31 4 v) 31 6 (nI (p + 1)) = zst (zst (zst M 31 5 (nI p)) 31 4 v) 31 6 (nI (p + 1)) := fun v => by
          rw [zst_comm (j := 6) (j' := 4) (show 6 ≠ 4 by decide), zst_zst]
        have ac : ∀ v : Int32, AdvC M (zst (zst (zst M 31 5 (nI p)) 31 4 v) 31 6 (nI (p + 1))) p (p + 1) v := fun v => ⟨by rw [zf (by decide), zf (by decide), zf (by decide)], fun x hx => by rw [st_ne hx, st_ne hx, st_ne hx], rfl, by rw [zf (by decide), zf (by decide), zs], by rw [zs], by rw [zf (by decide), zs]⟩
        by_cases h59 : N.1 6 p = 59
        · refine ⟨zst (zst (zst M 31 5 (nI p)) 31 4 3) 31 6 (nI (p + 1)), _, p, p + 1, 3, ?_, mt, p1, by omega, by omega, ac 3, AdvM.mk, Or.inr (Or.inr (Or.inr (Or.inl ⟨rfl, pL, rfl, h59⟩))), fun z => absurd z (by decide)⟩
          unfold fX6_advance
          simp only [e1, z_bn, zj_n, b1, zs, q5, q2, if_pos hlt1, ix120 (show p < 120 by omega), q32, tp, w1, o0, d1, if_pos h59, q6, nI_1, ct, if_true]
        · refine ⟨zst (zst (zst M 31 5 (nI p)) 31 4 4) 31 6 (nI (p + 1)), _, p, p + 1, 4, ?_, mt, p1, by omega, by omega, ac 4, AdvM.mk, Or.inr (Or.inr (Or.inr (Or.inr ⟨rfl, pL, rfl, hw, hd, h59⟩))), fun z => absurd z (by decide)⟩
          unfold fX6_advance
          simp only [e1, z_bn, zj_n, b1, zs, q5, q2, if_pos hlt1, ix120 (show p < 120 by omega), q32, tp, w1, o0, d1, if_neg h59, q6, nI_1, ct, if_true]
end TM
