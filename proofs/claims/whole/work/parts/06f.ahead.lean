/-! copies, and nights ahead -/
section SF
variable {t t2 n nb nw : Nat} {M N : zM} {s : Nat → Int32}
theorem cp_ne {k0 k1 sp dp m x : Nat} (h : x ≠ k1) : (zcp M k0 k1 sp dp m).1 x = M.1 x := (zcp_ne x h).1
theorem cp_at {k0 k1 m j : Nat} (h : j < m) : (zcp M k0 k1 0 0 m).1 k1 j = M.1 k0 j := by
  rw [zcp_at, pk_cpy_in (Nat.zero_le _) (by omega), Nat.zero_add, Nat.sub_zero]
theorem st_ne {k j x : Nat} {v : Int32} (h : x ≠ k) : (zst M k j v).1 x = M.1 x := (zst_ne x h).1
theorem InvS.congrW {ww ww' : Nat → Int32} (h : InvS s ww n nb nw) (e : ∀ w, w < 6 → ww' w = ww w) : InvS s ww' n nb nw := by
  obtain ⟨a0, a1, a2, a3, a4, a5, a6⟩ := h
  refine ⟨a0, a1, a2, a3, a4, fun b hb => ?_, fun w hw => ?_⟩
  · obtain ⟨x1, x2, x3⟩ := a5 b hb
    exact ⟨x1, x2, x3.imp id fun ⟨w, y1, y2, y3⟩ => ⟨w, y1, y2, by rw [e w (by omega)]; exact y3⟩⟩
  · rw [e w (by omega)]; exact a6 w hw
theorem pcase (p : Nat) (hp : p < 59) : p = 0 ∨ p = 1 ∨ p = 2 ∨ (∃ x, x < 6 ∧ p = 3 + 2 * x) ∨ (∃ x, x < 6 ∧ p = 3 + 2 * x + 1) ∨ (∃ b, b < 8 ∧ p = 15 + 4 * b) ∨ (∃ b, b < 8 ∧ p = 15 + 4 * b + 1) ∨ (∃ b, b < 8 ∧ p = 15 + 4 * b + 2) ∨ (∃ b, b < 8 ∧ p = 15 + 4 * b + 3) ∨ (∃ w, w < 6 ∧ p = 47 + 2 * w) ∨ ∃ w, w < 6 ∧ p = 47 + 2 * w + 1 := by
  by_cases h0 : p < 3
  · rcases (show p = 0 ∨ p = 1 ∨ p = 2 by omega) with h | h | h <;> simp [h]
  · by_cases h1 : p < 15
    · by_cases h2 : (p - 3) % 2 = 0
      · exact Or.inr (Or.inr (Or.inr (Or.inl ⟨(p - 3) / 2, by omega, by omega⟩)))
      · exact Or.inr (Or.inr (Or.inr (Or.inr (Or.inl ⟨(p - 3) / 2, by omega, by omega⟩))))
    · by_cases h2 : p < 47
      · rcases (show (p - 15) % 4 = 0 ∨ (p - 15) % 4 = 1 ∨ (p - 15) % 4 = 2 ∨ (p - 15) % 4 = 3 by omega) with h | h | h | h
        · exact Or.inr (Or.inr (Or.inr (Or.inr (Or.inr (Or.inl ⟨(p - 15) / 4, by omega, by omega⟩)))))
        · exact Or.inr (Or.inr (Or.inr (Or.inr (Or.inr (Or.inr (Or.inl ⟨(p - 15) / 4, by omega, by omega⟩))))))
        · exact Or.inr (Or.inr (Or.inr (Or.inr (Or.inr (Or.inr (Or.inr (Or.inl ⟨(p - 15) / 4, by omega, by omega⟩)))))))
        · exact Or.inr (Or.inr (Or.inr (Or.inr (Or.inr (Or.inr (Or.inr (Or.inr (Or.inl ⟨(p - 15) / 4, by omega, by omega⟩))))))))
      · by_cases h3 : (p - 47) % 2 = 0
        · exact Or.inr (Or.inr (Or.inr (Or.inr (Or.inr (Or.inr (Or.inr (Or.inr (Or.inr (Or.inl ⟨(p - 47) / 2, by omega, by omega⟩)))))))))
        · exact Or.inr (Or.inr (Or.inr (Or.inr (Or.inr (Or.inr (Or.inr (Or.inr (Or.inr (Or.inr ⟨(p - 47) / 2, by omega, by omega⟩)))))))))
theorem become_sim (hd : t + 10 ≤ t2 ∨ t2 + 10 ≤ t) (h : Sim t2 n nb nw M s) : ∃ M', fX7_become M t t2 = some M' ∧ Sim t n nb nw M' s ∧ FrT t M M' := by
  unfold fX7_become
  simp only [z_bs]
  generalize e1 : zst M t 1 (M.1 t2 1) = Q1
  generalize e2 : zst Q1 t 2 (Q1.1 t2 2) = Q2
  generalize e3 : zst Q2 t 3 (Q2.1 t2 3) = Q3
  generalize e4 : zcp Q3 (t2 + 1) (t + 1) 0 0 8 = Q4
  generalize e5 : zcp Q4 (t2 + 2) (t + 2) 0 0 8 = Q5
  generalize e6 : zcp Q5 (t2 + 3) (t + 3) 0 0 8 = Q6
  generalize e7 : zcp Q6 (t2 + 4) (t + 4) 0 0 8 = Q7
  generalize e8 : zcp Q7 (t2 + 5) (t + 5) 0 0 6 = Q8
  generalize e9 : zcp Q8 (t2 + 6) (t + 6) 0 0 6 = Q9
  generalize e10 : zcp Q9 (t2 + 7) (t + 7) 0 0 6 = Q10
  generalize e11 : zcp Q10 (t2 + 8) (t + 8) 0 0 6 = Q11
  generalize e12 : zcp Q11 (t2 + 9) (t + 9) 0 0 6 = Q12
  have g1 : ∀ x, x ≠ t → Q1.1 x = M.1 x := fun x hx => by rw [← e1]; exact st_ne hx
  have g2 : ∀ x, x ≠ t → Q2.1 x = Q1.1 x := fun x hx => by rw [← e2]; exact st_ne hx
  have g3 : ∀ x, x ≠ t → Q3.1 x = Q2.1 x := fun x hx => by rw [← e3]; exact st_ne hx
  have g4 : ∀ x, x ≠ t + 1 → Q4.1 x = Q3.1 x := fun x hx => by rw [← e4]; exact cp_ne hx
  have a4 : ∀ j, j < 8 → Q4.1 (t + 1) j = Q3.1 (t2 + 1) j := fun j hj => by rw [← e4]; exact cp_at hj
  have g5 : ∀ x, x ≠ t + 2 → Q5.1 x = Q4.1 x := fun x hx => by rw [← e5]; exact cp_ne hx
  have a5 : ∀ j, j < 8 → Q5.1 (t + 2) j = Q4.1 (t2 + 2) j := fun j hj => by rw [← e5]; exact cp_at hj
  have g6 : ∀ x, x ≠ t + 3 → Q6.1 x = Q5.1 x := fun x hx => by rw [← e6]; exact cp_ne hx
  have a6 : ∀ j, j < 8 → Q6.1 (t + 3) j = Q5.1 (t2 + 3) j := fun j hj => by rw [← e6]; exact cp_at hj
  have g7 : ∀ x, x ≠ t + 4 → Q7.1 x = Q6.1 x := fun x hx => by rw [← e7]; exact cp_ne hx
  have a7 : ∀ j, j < 8 → Q7.1 (t + 4) j = Q6.1 (t2 + 4) j := fun j hj => by rw [← e7]; exact cp_at hj
  have g8 : ∀ x, x ≠ t + 5 → Q8.1 x = Q7.1 x := fun x hx => by rw [← e8]; exact cp_ne hx
  have a8 : ∀ j, j < 6 → Q8.1 (t + 5) j = Q7.1 (t2 + 5) j := fun j hj => by rw [← e8]; exact cp_at hj
  have g9 : ∀ x, x ≠ t + 6 → Q9.1 x = Q8.1 x := fun x hx => by rw [← e9]; exact cp_ne hx
  have a9 : ∀ j, j < 6 → Q9.1 (t + 6) j = Q8.1 (t2 + 6) j := fun j hj => by rw [← e9]; exact cp_at hj
  have g10 : ∀ x, x ≠ t + 7 → Q10.1 x = Q9.1 x := fun x hx => by rw [← e10]; exact cp_ne hx
  have a10 : ∀ j, j < 6 → Q10.1 (t + 7) j = Q9.1 (t2 + 7) j := fun j hj => by rw [← e10]; exact cp_at hj
  have g11 : ∀ x, x ≠ t + 8 → Q11.1 x = Q10.1 x := fun x hx => by rw [← e11]; exact cp_ne hx
  have a11 : ∀ j, j < 6 → Q11.1 (t + 8) j = Q10.1 (t2 + 8) j := fun j hj => by rw [← e11]; exact cp_at hj
  have g12 : ∀ x, x ≠ t + 9 → Q12.1 x = Q11.1 x := fun x hx => by rw [← e12]; exact cp_ne hx
  have a12 : ∀ j, j < 6 → Q12.1 (t + 9) j = Q11.1 (t2 + 9) j := fun j hj => by rw [← e12]; exact cp_at hj
  have r1 : ∀ j, j < 8 → Q12.1 (t + 1) j = M.1 (t2 + 1) j := fun j hj => by rw [g12 (t + 1) (by omega), g11 (t + 1) (by omega), g10 (t + 1) (by omega), g9 (t + 1) (by omega), g8 (t + 1) (by omega), g7 (t + 1) (by omega), g6 (t + 1) (by omega), g5 (t + 1) (by omega), a4 j hj, g3 (t2 + 1) (by omega), g2 (t2 + 1) (by omega), g1 (t2 + 1) (by omega)]
  have r2 : ∀ j, j < 8 → Q12.1 (t + 2) j = M.1 (t2 + 2) j := fun j hj => by rw [g12 (t + 2) (by omega), g11 (t + 2) (by omega), g10 (t + 2) (by omega), g9 (t + 2) (by omega), g8 (t + 2) (by omega), g7 (t + 2) (by omega), g6 (t + 2) (by omega), a5 j hj, g4 (t2 + 2) (by omega), g3 (t2 + 2) (by omega), g2 (t2 + 2) (by omega), g1 (t2 + 2) (by omega)]
  have r3 : ∀ j, j < 8 → Q12.1 (t + 3) j = M.1 (t2 + 3) j := fun j hj => by rw [g12 (t + 3) (by omega), g11 (t + 3) (by omega), g10 (t + 3) (by omega), g9 (t + 3) (by omega), g8 (t + 3) (by omega), g7 (t + 3) (by omega), a6 j hj, g5 (t2 + 3) (by omega), g4 (t2 + 3) (by omega), g3 (t2 + 3) (by omega), g2 (t2 + 3) (by omega), g1 (t2 + 3) (by omega)]
  have r4 : ∀ j, j < 8 → Q12.1 (t + 4) j = M.1 (t2 + 4) j := fun j hj => by rw [g12 (t + 4) (by omega), g11 (t + 4) (by omega), g10 (t + 4) (by omega), g9 (t + 4) (by omega), g8 (t + 4) (by omega), a7 j hj, g6 (t2 + 4) (by omega), g5 (t2 + 4) (by omega), g4 (t2 + 4) (by omega), g3 (t2 + 4) (by omega), g2 (t2 + 4) (by omega), g1 (t2 + 4) (by omega)]
  have r5 : ∀ j, j < 6 → Q12.1 (t + 5) j = M.1 (t2 + 5) j := fun j hj => by rw [g12 (t + 5) (by omega), g11 (t + 5) (by omega), g10 (t + 5) (by omega), g9 (t + 5) (by omega), a8 j hj, g7 (t2 + 5) (by omega), g6 (t2 + 5) (by omega), g5 (t2 + 5) (by omega), g4 (t2 + 5) (by omega), g3 (t2 + 5) (by omega), g2 (t2 + 5) (by omega), g1 (t2 + 5) (by omega)]
  have r6 : ∀ j, j < 6 → Q12.1 (t + 6) j = M.1 (t2 + 6) j := fun j hj => by rw [g12 (t + 6) (by omega), g11 (t + 6) (by omega), g10 (t + 6) (by omega), a9 j hj, g8 (t2 + 6) (by omega), g7 (t2 + 6) (by omega), g6 (t2 + 6) (by omega), g5 (t2 + 6) (by omega), g4 (t2 + 6) (by omega), g3 (t2 + 6) (by omega), g2 (t2 + 6) (by omega), g1 (t2 + 6) (by omega)]
  have r7 : ∀ j, j < 6 → Q12.1 (t + 7) j = M.1 (t2 + 7) j := fun j hj => by rw [g12 (t + 7) (by omega), g11 (t + 7) (by omega), a10 j hj, g9 (t2 + 7) (by omega), g8 (t2 + 7) (by omega), g7 (t2 + 7) (by omega), g6 (t2 + 7) (by omega), g5 (t2 + 7) (by omega), g4 (t2 + 7) (by omega), g3 (t2 + 7) (by omega), g2 (t2 + 7) (by omega), g1 (t2 + 7) (by omega)]
  have r8 : ∀ j, j < 6 → Q12.1 (t + 8) j = M.1 (t2 + 8) j := fun j hj => by rw [g12 (t + 8) (by omega), a11 j hj, g10 (t2 + 8) (by omega), g9 (t2 + 8) (by omega), g8 (t2 + 8) (by omega), g7 (t2 + 8) (by omega), g6 (t2 + 8) (by omega), g5 (t2 + 8) (by omega), g4 (t2 + 8) (by omega), g3 (t2 + 8) (by omega), g2 (t2 + 8) (by omega), g1 (t2 + 8) (by omega)]
  have r9 : ∀ j, j < 6 → Q12.1 (t + 9) j = M.1 (t2 + 9) j := fun j hj => by rw [a12 j hj, g11 (t2 + 9) (by omega), g10 (t2 + 9) (by omega), g9 (t2 + 9) (by omega), g8 (t2 + 9) (by omega), g7 (t2 + 9) (by omega), g6 (t2 + 9) (by omega), g5 (t2 + 9) (by omega), g4 (t2 + 9) (by omega), g3 (t2 + 9) (by omega), g2 (t2 + 9) (by omega), g1 (t2 + 9) (by omega)]
  have h1 : Q12.1 t 1 = M.1 t2 1 := by rw [g12 t (by omega), g11 t (by omega), g10 t (by omega), g9 t (by omega), g8 t (by omega), g7 t (by omega), g6 t (by omega), g5 t (by omega), g4 t (by omega), ← e3, zst_g, if_neg (by omega), ← e2, zst_g, if_neg (by omega), ← e1, zst_g, if_pos ⟨rfl, rfl⟩]
  have h2 : Q12.1 t 2 = M.1 t2 2 := by rw [g12 t (by omega), g11 t (by omega), g10 t (by omega), g9 t (by omega), g8 t (by omega), g7 t (by omega), g6 t (by omega), g5 t (by omega), g4 t (by omega), ← e3, zst_g, if_neg (by omega), ← e2, zst_g, if_pos ⟨rfl, rfl⟩, g1 t2 (by omega)]
  have h3 : Q12.1 t 3 = M.1 t2 3 := by rw [g12 t (by omega), g11 t (by omega), g10 t (by omega), g9 t (by omega), g8 t (by omega), g7 t (by omega), g6 t (by omega), g5 t (by omega), g4 t (by omega), ← e3, zst_g, if_pos ⟨rfl, rfl⟩, g2 t2 (by omega), g1 t2 (by omega)]
  refine ⟨Q12, rfl, ⟨fun p hp => ?_, h.2.congrW (fun w hw => r7 w hw)⟩, fun x hx => ?_, ?_⟩
  · rw [← h.1 p hp]
    rcases (show p = 0 ∨ p = 1 ∨ p = 2 ∨ (∃ x, x < 6 ∧ p = 3 + 2 * x) ∨ (∃ x, x < 6 ∧ p = 3 + 2 * x + 1) ∨ (∃ b, b < 8 ∧ p = 15 + 4 * b) ∨ (∃ b, b < 8 ∧ p = 15 + 4 * b + 1) ∨ (∃ b, b < 8 ∧ p = 15 + 4 * b + 2) ∨ (∃ b, b < 8 ∧ p = 15 + 4 * b + 3) ∨ (∃ w, w < 6 ∧ p = 47 + 2 * w) ∨ ∃ w, w < 6 ∧ p = 47 + 2 * w + 1 from pcase p hp) with rfl | rfl | rfl | ⟨x, hx, rfl⟩ | ⟨x, hx, rfl⟩ | ⟨x, hx, rfl⟩ | ⟨x, hx, rfl⟩ | ⟨x, hx, rfl⟩ | ⟨x, hx, rfl⟩ | ⟨x, hx, rfl⟩ | ⟨x, hx, rfl⟩
    · exact h1
    · exact h2
    · exact h3
    · rw [(zoH x hx).1.1, (zoH x hx).1.2]; exact r9 x hx
    · rw [(zoH x hx).2.1, (zoH x hx).2.2]; exact r8 x hx
    · rw [(zoB x hx).1.1, (zoB x hx).1.2]; exact r1 x hx
    · rw [(zoB x hx).2.1.1, (zoB x hx).2.1.2]; exact r2 x hx
    · rw [(zoB x hx).2.2.1.1, (zoB x hx).2.2.1.2]; exact r3 x hx
    · rw [(zoB x hx).2.2.2.1, (zoB x hx).2.2.2.2]; exact r4 x hx
    · rw [(zoW x hx).1.1, (zoW x hx).1.2]; exact r5 x hx
    · rw [(zoW x hx).2.1, (zoW x hx).2.2]; exact r6 x hx
  · rw [g12 x (by omega), g11 x (by omega), g10 x (by omega), g9 x (by omega), g8 x (by omega), g7 x (by omega), g6 x (by omega), g5 x (by omega), g4 x (by omega), g3 x (by omega), g2 x (by omega), g1 x (by omega)]
  · rw [← e12, ← e11, ← e10, ← e9, ← e8, ← e7, ← e6, ← e5, ← e4, ← e3, ← e2, ← e1]; rfl
/-- i places of the model's row a are copied to the row c -/
def cpN (M : zM) (a c i : Nat) : zM := (fun x y => if x = c ∧ y < i then M.1 a y else M.1 x y, M.2)
theorem cpN_0 {a c : Nat} : cpN M a c 0 = M := by
  refine Prod.ext ?_ rfl
  funext x y
  exact if_neg (by omega)
theorem cpN_s {a c i : Nat} (h : a ≠ c) : zst (cpN M a c i) c i ((cpN M a c i).1 a i) = cpN M a c (i + 1) := by
  refine Prod.ext ?_ rfl
  funext x y
  show (if x = c ∧ y = i then (if a = c ∧ i < i then M.1 a i else M.1 a i) else if x = c ∧ y < i then M.1 a y else M.1 x y) = if x = c ∧ y < i + 1 then M.1 a y else M.1 x y
  rw [if_neg (show ¬ (a = c ∧ i < i) by omega)]
  by_cases h1 : x = c ∧ y = i
  · rw [if_pos h1, if_pos ⟨h1.1, by omega⟩, h1.2]
  · rw [if_neg h1]
    by_cases h2 : x = c ∧ y < i
    · rw [if_pos h2, if_pos ⟨h2.1, by omega⟩]
    · rw [if_neg h2, if_neg (fun q => by
        by_cases h3 : y = i
        · exact h1 ⟨q.1, h3⟩
        · exact h2 ⟨q.1, by omega⟩)]
theorem cpN_at {a c i j : Nat} (h : j < i) : (cpN M a c i).1 c j = M.1 a j := if_pos ⟨rfl, h⟩
theorem cpN_ne {a c i x : Nat} (h : x ≠ c) : (cpN M a c i).1 x = M.1 x := by
  funext y; exact if_neg (fun q => h q.1)
theorem cpN_2 {a c i : Nat} : (cpN M a c i).2 = M.2 := rfl
theorem m_saves : fX10_saves N = some (cpN N 1 3 59) := by
  unfold fX10_saves lX10_saves_2
  rw [zj_e]
  have := loop2 (F := bX10_saves_2 fun M1 => some M1) (E := fun M1 => some M1) (m := 59) (fun i => cpN N 1 3 i) (fun rc => by
    unfold bX10_saves_2
    rw [if_pos (show (59 : Int32) ≤ nI 59 from nI_le (Nat.le_refl 59) (by decide))]) (fun rc i hi => by
    unfold bX10_saves_2
    simp only [if_neg (show ¬ (59 : Int32) ≤ nI i from nI_ge hi (by decide)), ix59 hi, z_bs, nI_1, cpN_s (show 1 ≠ 3 by decide)]) 59 0 zFuel (by omega) (zF0 (by omega))
  simp only [cpN_0] at this
  exact this
theorem m_putsBack : fX10_putsBack N = some (cpN N 3 1 59) := by
  unfold fX10_putsBack lX10_putsBack_2
  rw [zj_e]
  have := loop2 (F := bX10_putsBack_2 fun M1 => some M1) (E := fun M1 => some M1) (m := 59) (fun i => cpN N 3 1 i) (fun rc => by
    unfold bX10_putsBack_2
    rw [if_pos (show (59 : Int32) ≤ nI 59 from nI_le (Nat.le_refl 59) (by decide))]) (fun rc i hi => by
    unfold bX10_putsBack_2
    simp only [if_neg (show ¬ (59 : Int32) ≤ nI i from nI_ge hi (by decide)), ix59 hi, z_bs, nI_1, cpN_s (show 3 ≠ 1 by decide)]) 59 0 zFuel (by omega) (zF0 (by omega))
  simp only [cpN_0] at this
  exact this
theorem m_laysAside : fX10_laysAside N = some (cpN N 1 4 59) := by
  unfold fX10_laysAside lX10_laysAside_2
  rw [zj_e]
  have := loop2 (F := bX10_laysAside_2 fun M1 => some M1) (E := fun M1 => some M1) (m := 59) (fun i => cpN N 1 4 i) (fun rc => by
    unfold bX10_laysAside_2
    rw [if_pos (show (59 : Int32) ≤ nI 59 from nI_le (Nat.le_refl 59) (by decide))]) (fun rc i hi => by
    unfold bX10_laysAside_2
    simp only [if_neg (show ¬ (59 : Int32) ≤ nI i from nI_ge hi (by decide)), ix59 hi, z_bs, nI_1, cpN_s (show 1 ≠ 4 by decide)]) 59 0 zFuel (by omega) (zF0 (by omega))
  simp only [cpN_0] at this
  exact this
theorem m_takesBack (v : Int32) : fX10_takesBack N v = some (v, cpN N 4 1 59) := by
  unfold fX10_takesBack lX10_takesBack_2
  rw [zj_e]
  have := loop2 (F := bX10_takesBack_2 fun M1 => some (v, M1)) (E := fun M1 => some (v, M1)) (m := 59) (fun i => cpN N 4 1 i) (fun rc => by
    unfold bX10_takesBack_2
    rw [if_pos (show (59 : Int32) ≤ nI 59 from nI_le (Nat.le_refl 59) (by decide))]) (fun rc i hi => by
    unfold bX10_takesBack_2
    simp only [if_neg (show ¬ (59 : Int32) ≤ nI i from nI_ge hi (by decide)), ix59 hi, z_bs, nI_1, cpN_s (show 4 ≠ 1 by decide)]) 59 0 zFuel (by omega) (zF0 (by omega))
  simp only [cpN_0] at this
  exact this
theorem m_image : fX10_image N = some (1, zst (cpN N 1 2 59) 0 5 1) := by
  unfold fX10_image lX10_image_2
  rw [zj_e]
  have := loop2 (F := bX10_image_2 fun M1 => (some (zst M1 0 5 (1 : Int32))).bind fun M3 => some ((1 : Int32), M3)) (E := fun M1 => (some (zst M1 0 5 (1 : Int32))).bind fun M3 => some ((1 : Int32), M3)) (m := 59) (fun i => cpN N 1 2 i) (fun rc => by
    unfold bX10_image_2
    rw [if_pos (show (59 : Int32) ≤ nI 59 from nI_le (Nat.le_refl 59) (by decide))]) (fun rc i hi => by
    unfold bX10_image_2
    simp only [if_neg (show ¬ (59 : Int32) ≤ nI i from nI_ge hi (by decide)), ix59 hi, z_bs, nI_1, cpN_s (show 1 ≠ 2 by decide)]) 59 0 zFuel (by omega) (zF0 (by omega))
  simp only [cpN_0] at this
  exact this
theorem m_undo (h : ¬ N.1 0 5 = 0) : fX10_undo N = some (N.1 2 1, cpN N 2 1 59) := by
  unfold fX10_undo lX10_undo_16
  rw [if_neg h, zj_e]
  have := loop2 (F := bX10_undo_16 fun M2 => some ((M2.1 1 1), M2)) (E := fun M2 => some ((M2.1 1 1), M2)) (m := 59) (fun i => cpN N 2 1 i) (fun rc => by
    unfold bX10_undo_16
    rw [if_pos (show (59 : Int32) ≤ nI 59 from nI_le (Nat.le_refl 59) (by decide))]) (fun rc i hi => by
    unfold bX10_undo_16
    simp only [if_neg (show ¬ (59 : Int32) ≤ nI i from nI_ge hi (by decide)), ix59 hi, z_bs, nI_1, cpN_s (show 2 ≠ 1 by decide)]) 59 0 zFuel (by omega) (zF0 (by omega))
  simp only [cpN_0, cpN_at (show 1 < 59 by decide)] at this
  exact this
/-- the model behind something that was taken back -/
def FrA (N N' : zM) : Prop := (∀ j, j < 59 → N'.1 1 j = N.1 1 j) ∧ (∀ x, x ≠ 1 → x ≠ 4 → N'.1 x = N.1 x) ∧ N'.2 = N.2
theorem FrA.rf : FrA N N := ⟨fun _ _ => rfl, fun _ _ _ => rfl, rfl⟩
theorem FrA.tr {N' N'' : zM} (h : FrA N N') (h' : FrA N' N'') : FrA N N'' := ⟨fun j hj => (h'.1 j hj).trans (h.1 j hj), fun x h1 h4 => (h'.2.1 x h1 h4).trans (h.2.1 x h1 h4), h'.2.2.trans h.2.2⟩
/-- nights ahead: the class on a trade of its own, the model on its row, laid aside before and taken back behind; of one wearer alone, too -/
theorem nightsW {w : Nat} (hw : w < nw) : ∀ (k : Nat) (j i f f' f2 : Nat) (n : Nat) (M N : zM), i + j = k → j < f → j < f' → j < f2 → k < 2 ^ 30 → n + j < 2 ^ 30 → Sim t n nb nw M (N.1 1) →
    ∃ M' N' M2, (∀ E, zL2 (bX7_passNights_2 t (nI k) E) f M (nI i) = E M') ∧ (∀ E, zL2 (bX10_nightsGo_2 (nI k) E) f' N (nI i) = E N') ∧ (∀ E, zL2 (bX7_passNightsOfWearer_2 t (nI w) (nI k) E) f2 M (nI i) = E M2) ∧ Sim t (n + j) nb nw M' (N'.1 1) ∧ FrT t M M' ∧ FrN N N' ∧ Kq t nw M M' ∧ FrT t M M2 ∧ M2.1 (t + 5) w = M'.1 (t + 5) w ∧ M2.1 (t + 7) w = M'.1 (t + 7) w := by
  intro k j
  induction j with
  | zero =>
    intro i f f' f2 n M N hi hf hf' hf2 hk hn h
    obtain ⟨f, rfl⟩ : ∃ g, f = g + 1 := ⟨f - 1, by omega⟩
    obtain ⟨f', rfl⟩ : ∃ g, f' = g + 1 := ⟨f' - 1, by omega⟩
    obtain ⟨f2, rfl⟩ : ∃ g, f2 = g + 1 := ⟨f2 - 1, by omega⟩
    have : i = k := by omega
    subst this
    refine ⟨M, N, M, fun E => ?_, fun E => ?_, fun E => ?_, h, FrT.rf, FrN.rf, Kq.rf, FrT.rf, rfl, rfl⟩
    · rw [zL2_e]; unfold bX7_passNights_2
      rw [if_pos (nI_le (Nat.le_refl _) (by omega))]
    · rw [zL2_e]; unfold bX10_nightsGo_2
      rw [if_pos (nI_le (Nat.le_refl _) (by omega))]
    · rw [zL2_e]; unfold bX7_passNightsOfWearer_2
      rw [if_pos (nI_le (Nat.le_refl _) (by omega))]
  | succ j ih =>
    intro i f f' f2 n M N hi hf hf' hf2 hk hn h
    have hwl := h.nwl
    obtain ⟨f, rfl⟩ : ∃ g, f = g + 1 := ⟨f - 1, by omega⟩
    obtain ⟨f', rfl⟩ : ∃ g, f' = g + 1 := ⟨f' - 1, by omega⟩
    obtain ⟨f2, rfl⟩ : ∃ g, f2 = g + 1 := ⟨f2 - 1, by omega⟩
    obtain ⟨M1, N1, d1, d2, d3, d4, d5, d6⟩ := night_sim h (by omega)
    obtain ⟨M', N', M2, c1, c2, c8, c3, c4, c5, c6, c7, c9, c10⟩ := ih (i + 1) f f' f2 (n + 1) M1 N1 (by omega) (by omega) (by omega) (by omega) hk (by omega) d3
    have hE1 : ∀ E, zL2 (bX7_passNights_2 t (nI k) E) (f + 1) M (nI i) = E M' := fun E => by
      have c := c1 E
      rw [zL2_e]
      generalize zL2 (bX7_passNights_2 t (nI k) E) f = rc at c ⊢
      unfold bX7_passNights_2
      simp only [if_neg (nI_ge (show i < k by omega) (show k < 2 ^ 31 by omega)), d1, z_bs, nI_1]
      exact c
    have hE2 : ∀ E, zL2 (bX10_nightsGo_2 (nI k) E) (f' + 1) N (nI i) = E N' := fun E => by
      have c := c2 E
      rw [zL2_e]
      generalize zL2 (bX10_nightsGo_2 (nI k) E) f' = rc at c ⊢
      unfold bX10_nightsGo_2
      simp only [if_neg (nI_ge (show i < k by omega) (show k < 2 ^ 31 by omega)), d2, z_bs, nI_1]
      exact c
    have hS : Sim t (n + (j + 1)) nb nw M' (N'.1 1) := by rw [show n + (j + 1) = n + 1 + j by omega]; exact c3
    by_cases e : M.1 (t + 7) w = -1
    · refine ⟨M', N', M, hE1, hE2, fun E => ?_, hS, d4.tr c4, d5.tr c5, d6.tr c6, FrT.rf, (((d6.tr c6) w hw).1 e).2.symm, e.trans (((d6.tr c6) w hw).1 e).1.symm⟩
      rw [zL2_e]
      unfold bX7_passNightsOfWearer_2
      simp only [if_neg (nI_ge (show i < k by omega) (show k < 2 ^ 31 by omega)), ix6 (show w < 6 by omega), z_bs, if_pos e]
    · refine ⟨M', N', M2, hE1, hE2, fun E => ?_, hS, d4.tr c4, d5.tr c5, d6.tr c6, d4.tr c7, c9, c10⟩
      have c := c8 E
      rw [zL2_e]
      generalize zL2 (bX7_passNightsOfWearer_2 t (nI w) (nI k) E) f2 = rc at c ⊢
      unfold bX7_passNightsOfWearer_2
      simp only [if_neg (nI_ge (show i < k by omega) (show k < 2 ^ 31 by omega)), ix6 (show w < 6 by omega), z_bs, if_neg e, d1, nI_1]
      exact c
theorem aheadN {k : Nat} {M' : zM} (e : fX10_nightsGo (cpN N 1 4 59) (nI k) = some M') (h : FrN (cpN N 1 4 59) M') : FrA N (cpN M' 4 1 59) := by
  refine ⟨fun j hj => ?_, fun x h1 h4 => ?_, ?_⟩
  · rw [cpN_at hj, h.1 4 (by decide), cpN_at hj]
  · rw [cpN_ne h1, h.1 x h1, cpN_ne h4]
  · rw [cpN_2, h.2, cpN_2]
theorem ahead (k : Nat) (h : Sim t n nb nw M (N.1 1)) (hk : k < 1000) (hn : n < 2 ^ 29) : ∃ M' N', fX7_passNights M t (nI k) = some M' ∧ fX10_nightsGo (cpN N 1 4 59) (nI k) = some N' ∧ Sim t (n + k) nb nw M' (N'.1 1) ∧ FrT t M M' ∧ FrA N (cpN N' 4 1 59) ∧ Kq t nw M M' := by
  obtain ⟨M', N', c1, c2, c3, c4, c5, c6⟩ := nightsG (N := cpN N 1 4 59) k (by rw [cpN_ne (by decide)]; exact h) hk hn
  exact ⟨M', N', c1, c2, c3, c4, aheadN c2 c5, c6⟩
theorem aheadW (k : Nat) (h : Sim t n nb nw M (N.1 1)) (hk : k < 1000) (hn : n < 2 ^ 29) {w : Nat} (hw : w < nw) : ∃ M' N' M2, fX7_passNightsOfWearer M t (nI w) (nI k) = some M2 ∧ fX10_nightsGo (cpN N 1 4 59) (nI k) = some N' ∧ Sim t (n + k) nb nw M' (N'.1 1) ∧ FrT t M M' ∧ FrA N (cpN N' 4 1 59) ∧ Kq t nw M M' ∧ FrT t M M2 ∧ M2.1 (t + 5) w = M'.1 (t + 5) w ∧ M2.1 (t + 7) w = M'.1 (t + 7) w := by
  have h' : Sim t n nb nw M ((cpN N 1 4 59).1 1) := by rw [cpN_ne (by decide)]; exact h
  obtain ⟨M', N', M2, c1, c2, c8, c3, c4, c5, c6, c7, c9, c10⟩ := nightsW hw k k 0 zFuel zFuel zFuel n M (cpN N 1 4 59) (by omega) (zF0 (by omega)) (zF0 (by omega)) (zF0 (by omega)) (by omega) (by omega) h'
  have hz : nI 0 = 0 := rfl
  rw [hz] at c1 c2 c8
  have e2 : fX10_nightsGo (cpN N 1 4 59) (nI k) = some N' := by unfold fX10_nightsGo lX10_nightsGo_2; rw [zj_e, c2]
  refine ⟨M', N', M2, ?_, e2, c3, c4, aheadN e2 c5, c6, c7, c9, c10⟩
  unfold fX7_passNightsOfWearer lX7_passNightsOfWearer_2; rw [zj_e, c8]
end SF
