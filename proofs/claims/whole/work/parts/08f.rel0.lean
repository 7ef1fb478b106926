/-! at the start both hold the same -/
def iN0 : zM := (fun a b => if a = 1 then fM0 6 b else 0, fun _ _ => 0)
theorem zo_0 : ∀ p, p < 59 → (zo p = 9 ∧ zi p < 6 ∧ 3 ≤ p ∧ p < 3 + 2 * 6 ∧ (p - 3) % 2 = 0) ∨ (zo p < 9 ∧ ¬ (3 ≤ p ∧ p < 3 + 2 * 6 ∧ (p - 3) % 2 = 0)) := by decide +kernel
theorem iN0_1 (b : Nat) : iN0.1 1 b = fM0 6 b := by
  show (if 1 = 1 then fM0 6 b else 0) = fM0 6 b
  rw [if_pos rfl]
theorem iN0_n {a b : Nat} (h : a ≠ 1) : iN0.1 a b = 0 := by
  show (if a = 1 then fM0 6 b else 0) = 0
  rw [if_neg h]
theorem iM0_n {f1 f2 f3 : Nat → Int32} {a b : Nat} (h1 : a ≠ 10) (h2 : a ≠ 20) (h3 : a ≠ 30) : (iM0 f1 f2 f3).1 a b = 0 := by
  show (if a = 10 then f1 b else if a = 20 then f2 b else if a = 30 then f3 b else 0) = 0
  rw [if_neg h1, if_neg h2, if_neg h3]
theorem rel0 {f1 f2 f3 : Nat → Int32} (h1 : ∀ j, j < 6 → f1 j = -1) : Rel (iM0 f1 f2 f3) iN0 := by
  refine ⟨⟨0, 0, 0, by decide, fun p hp => ?_, ?_⟩, ⟨?_, Or.inl (iN0_n (by decide))⟩, fun j hj => ?_, ⟨0, by decide, ?_, ?_, fun j hj => absurd hj (Nat.not_lt_zero j)⟩, fun i hi => ⟨?_, ⟨0, by decide, ?_, ?_⟩, fun j hj => rfl⟩⟩
  · rw [iN0_1]
    unfold fM0
    rcases zo_0 p hp with ⟨a, b, c⟩ | ⟨a, c⟩
    · rw [if_pos c, a]
      show (if 1 + 9 = 10 then f1 (zi p) else if 1 + 9 = 20 then f2 (zi p) else if 1 + 9 = 30 then f3 (zi p) else 0) = -1
      rw [if_pos rfl]
      exact h1 _ b
    · rw [if_neg c, iM0_n (by omega) (by omega) (by omega)]
  · refine ⟨?_, ?_, ?_, by decide, by decide, fun b hb => absurd hb (Nat.not_lt_zero b), fun w hw => absurd hw (Nat.not_lt_zero w)⟩
    · rw [iN0_1]; rfl
    · rw [iN0_1]; rfl
    · rw [iN0_1]; rfl
  · rw [iM0_n (by decide) (by decide) (by decide), iN0_n (by decide)]
  · rw [iM0_n (by decide) (by decide) (by decide), iN0_n (by decide)]
  · rw [iM0_n (by decide) (by decide) (by decide)]; rfl
  · rw [iN0_n (by decide)]; rfl
  · rw [iM0_n (by omega) (by omega) (by omega), iN0_n (by decide)]
  · rw [iM0_n (by omega) (by omega) (by omega)]; rfl
  · rw [iN0_n (by decide)]; rfl
/-- the model's cells as its world has them -/
theorem wMo_L {D : va_G} {cI cJ : ClassId} {h0 : Nat} {q : Nat → Nat} : wMo cI cJ h0 q (fM0 6) = zL (mWd D cI cJ (fun k => if k = 0 then h0 else q k)) iN0 := rfl
