/-! the text: all items; the shop -/
section TW
variable {M N M' N' : zM}
def Fin (n : Nat) (M0 N0 : zM) (Ec : zM → Option (Int32 × zM)) (Em : zM → Int32 → Option (Int32 × zM)) (x y : Option (Int32 × zM)) : Prop :=
  (∃ i M' N' nb nw, 1 ≤ i ∧ i ≤ 121 ∧ x = some (nI i, M') ∧ y = Em N' (nI i) ∧ N'.1 0 11 = 0 ∧ N'.1 0 7 ≤ N'.1 0 8 ∧ Sim 11 n nb nw M' (N'.1 1) ∧ FC M0 M' ∧ FM N0 N') ∨
  (∃ v M' N' p, x = Ec M' ∧ y = Em N' v ∧ (¬ N'.1 0 11 = 0 ∨ N'.1 0 11 = 0 ∧ ¬ N'.1 0 7 ≤ N'.1 0 8) ∧ M'.1 31 5 = nI p ∧ N'.1 0 8 = nI p ∧ p ≤ 120 ∧ FC M0 M' ∧ FM N0 N')
theorem t_all {L n : Nat} {M0 N0 : zM} {Ec : zM → Option (Int32 × zM)} {Em : zM → Int32 → Option (Int32 × zM)} : ∀ (d p q i nb nw fc fm : Nat) (k : Int32) (M N : zM), L < p + d → d ≤ fc → d ≤ fm → TP M N L p q k → Sim 11 n nb nw M (N.1 1) → 1 ≤ i → i ≤ p + 1 → FC M0 M → FM N0 N → Fin n M0 N0 Ec Em (zL2 (bX6_tellAll_11 Ec) fc M (nI i)) ((fX10_item N).bind fun N5 => zL2 (bX10_shop_24 Em) fm N5 (nI i)) := by
  intro d
  induction d with
  | zero =>
    intro p q i nb nw fc fm k M N hL _ _ h
    have := h.at
    unfold AT at this
    omega
  | succ d ih =>
    intro p q i nb nw fc fm k M N hL hc hm h hS hi1 hip hC hM
    have hp := h.l
    obtain ⟨fc, rfl⟩ : ∃ g, fc = g + 1 := ⟨fc - 1, by omega⟩
    obtain ⟨fm, rfl⟩ : ∃ g, fm = g + 1 := ⟨fm - 1, by omega⟩
    have i120 : ¬ (120 : Int32) < nI i ∨ i = 121 := by
      by_cases c : i = 121
      · exact Or.inr c
      · exact Or.inl (nI_nlt (b := i) (a := 120) (by omega) (by decide))
    sorry
end TW
