/-! sums and sets over all -/
section TB
variable {t n nb nw : Nat} {M N : zM} {s : Nat → Int32}
def aSum (f : Nat → Int32) : Nat → Int32
  | 0 => 0
  | i + 1 => aSum f i + f i
def aOrs (f : Nat → Int32) : Nat → Int32
  | 0 => 0
  | i + 1 => aOrs f i ||| f i
theorem or0 (x : Int32) : x ||| 0 = x := Int32.or_zero
theorem aOrs_in (f : Nat → Int32) : ∀ {m j : Nat}, j < m → f j ||| aOrs f m = aOrs f m := by
  intro m
  induction m with
  | zero => intro j hj; omega
  | succ m ih =>
    intro j hj
    show f j ||| (aOrs f m ||| f m) = aOrs f m ||| f m
    by_cases e : j = m
    · subst e
      rw [← Int32.or_assoc, Int32.or_comm (f j), Int32.or_assoc, Int32.or_self]
    · rw [← Int32.or_assoc, ih (by omega)]
theorem aOrs_abs (f : Nat → Int32) (X : Int32) : ∀ {m : Nat}, (∀ j, j < m → f j ||| X = X) → aOrs f m ||| X = X := by
  intro m
  induction m with
  | zero => intro _; exact Int32.zero_or
  | succ m ih =>
    intro h
    show (aOrs f m ||| f m) ||| X = X
    rw [Int32.or_assoc, h m (by omega)]
    exact ih (fun j hj => h j (by omega))
theorem aOrs_eq {f g : Nat → Int32} {m k : Nat} (h1 : ∀ j, j < m → f j = 0 ∨ ∃ i, i < k ∧ f j = g i) (h2 : ∀ i, i < k → g i = 0 ∨ ∃ j, j < m ∧ g i = f j) : aOrs f m = aOrs g k := by
  have a : aOrs f m ||| aOrs g k = aOrs g k := aOrs_abs f _ (fun j hj => by
    rcases h1 j hj with e | ⟨i, hi, e⟩
    · rw [e]; exact Int32.zero_or
    · rw [e]; exact aOrs_in g hi)
  have b : aOrs g k ||| aOrs f m = aOrs f m := aOrs_abs g _ (fun j hj => by
    rcases h2 j hj with e | ⟨i, hi, e⟩
    · rw [e]; exact Int32.zero_or
    · rw [e]; exact aOrs_in f hi)
  rw [← a, Int32.or_comm, b]
theorem c_purses (h : Sim t n nb nw M s) : fX7_allPurses M t = some (aSum (fun w => s (47 + 2 * w)) nw) := by
  have hwl := h.nwl
  unfold fX7_allPurses lX7_allPurses_4
  rw [zj_e]
  exact loop2 (F := bX7_allPurses_4 M t fun x1 => some x1) (E := fun x1 => some x1) (m := nw) (fun i => aSum (fun w => s (47 + 2 * w)) i) (fun rc => by
    unfold bX7_allPurses_4
    rw [h.1.w2, h.e2, if_pos (nI_le (Nat.le_refl _) (by omega))]) (fun rc i hi => by
    unfold bX7_allPurses_4
    simp only [h.1.w2, h.e2, if_neg (nI_ge hi (show nw < 2 ^ 31 by omega)), ix6 (show i < 6 by omega), z_bs, nI_1, h.1.purse (show i < 6 by omega)]
    rfl) nw 0 zFuel (by omega) (zF0 (by omega))
theorem m_purses (h : Sim t n nb nw M (N.1 1)) : fX10_purses N = some (aSum (fun w => N.1 1 (47 + 2 * w)) nw) := by
  have hwl := h.nwl
  unfold fX10_purses lX10_purses_4
  rw [zj_e]
  exact loop2 (F := bX10_purses_4 N fun x1 => some x1) (E := fun x1 => some x1) (m := nw) (fun i => aSum (fun w => N.1 1 (47 + 2 * w)) i) (fun rc => by
    unfold bX10_purses_4
    rw [h.e2, if_pos (nI_le (Nat.le_refl _) (by omega))]) (fun rc i hi => by
    unfold bX10_purses_4
    simp only [h.e2, if_neg (nI_ge hi (show nw < 2 ^ 31 by omega)), m_t0 (show i < 6 by omega), z_bs, nI_1]
    rfl) nw 0 zFuel (by omega) (zF0 (by omega))
theorem c_hoards (h : Sim t n nb nw M s) : fX7_allHoards M t = some (aSum (fun b => s (15 + 4 * b + 2)) nb) := by
  have hwl := h.nbl
  unfold fX7_allHoards lX7_allHoards_4
  rw [zj_e]
  exact loop2 (F := bX7_allHoards_4 M t fun x1 => some x1) (E := fun x1 => some x1) (m := nb) (fun i => aSum (fun b => s (15 + 4 * b + 2)) i) (fun rc => by
    unfold bX7_allHoards_4
    rw [h.1.b1, h.e1, if_pos (nI_le (Nat.le_refl _) (by omega))]) (fun rc i hi => by
    unfold bX7_allHoards_4
    simp only [h.1.b1, h.e1, if_neg (nI_ge hi (show nb < 2 ^ 31 by omega)), ix8 (show i < 8 by omega), z_bs, nI_1, h.1.hoard (show i < 8 by omega)]
    rfl) nb 0 zFuel (by omega) (zF0 (by omega))
theorem m_hoards (h : Sim t n nb nw M (N.1 1)) : fX10_hoards N = some (aSum (fun b => N.1 1 (15 + 4 * b + 2)) nb) := by
  have hwl := h.nbl
  unfold fX10_hoards lX10_hoards_4
  rw [zj_e]
  exact loop2 (F := bX10_hoards_4 N fun x1 => some x1) (E := fun x1 => some x1) (m := nb) (fun i => aSum (fun b => N.1 1 (15 + 4 * b + 2)) i) (fun rc => by
    unfold bX10_hoards_4
    rw [h.e1, if_pos (nI_le (Nat.le_refl _) (by omega))]) (fun rc i hi => by
    unfold bX10_hoards_4
    simp only [h.e1, if_neg (nI_ge hi (show nb < 2 ^ 31 by omega)), m_i2 (show i < 8 by omega), z_bs, nI_1]
    rfl) nb 0 zFuel (by omega) (zF0 (by omega))
def aSh (i : Nat) : Int32 := (1 : Int32) <<< (nI i &&& 31)
theorem c_inShop (h : Sim t n nb nw M s) : fX7_beardsInShop M t = some (aOrs (fun b => if s (15 + 4 * b + 3) = -1 then aSh b else 0) nb) := by
  have hwl := h.nbl
  unfold fX7_beardsInShop lX7_beardsInShop_4
  rw [zj_e]
  exact loop2 (F := bX7_beardsInShop_4 M t fun x1 => some x1) (E := fun x1 => some x1) (m := nb) (fun i => aOrs (fun b => if s (15 + 4 * b + 3) = -1 then aSh b else 0) i) (fun rc => by
    unfold bX7_beardsInShop_4
    rw [h.1.b1, h.e1, if_pos (nI_le (Nat.le_refl _) (by omega))]) (fun rc i hi => by
    unfold bX7_beardsInShop_4
    show _ = rc (aOrs (fun b => if s (15 + 4 * b + 3) = -1 then aSh b else 0) i ||| (if s (15 + 4 * i + 3) = -1 then aSh i else 0)) (nI (i + 1))
    by_cases e : s (15 + 4 * i + 3) = -1
    · simp only [h.1.b1, h.e1, if_neg (nI_ge hi (show nb < 2 ^ 31 by omega)), ix8 (show i < 8 by omega), z_bs, zj_e, nI_1, h.1.on (show i < 8 by omega), if_pos e]
      rfl
    · simp only [h.1.b1, h.e1, if_neg (nI_ge hi (show nb < 2 ^ 31 by omega)), ix8 (show i < 8 by omega), z_bs, zj_e, nI_1, h.1.on (show i < 8 by omega), if_neg e, or0]) nb 0 zFuel (by omega) (zF0 (by omega))
theorem m_inShop (h : Sim t n nb nw M (N.1 1)) : fX10_inShop N = some (aOrs (fun b => if N.1 1 (15 + 4 * b + 3) = -1 then aSh b else 0) nb) := by
  have hwl := h.nbl
  unfold fX10_inShop lX10_inShop_4
  rw [zj_e]
  exact loop2 (F := bX10_inShop_4 N fun x1 => some x1) (E := fun x1 => some x1) (m := nb) (fun i => aOrs (fun b => if N.1 1 (15 + 4 * b + 3) = -1 then aSh b else 0) i) (fun rc => by
    unfold bX10_inShop_4
    rw [h.e1, if_pos (nI_le (Nat.le_refl _) (by omega))]) (fun rc i hi => by
    unfold bX10_inShop_4
    show _ = rc (aOrs (fun b => if N.1 1 (15 + 4 * b + 3) = -1 then aSh b else 0) i ||| (if N.1 1 (15 + 4 * i + 3) = -1 then aSh i else 0)) (nI (i + 1))
    by_cases e : N.1 1 (15 + 4 * i + 3) = -1
    · simp only [h.e1, if_neg (nI_ge hi (show nb < 2 ^ 31 by omega)), m_i3 (show i < 8 by omega), z_bs, zj_e, nI_1, if_pos e]
      rfl
    · simp only [h.e1, if_neg (nI_ge hi (show nb < 2 ^ 31 by omega)), m_i3 (show i < 8 by omega), z_bs, zj_e, nI_1, if_neg e]) nb 0 zFuel (by omega) (zF0 (by omega))
theorem c_inBeards (h : Sim t n nb nw M s) : fX7_wearersInBeards M t = some (aOrs (fun w => if M.1 (t + 7) w = -1 then 0 else aSh w) nw) := by
  have hwl := h.nwl
  unfold fX7_wearersInBeards lX7_wearersInBeards_4
  rw [zj_e]
  exact loop2 (F := bX7_wearersInBeards_4 M t fun x1 => some x1) (E := fun x1 => some x1) (m := nw) (fun i => aOrs (fun w => if M.1 (t + 7) w = -1 then 0 else aSh w) i) (fun rc => by
    unfold bX7_wearersInBeards_4
    rw [h.1.w2, h.e2, if_pos (nI_le (Nat.le_refl _) (by omega))]) (fun rc i hi => by
    unfold bX7_wearersInBeards_4
    show _ = rc (aOrs (fun w => if M.1 (t + 7) w = -1 then 0 else aSh w) i ||| (if M.1 (t + 7) i = -1 then 0 else aSh i)) (nI (i + 1))
    by_cases e : M.1 (t + 7) i = -1
    · simp only [h.1.w2, h.e2, if_neg (nI_ge hi (show nw < 2 ^ 31 by omega)), ix6 (show i < 6 by omega), z_bs, zj_e, nI_1, if_pos e, or0]
    · simp only [h.1.w2, h.e2, if_neg (nI_ge hi (show nw < 2 ^ 31 by omega)), ix6 (show i < 6 by omega), z_bs, zj_e, nI_1, if_neg e]
      rfl) nw 0 zFuel (by omega) (zF0 (by omega))
theorem m_bearded (h : Sim t n nb nw M (N.1 1)) : fX10_bearded N = some (aOrs (fun b => if N.1 1 (15 + 4 * b + 3) = -1 then 0 else (1 : Int32) <<< (N.1 1 (15 + 4 * b + 3) &&& 31)) nb) := by
  have hwl := h.nbl
  unfold fX10_bearded lX10_bearded_4
  rw [zj_e]
  exact loop2 (F := bX10_bearded_4 N fun x1 => some x1) (E := fun x1 => some x1) (m := nb) (fun i => aOrs (fun b => if N.1 1 (15 + 4 * b + 3) = -1 then 0 else (1 : Int32) <<< (N.1 1 (15 + 4 * b + 3) &&& 31)) i) (fun rc => by
    unfold bX10_bearded_4
    rw [h.e1, if_pos (nI_le (Nat.le_refl _) (by omega))]) (fun rc i hi => by
    unfold bX10_bearded_4
    show _ = rc (aOrs (fun b => if N.1 1 (15 + 4 * b + 3) = -1 then 0 else (1 : Int32) <<< (N.1 1 (15 + 4 * b + 3) &&& 31)) i ||| (if N.1 1 (15 + 4 * i + 3) = -1 then 0 else (1 : Int32) <<< (N.1 1 (15 + 4 * i + 3) &&& 31))) (nI (i + 1))
    by_cases e : N.1 1 (15 + 4 * i + 3) = -1
    · simp only [h.e1, if_neg (nI_ge hi (show nb < 2 ^ 31 by omega)), m_i3 (show i < 8 by omega), z_bs, zj_e, nI_1, if_pos e]
    · simp only [h.e1, if_neg (nI_ge hi (show nb < 2 ^ 31 by omega)), m_i3 (show i < 8 by omega), z_bs, zj_e, nI_1, if_neg e]) nb 0 zFuel (by omega) (zF0 (by omega))
theorem beards_eq (h : Sim t n nb nw M s) : aOrs (fun w => if M.1 (t + 7) w = -1 then 0 else aSh w) nw = aOrs (fun b => if s (15 + 4 * b + 3) = -1 then 0 else (1 : Int32) <<< (s (15 + 4 * b + 3) &&& 31)) nb := by
  have hwl := h.nwl
  have hbl := h.nbl
  refine aOrs_eq (fun w hw => ?_) (fun b hb => ?_)
  · rcases (h.W hw).2 with e | ⟨b, hb, e, e2⟩
    · exact Or.inl (if_pos e)
    · refine Or.inr ⟨b, hb, ?_⟩
      rw [if_neg (by rw [e]; exact nI_m1 b (by omega)), if_neg (by rw [e2]; exact nI_m1 w (by omega)), e2]; rfl
  · rcases (h.B hb).2.2 with e | ⟨w, hw, e, e2⟩
    · exact Or.inl (if_pos e)
    · refine Or.inr ⟨w, hw, ?_⟩
      rw [if_neg (by rw [e]; exact nI_m1 w (by omega)), if_neg (by rw [e2]; exact nI_m1 b (by omega)), e]; rfl
theorem c_guests (h : Sim t n nb nw M s) (a : Int32) : fX7_guestsAt M t a = some (aOrs (fun w => if zrem (s 0 + s (47 + 2 * w + 1)) 6 = a then aSh w else 0) nw) := by
  have hwl := h.nwl
  unfold fX7_guestsAt lX7_guestsAt_4
  rw [zj_e]
  exact loop2 (F := bX7_guestsAt_4 M t a fun x1 => some x1) (E := fun x1 => some x1) (m := nw) (fun i => aOrs (fun w => if zrem (s 0 + s (47 + 2 * w + 1)) 6 = a then aSh w else 0) i) (fun rc => by
    unfold bX7_guestsAt_4
    rw [h.1.w2, h.e2, if_pos (nI_le (Nat.le_refl _) (by omega))]) (fun rc i hi => by
    unfold bX7_guestsAt_4
    show _ = rc (aOrs (fun w => if zrem (s 0 + s (47 + 2 * w + 1)) 6 = a then aSh w else 0) i ||| (if zrem (s 0 + s (47 + 2 * i + 1)) 6 = a then aSh i else 0)) (nI (i + 1))
    by_cases e : zrem (s 0 + s (47 + 2 * i + 1)) 6 = a
    · simp only [h.1.w2, h.e2, if_neg (nI_ge hi (show nw < 2 ^ 31 by omega)), c_house (show i < 6 by omega), h.1.n0, h.1.round (show i < 6 by omega), z_bs, zj_e, nI_1, if_pos e]
      rfl
    · simp only [h.1.w2, h.e2, if_neg (nI_ge hi (show nw < 2 ^ 31 by omega)), c_house (show i < 6 by omega), h.1.n0, h.1.round (show i < 6 by omega), z_bs, zj_e, nI_1, if_neg e, or0]) nw 0 zFuel (by omega) (zF0 (by omega))
theorem m_goers (h : Sim t n nb nw M (N.1 1)) (a : Int32) : fX10_goers N a = some (aOrs (fun w => if zrem (N.1 1 0 + N.1 1 (47 + 2 * w + 1)) 6 = a then aSh w else 0) nw) := by
  have hwl := h.nwl
  unfold fX10_goers lX10_goers_4
  rw [zj_e]
  exact loop2 (F := bX10_goers_4 N a fun x1 => some x1) (E := fun x1 => some x1) (m := nw) (fun i => aOrs (fun w => if zrem (N.1 1 0 + N.1 1 (47 + 2 * w + 1)) 6 = a then aSh w else 0) i) (fun rc => by
    unfold bX10_goers_4
    rw [h.e2, if_pos (nI_le (Nat.le_refl _) (by omega))]) (fun rc i hi => by
    unfold bX10_goers_4
    show _ = rc (aOrs (fun w => if zrem (N.1 1 0 + N.1 1 (47 + 2 * w + 1)) 6 = a then aSh w else 0) i ||| (if zrem (N.1 1 0 + N.1 1 (47 + 2 * i + 1)) 6 = a then aSh i else 0)) (nI (i + 1))
    by_cases e : zrem (N.1 1 0 + N.1 1 (47 + 2 * i + 1)) 6 = a
    · simp only [h.e2, if_neg (nI_ge hi (show nw < 2 ^ 31 by omega)), m_place (show i < 6 by omega), z_bs, zj_e, nI_1, if_pos e]
      rfl
    · simp only [h.e2, if_neg (nI_ge hi (show nw < 2 ^ 31 by omega)), m_place (show i < 6 by omega), z_bs, zj_e, nI_1, if_neg e]) nw 0 zFuel (by omega) (zF0 (by omega))
/-- under a kind -/
theorem under_eq : ∀ k, k < 6 → ∀ a, a < 6 → ((zj (zbl (0 : Int32)) fun E36_1 => lX9_isUnder_4 (nI a) E36_1 zFuel (nI k) (0 : Int32)) = fX10_isUnder (nI k) (nI a)) ∧ (fX10_isUnder (nI k) (nI a) = some 0 ∨ fX10_isUnder (nI k) (nI a) = some 1) := by decide +kernel
end TB
