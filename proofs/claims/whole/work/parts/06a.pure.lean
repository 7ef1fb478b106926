/-! pure reasoning: bases -/
theorem z_bs {α β : Type} {a : α} {f : α → Option β} : (some a).bind f = f a := rfl
theorem zb2_s {α β γ : Type} {a : α} {b : β} {f : α → β → Option γ} : zb2 (some (a, b)) f = f a b := rfl
theorem zj_e {α R : Type} {J : α} {K : α → Option R} : zj J K = K J := rfl
theorem zbl0 : zbl 0 = some 0 := by decide
theorem zbl1 : zbl 1 = some 1 := by decide
theorem zix_nI {j n : Nat} (h : j < n) (hn : n < 2 ^ 31) : zix (nI j) n = some j := by
  unfold zix
  rw [if_neg (nI_in h hn), nI_clamp (Nat.lt_trans h hn)]
theorem zst_g {M : zM} {k j a b : Nat} {v : Int32} : (zst M k j v).1 a b = if a = k ∧ b = j then v else M.1 a b := rfl
theorem zst_g2 {M : zM} {k j : Nat} {v : Int32} : (zst M k j v).2 = M.2 := rfl
theorem zstL_g {M : zM} {k j a b : Nat} {v : Int64} : (zstL M k j v).2 a b = if a = k ∧ b = j then v else M.2 a b := rfl
theorem zstL_g1 {M : zM} {k j : Nat} {v : Int64} : (zstL M k j v).1 = M.1 := rfl
theorem zst_1 {M : zM} {j : Nat} {v : Int32} : (zst M 1 j v).1 1 = upd (M.1 1) j v := zst_at
theorem nI_m1 (x : Nat) (h : x < 2 ^ 31) : ¬ nI x = -1 := fun e => nI_pos h (by rw [e]; decide)
theorem nI_inj {a b : Nat} (ha : a < 2 ^ 31) (hb : b < 2 ^ 31) (h : nI a = nI b) : a = b := (nI_eq ha hb).mp h
/-- places: the model's row against the class's cells -/
def zo (p : Nat) : Nat := if p < 3 then 0 else if p < 15 then (if (p - 3) % 2 = 0 then 9 else 8) else if p < 47 then 1 + (p - 15) % 4 else 5 + (p - 47) % 2
def zi (p : Nat) : Nat := if p < 3 then p + 1 else if p < 15 then (p - 3) / 2 else if p < 47 then (p - 15) / 4 else (p - 47) / 2
theorem zoi_inj : ∀ p, p < 59 → ∀ q, q < 59 → zo p = zo q ∧ zi p = zi q → p = q := by decide +kernel
theorem zo_7 : ∀ p, p < 59 → zo p ≠ 7 ∧ zo p < 10 := by decide +kernel
theorem zoH : ∀ h, h < 6 → (zo (3 + 2 * h) = 9 ∧ zi (3 + 2 * h) = h) ∧ zo (3 + 2 * h + 1) = 8 ∧ zi (3 + 2 * h + 1) = h := by decide +kernel
theorem zoB : ∀ b, b < 8 → (zo (15 + 4 * b) = 1 ∧ zi (15 + 4 * b) = b) ∧ (zo (15 + 4 * b + 1) = 2 ∧ zi (15 + 4 * b + 1) = b) ∧ (zo (15 + 4 * b + 2) = 3 ∧ zi (15 + 4 * b + 2) = b) ∧ zo (15 + 4 * b + 3) = 4 ∧ zi (15 + 4 * b + 3) = b := by decide +kernel
theorem zoW : ∀ w, w < 6 → (zo (47 + 2 * w) = 5 ∧ zi (47 + 2 * w) = w) ∧ zo (47 + 2 * w + 1) = 6 ∧ zi (47 + 2 * w + 1) = w := by decide +kernel
/-- the class's trade at t holds the row s -/
def SimA (t : Nat) (M : zM) (s : Nat → Int32) : Prop := ∀ p, p < 59 → M.1 (t + zo p) (zi p) = s p
/-- what holds of a row and of who wears what -/
def InvS (s ww : Nat → Int32) (n nb nw : Nat) : Prop := s 0 = nI n ∧ s 1 = nI nb ∧ s 2 = nI nw ∧ nb ≤ 8 ∧ nw ≤ 6 ∧
  (∀ b, b < nb → (∃ k, k < 6 ∧ s (15 + 4 * b) = nI k) ∧ ¬ s (15 + 4 * b + 2) < 0 ∧ (s (15 + 4 * b + 3) = -1 ∨ ∃ w, w < nw ∧ s (15 + 4 * b + 3) = nI w ∧ ww w = nI b)) ∧
  (∀ w, w < nw → (∃ r, r < 6 ∧ s (47 + 2 * w + 1) = nI r) ∧ (ww w = -1 ∨ ∃ b, b < nb ∧ ww w = nI b ∧ s (15 + 4 * b + 3) = nI w))
def Sim (t n nb nw : Nat) (M : zM) (s : Nat → Int32) : Prop := SimA t M s ∧ InvS s (M.1 (t + 7)) n nb nw
/-- what changed: the class's cells of a trade; the model's row -/
def FrT (t : Nat) (M M' : zM) : Prop := (∀ k, k < t ∨ t + 10 ≤ k → M'.1 k = M.1 k) ∧ M'.2 = M.2
def FrN (N N' : zM) : Prop := (∀ k, k ≠ 1 → N'.1 k = N.1 k) ∧ N'.2 = N.2
theorem FrT.rf {t : Nat} {M : zM} : FrT t M M := ⟨fun _ _ => rfl, rfl⟩
theorem FrT.tr {t : Nat} {M M' M'' : zM} (h : FrT t M M') (h' : FrT t M' M'') : FrT t M M'' := ⟨fun k hk => (h'.1 k hk).trans (h.1 k hk), h'.2.trans h.2⟩
theorem FrN.rf {N : zM} : FrN N N := ⟨fun _ _ => rfl, rfl⟩
theorem FrN.tr {N N' N'' : zM} (h : FrN N N') (h' : FrN N' N'') : FrN N N'' := ⟨fun k hk => (h'.1 k hk).trans (h.1 k hk), h'.2.trans h.2⟩
theorem FrT.st {t : Nat} {M : zM} {k j : Nat} {v : Int32} (h : t ≤ k) (h2 : k < t + 10) : FrT t M (zst M k j v) := ⟨fun a ha => (zst_ne a (by omega)).1, rfl⟩
theorem FrN.st {N : zM} {j : Nat} {v : Int32} : FrN N (zst N 1 j v) := ⟨fun a ha => (zst_ne a ha).1, rfl⟩
theorem SimA.set {t p : Nat} {M : zM} {s : Nat → Int32} {v : Int32} (h : SimA t M s) (hp : p < 59) : SimA t (zst M (t + zo p) (zi p) v) (upd s p v) := by
  intro q hq
  rw [zst_g]
  by_cases e : q = p
  · subst e; rw [if_pos ⟨rfl, rfl⟩, pk_us]
  · rw [if_neg (fun c => e (zoi_inj q hq p hp ⟨by omega, c.2⟩)), pk_un e, h q hq]
theorem SimA.w {t w : Nat} {M : zM} {s : Nat → Int32} {v : Int32} (h : SimA t M s) : SimA t (zst M (t + 7) w v) s := by
  intro q hq
  rw [zst_g, if_neg (fun c => (zo_7 q hq).1 (by omega)), h q hq]
section SA
variable {t n nb nw : Nat} {M : zM} {s ww : Nat → Int32}
theorem SimA.n0 (h : SimA t M s) : M.1 t 1 = s 0 := h 0 (by decide)
theorem SimA.b1 (h : SimA t M s) : M.1 t 2 = s 1 := h 1 (by decide)
theorem SimA.w2 (h : SimA t M s) : M.1 t 3 = s 2 := h 2 (by decide)
theorem SimA.known (h : SimA t M s) {x : Nat} (hx : x < 6) : M.1 (t + 9) x = s (3 + 2 * x) := by
  have := h (3 + 2 * x) (by omega); rw [(zoH x hx).1.1, (zoH x hx).1.2] at this; exact this
theorem SimA.mood (h : SimA t M s) {x : Nat} (hx : x < 6) : M.1 (t + 8) x = s (3 + 2 * x + 1) := by
  have := h (3 + 2 * x + 1) (by omega); rw [(zoH x hx).2.1, (zoH x hx).2.2] at this; exact this
theorem SimA.kind (h : SimA t M s) {b : Nat} (hb : b < 8) : M.1 (t + 1) b = s (15 + 4 * b) := by
  have := h (15 + 4 * b) (by omega); rw [(zoB b hb).1.1, (zoB b hb).1.2] at this; exact this
theorem SimA.fame (h : SimA t M s) {b : Nat} (hb : b < 8) : M.1 (t + 2) b = s (15 + 4 * b + 1) := by
  have := h (15 + 4 * b + 1) (by omega); rw [(zoB b hb).2.1.1, (zoB b hb).2.1.2] at this; exact this
theorem SimA.hoard (h : SimA t M s) {b : Nat} (hb : b < 8) : M.1 (t + 3) b = s (15 + 4 * b + 2) := by
  have := h (15 + 4 * b + 2) (by omega); rw [(zoB b hb).2.2.1.1, (zoB b hb).2.2.1.2] at this; exact this
theorem SimA.on (h : SimA t M s) {b : Nat} (hb : b < 8) : M.1 (t + 4) b = s (15 + 4 * b + 3) := by
  have := h (15 + 4 * b + 3) (by omega); rw [(zoB b hb).2.2.2.1, (zoB b hb).2.2.2.2] at this; exact this
theorem SimA.purse (h : SimA t M s) {w : Nat} (hw : w < 6) : M.1 (t + 5) w = s (47 + 2 * w) := by
  have := h (47 + 2 * w) (by omega); rw [(zoW w hw).1.1, (zoW w hw).1.2] at this; exact this
theorem SimA.round (h : SimA t M s) {w : Nat} (hw : w < 6) : M.1 (t + 6) w = s (47 + 2 * w + 1) := by
  have := h (47 + 2 * w + 1) (by omega); rw [(zoW w hw).2.1, (zoW w hw).2.2] at this; exact this
theorem SimA.sMood (h : SimA t M s) {x : Nat} (hx : x < 6) (v : Int32) : SimA t (zst M (t + 8) x v) (upd s (3 + 2 * x + 1) v) := by
  have := h.set (p := 3 + 2 * x + 1) (v := v) (by omega); rw [(zoH x hx).2.1, (zoH x hx).2.2] at this; exact this
theorem SimA.sKnown (h : SimA t M s) {x : Nat} (hx : x < 6) (v : Int32) : SimA t (zst M (t + 9) x v) (upd s (3 + 2 * x) v) := by
  have := h.set (p := 3 + 2 * x) (v := v) (by omega); rw [(zoH x hx).1.1, (zoH x hx).1.2] at this; exact this
theorem SimA.sKind (h : SimA t M s) {b : Nat} (hb : b < 8) (v : Int32) : SimA t (zst M (t + 1) b v) (upd s (15 + 4 * b) v) := by
  have := h.set (p := 15 + 4 * b) (v := v) (by omega); rw [(zoB b hb).1.1, (zoB b hb).1.2] at this; exact this
theorem SimA.sFame (h : SimA t M s) {b : Nat} (hb : b < 8) (v : Int32) : SimA t (zst M (t + 2) b v) (upd s (15 + 4 * b + 1) v) := by
  have := h.set (p := 15 + 4 * b + 1) (v := v) (by omega); rw [(zoB b hb).2.1.1, (zoB b hb).2.1.2] at this; exact this
theorem SimA.sHoard (h : SimA t M s) {b : Nat} (hb : b < 8) (v : Int32) : SimA t (zst M (t + 3) b v) (upd s (15 + 4 * b + 2) v) := by
  have := h.set (p := 15 + 4 * b + 2) (v := v) (by omega); rw [(zoB b hb).2.2.1.1, (zoB b hb).2.2.1.2] at this; exact this
theorem SimA.sOn (h : SimA t M s) {b : Nat} (hb : b < 8) (v : Int32) : SimA t (zst M (t + 4) b v) (upd s (15 + 4 * b + 3) v) := by
  have := h.set (p := 15 + 4 * b + 3) (v := v) (by omega); rw [(zoB b hb).2.2.2.1, (zoB b hb).2.2.2.2] at this; exact this
theorem SimA.sPurse (h : SimA t M s) {w : Nat} (hw : w < 6) (v : Int32) : SimA t (zst M (t + 5) w v) (upd s (47 + 2 * w) v) := by
  have := h.set (p := 47 + 2 * w) (v := v) (by omega); rw [(zoW w hw).1.1, (zoW w hw).1.2] at this; exact this
theorem SimA.sRound (h : SimA t M s) {w : Nat} (hw : w < 6) (v : Int32) : SimA t (zst M (t + 6) w v) (upd s (47 + 2 * w + 1) v) := by
  have := h.set (p := 47 + 2 * w + 1) (v := v) (by omega); rw [(zoW w hw).2.1, (zoW w hw).2.2] at this; exact this
theorem SimA.s0 (h : SimA t M s) (v : Int32) : SimA t (zst M t 1 v) (upd s 0 v) := h.set (p := 0) (v := v) (by decide)
theorem SimA.s1 (h : SimA t M s) (v : Int32) : SimA t (zst M t 2 v) (upd s 1 v) := h.set (p := 1) (v := v) (by decide)
theorem SimA.s2 (h : SimA t M s) (v : Int32) : SimA t (zst M t 3 v) (upd s 2 v) := h.set (p := 2) (v := v) (by decide)
theorem zst_w {k j : Nat} {v : Int32} (hk : k ≠ t + 7) : (zst M k j v).1 (t + 7) = M.1 (t + 7) := (zst_ne (t + 7) (fun e => hk e.symm)).1
/-- a place that no invariant speaks of -/
theorem InvS.free (h : InvS s ww n nb nw) {p : Nat} {v : Int32} (h0 : p ≠ 0) (h1 : p ≠ 1) (h2 : p ≠ 2) (hB : ∀ b, b < 8 → p ≠ 15 + 4 * b ∧ p ≠ 15 + 4 * b + 2 ∧ p ≠ 15 + 4 * b + 3) (hW : ∀ w, w < 6 → p ≠ 47 + 2 * w + 1) : InvS (upd s p v) ww n nb nw := by
  obtain ⟨a0, a1, a2, a3, a4, a5, a6⟩ := h
  refine ⟨by rw [pk_un (Ne.symm h0), a0], by rw [pk_un (Ne.symm h1), a1], by rw [pk_un (Ne.symm h2), a2], a3, a4, fun b hb => ?_, fun w hw => ?_⟩
  · obtain ⟨e1, e2, e3⟩ := hB b (by omega)
    rw [pk_un (Ne.symm e1), pk_un (Ne.symm e2), pk_un (Ne.symm e3)]
    exact a5 b hb
  · rw [pk_un (Ne.symm (hW w (by omega)))]
    obtain ⟨x1, x2⟩ := a6 w hw
    refine ⟨x1, x2.imp id fun ⟨b, y1, y2, y3⟩ => ⟨b, y1, y2, ?_⟩⟩
    rw [pk_un (Ne.symm (hB b (by omega)).2.2)]; exact y3
end SA
