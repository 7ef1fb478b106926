/-! elementary changes keep the relation -/
section SB
variable {t n nb nw : Nat} {M : zM} {s : Nat → Int32}
theorem Sim.nbl (h : Sim t n nb nw M s) : nb ≤ 8 := h.2.2.2.2.1
theorem Sim.nwl (h : Sim t n nb nw M s) : nw ≤ 6 := h.2.2.2.2.2.1
theorem Sim.e0 (h : Sim t n nb nw M s) : s 0 = nI n := h.2.1
theorem Sim.e1 (h : Sim t n nb nw M s) : s 1 = nI nb := h.2.2.1
theorem Sim.e2 (h : Sim t n nb nw M s) : s 2 = nI nw := h.2.2.2.1
theorem Sim.B (h : Sim t n nb nw M s) {b : Nat} (hb : b < nb) : (∃ k, k < 6 ∧ s (15 + 4 * b) = nI k) ∧ ¬ s (15 + 4 * b + 2) < 0 ∧ (s (15 + 4 * b + 3) = -1 ∨ ∃ w, w < nw ∧ s (15 + 4 * b + 3) = nI w ∧ M.1 (t + 7) w = nI b) := h.2.2.2.2.2.2.1 b hb
theorem Sim.W (h : Sim t n nb nw M s) {w : Nat} (hw : w < nw) : (∃ r, r < 6 ∧ s (47 + 2 * w + 1) = nI r) ∧ (M.1 (t + 7) w = -1 ∨ ∃ b, b < nb ∧ M.1 (t + 7) w = nI b ∧ s (15 + 4 * b + 3) = nI w) := h.2.2.2.2.2.2.2 w hw
theorem Sim.mk {M' : zM} {s' : Nat → Int32} {n' nb' nw' : Nat} (hA : SimA t M' s') {ww : Nat → Int32} (hw : M'.1 (t + 7) = ww) (hI : InvS s' ww n' nb' nw') : Sim t n' nb' nw' M' s' := ⟨hA, by rw [hw]; exact hI⟩
theorem Sim.congr {s' : Nat → Int32} (h : Sim t n nb nw M s) (e : ∀ j, j < 59 → s' j = s j) : Sim t n nb nw M s' := by
  obtain ⟨hA, a0, a1, a2, a3, a4, a5, a6⟩ := h
  refine ⟨fun p hp => by rw [e p hp]; exact hA p hp, by rw [e 0 (by decide)]; exact a0, by rw [e 1 (by decide)]; exact a1, by rw [e 2 (by decide)]; exact a2, a3, a4, fun b hb => ?_, fun w hw => ?_⟩
  · rw [e (15 + 4 * b) (by omega), e (15 + 4 * b + 2) (by omega), e (15 + 4 * b + 3) (by omega)]; exact a5 b hb
  · rw [e (47 + 2 * w + 1) (by omega)]
    obtain ⟨x1, x2⟩ := a6 w hw
    exact ⟨x1, x2.imp id fun ⟨b, y1, y2, y3⟩ => ⟨b, y1, y2, by rw [e _ (by omega)]; exact y3⟩⟩
/-- the class's cells elsewhere -/
theorem Sim.congrM {M' : zM} (h : Sim t n nb nw M s) (e : ∀ k, t ≤ k → k < t + 10 → M'.1 k = M.1 k) : Sim t n nb nw M' s :=
  ⟨fun p hp => by rw [e _ (by omega) (by have := (zo_7 p hp).2; omega)]; exact h.1 p hp, by rw [e (t + 7) (by omega) (by omega)]; exact h.2⟩
theorem Sim.purse (h : Sim t n nb nw M s) {w : Nat} (hw : w < 6) (v : Int32) : Sim t n nb nw (zst M (t + 5) w v) (upd s (47 + 2 * w) v) :=
  Sim.mk (h.1.sPurse hw v) (zst_w (by omega)) (h.2.free (by omega) (by omega) (by omega) (fun b hb => ⟨by omega, by omega, by omega⟩) (fun w' hw' => by omega))
theorem Sim.mood (h : Sim t n nb nw M s) {x : Nat} (hx : x < 6) (v : Int32) : Sim t n nb nw (zst M (t + 8) x v) (upd s (3 + 2 * x + 1) v) :=
  Sim.mk (h.1.sMood hx v) (zst_w (by omega)) (h.2.free (by omega) (by omega) (by omega) (fun b hb => ⟨by omega, by omega, by omega⟩) (fun w' hw' => by omega))
theorem Sim.known (h : Sim t n nb nw M s) {x : Nat} (hx : x < 6) (v : Int32) : Sim t n nb nw (zst M (t + 9) x v) (upd s (3 + 2 * x) v) :=
  Sim.mk (h.1.sKnown hx v) (zst_w (by omega)) (h.2.free (by omega) (by omega) (by omega) (fun b hb => ⟨by omega, by omega, by omega⟩) (fun w' hw' => by omega))
theorem Sim.fame (h : Sim t n nb nw M s) {b : Nat} (hb : b < 8) (v : Int32) : Sim t n nb nw (zst M (t + 2) b v) (upd s (15 + 4 * b + 1) v) :=
  Sim.mk (h.1.sFame hb v) (zst_w (by omega)) (h.2.free (by omega) (by omega) (by omega) (fun b hb => ⟨by omega, by omega, by omega⟩) (fun w' hw' => by omega))
theorem Sim.hoard (h : Sim t n nb nw M s) {b : Nat} (hb : b < 8) {v : Int32} (hv : ¬ v < 0) : Sim t n nb nw (zst M (t + 3) b v) (upd s (15 + 4 * b + 2) v) := by
  refine Sim.mk (h.1.sHoard hb v) (zst_w (by omega)) ?_
  obtain ⟨hA, a0, a1, a2, a3, a4, a5, a6⟩ := h
  refine ⟨by rw [pk_un (by omega), a0], by rw [pk_un (by omega), a1], by rw [pk_un (by omega), a2], a3, a4, fun b' hb' => ?_, fun w hw => ?_⟩
  · rw [pk_un (by omega), pk_un (show 15 + 4 * b' + 3 ≠ 15 + 4 * b + 2 by omega)]
    obtain ⟨x1, x2, x3⟩ := a5 b' hb'
    refine ⟨x1, ?_, x3⟩
    by_cases e : b' = b
    · subst e; rw [pk_us]; exact hv
    · rw [pk_un (by omega)]; exact x2
  · rw [pk_un (by omega)]
    obtain ⟨x1, x2⟩ := a6 w hw
    exact ⟨x1, x2.imp id fun ⟨b', y1, y2, y3⟩ => ⟨b', y1, y2, by rw [pk_un (by omega)]; exact y3⟩⟩
theorem Sim.kind (h : Sim t n nb nw M s) {b k : Nat} (hb : b < 8) (hk : k < 6) : Sim t n nb nw (zst M (t + 1) b (nI k)) (upd s (15 + 4 * b) (nI k)) := by
  refine Sim.mk (h.1.sKind hb _) (zst_w (by omega)) ?_
  obtain ⟨hA, a0, a1, a2, a3, a4, a5, a6⟩ := h
  refine ⟨by rw [pk_un (by omega), a0], by rw [pk_un (by omega), a1], by rw [pk_un (by omega), a2], a3, a4, fun b' hb' => ?_, fun w hw => ?_⟩
  · rw [pk_un (show 15 + 4 * b' + 2 ≠ 15 + 4 * b by omega), pk_un (show 15 + 4 * b' + 3 ≠ 15 + 4 * b by omega)]
    obtain ⟨x1, x2, x3⟩ := a5 b' hb'
    refine ⟨?_, x2, x3⟩
    by_cases e : b' = b
    · subst e; rw [pk_us]; exact ⟨k, hk, rfl⟩
    · rw [pk_un (by omega)]; exact x1
  · rw [pk_un (by omega)]
    obtain ⟨x1, x2⟩ := a6 w hw
    exact ⟨x1, x2.imp id fun ⟨b', y1, y2, y3⟩ => ⟨b', y1, y2, by rw [pk_un (by omega)]; exact y3⟩⟩
theorem Sim.round (h : Sim t n nb nw M s) {w r : Nat} (hw : w < 6) (hr : r < 6) : Sim t n nb nw (zst M (t + 6) w (nI r)) (upd s (47 + 2 * w + 1) (nI r)) := by
  refine Sim.mk (h.1.sRound hw _) (zst_w (by omega)) ?_
  obtain ⟨hA, a0, a1, a2, a3, a4, a5, a6⟩ := h
  refine ⟨by rw [pk_un (by omega), a0], by rw [pk_un (by omega), a1], by rw [pk_un (by omega), a2], a3, a4, fun b' hb' => ?_, fun w' hw' => ?_⟩
  · rw [pk_un (show 15 + 4 * b' ≠ 47 + 2 * w + 1 by omega), pk_un (show 15 + 4 * b' + 2 ≠ 47 + 2 * w + 1 by omega), pk_un (show 15 + 4 * b' + 3 ≠ 47 + 2 * w + 1 by omega)]
    exact a5 b' hb'
  · obtain ⟨x1, x2⟩ := a6 w' hw'
    refine ⟨?_, x2.imp id fun ⟨b', y1, y2, y3⟩ => ⟨b', y1, y2, by rw [pk_un (by omega)]; exact y3⟩⟩
    by_cases e : w' = w
    · subst e; rw [pk_us]; exact ⟨r, hr, rfl⟩
    · rw [pk_un (by omega)]; exact x1
theorem Sim.night (h : Sim t n nb nw M s) (m : Nat) : Sim t m nb nw (zst M t 1 (nI m)) (upd s 0 (nI m)) := by
  refine Sim.mk (h.1.s0 _) (zst_w (by omega)) ?_
  obtain ⟨hA, a0, a1, a2, a3, a4, a5, a6⟩ := h
  refine ⟨by rw [pk_us], by rw [pk_un (by omega), a1], by rw [pk_un (by omega), a2], a3, a4, fun b' hb' => ?_, fun w' hw' => ?_⟩
  · rw [pk_un (by omega), pk_un (by omega), pk_un (by omega)]; exact a5 b' hb'
  · rw [pk_un (by omega)]
    obtain ⟨x1, x2⟩ := a6 w' hw'
    exact ⟨x1, x2.imp id fun ⟨b', y1, y2, y3⟩ => ⟨b', y1, y2, by rw [pk_un (by omega)]; exact y3⟩⟩
theorem zst_wat {w : Nat} {v : Int32} : (zst M (t + 7) w v).1 (t + 7) = upd (M.1 (t + 7)) w v := zst_at
/-- a beard comes off -/
theorem Sim.off (h : Sim t n nb nw M s) {w b : Nat} (hw : w < nw) (hb : b < nb) (e : M.1 (t + 7) w = nI b) : Sim t n nb nw (zst (zst M (t + 7) w (-1)) (t + 4) b (-1)) (upd s (15 + 4 * b + 3) (-1)) := by
  have hbl := h.nbl
  have hwl := h.nwl
  refine Sim.mk (SimA.sOn (SimA.w h.1) (by omega) _) (ww := upd (M.1 (t + 7)) w (-1)) (by rw [zst_w (by omega), zst_wat]) ?_
  obtain ⟨hA, a0, a1, a2, a3, a4, a5, a6⟩ := h
  refine ⟨by rw [pk_un (by omega), a0], by rw [pk_un (by omega), a1], by rw [pk_un (by omega), a2], a3, a4, fun b' hb' => ?_, fun w' hw' => ?_⟩
  · rw [pk_un (show 15 + 4 * b' ≠ 15 + 4 * b + 3 by omega), pk_un (show 15 + 4 * b' + 2 ≠ 15 + 4 * b + 3 by omega)]
    obtain ⟨x1, x2, x3⟩ := a5 b' hb'
    refine ⟨x1, x2, ?_⟩
    by_cases eb : b' = b
    · subst eb; rw [pk_us]; exact Or.inl rfl
    · rw [pk_un (by omega)]
      refine x3.imp id fun ⟨w', y1, y2, y3⟩ => ⟨w', y1, y2, ?_⟩
      rw [pk_un (fun e2 => eb (nI_inj (by omega) (by omega) (by rw [← y3, e2, e])))]; exact y3
  · rw [pk_un (show 47 + 2 * w' + 1 ≠ 15 + 4 * b + 3 by omega)]
    obtain ⟨x1, x2⟩ := a6 w' hw'
    refine ⟨x1, ?_⟩
    by_cases ew : w' = w
    · subst ew; rw [pk_us]; exact Or.inl rfl
    · rw [pk_un ew]
      refine x2.imp id fun ⟨b', y1, y2, y3⟩ => ⟨b', y1, y2, ?_⟩
      have hne : b' ≠ b := by
        intro e2
        subst e2
        have h2 := (a6 w hw).2
        rcases h2 with h2 | ⟨b2, z1, z2, z3⟩
        · exact nI_m1 b' (by omega) (e.symm.trans h2)
        · have : b2 = b' := nI_inj (by omega) (by omega) (z2.symm.trans e)
          subst this
          exact ew (nI_inj (by omega) (by omega) (y3.symm.trans z3))
      rw [pk_un (by omega)]; exact y3
/-- a beard goes on -/
theorem Sim.hire (h : Sim t n nb nw M s) {w b : Nat} (hw : w < nw) (hb : b < nb) (e : M.1 (t + 7) w = -1) (e2 : s (15 + 4 * b + 3) = -1) : Sim t n nb nw (zst (zst M (t + 7) w (nI b)) (t + 4) b (nI w)) (upd s (15 + 4 * b + 3) (nI w)) := by
  have hbl := h.nbl
  have hwl := h.nwl
  refine Sim.mk (SimA.sOn (SimA.w h.1) (by omega) _) (ww := upd (M.1 (t + 7)) w (nI b)) (by rw [zst_w (by omega), zst_wat]) ?_
  obtain ⟨hA, a0, a1, a2, a3, a4, a5, a6⟩ := h
  refine ⟨by rw [pk_un (by omega), a0], by rw [pk_un (by omega), a1], by rw [pk_un (by omega), a2], a3, a4, fun b' hb' => ?_, fun w' hw' => ?_⟩
  · rw [pk_un (show 15 + 4 * b' ≠ 15 + 4 * b + 3 by omega), pk_un (show 15 + 4 * b' + 2 ≠ 15 + 4 * b + 3 by omega)]
    obtain ⟨x1, x2, x3⟩ := a5 b' hb'
    refine ⟨x1, x2, ?_⟩
    by_cases eb : b' = b
    · subst eb; rw [pk_us]; exact Or.inr ⟨w, hw, rfl, by rw [pk_us]⟩
    · rw [pk_un (by omega)]
      refine x3.imp id fun ⟨w', y1, y2, y3⟩ => ⟨w', y1, y2, ?_⟩
      rw [pk_un (fun e3 => nI_m1 b' (by omega) (by rw [← y3, e3, e]))]; exact y3
  · rw [pk_un (show 47 + 2 * w' + 1 ≠ 15 + 4 * b + 3 by omega)]
    obtain ⟨x1, x2⟩ := a6 w' hw'
    refine ⟨x1, ?_⟩
    by_cases ew : w' = w
    · subst ew; rw [pk_us]; exact Or.inr ⟨b, hb, rfl, by rw [pk_us]⟩
    · rw [pk_un ew]
      refine x2.imp id fun ⟨b', y1, y2, y3⟩ => ⟨b', y1, y2, ?_⟩
      rw [pk_un (fun e3 => nI_m1 w' (by omega) (by rw [← y3, e3, e2]))]; exact y3
/-- who wears what, both ways -/
theorem Sim.onOf (h : Sim t n nb nw M s) {w b : Nat} (hw : w < nw) (hb : b < nb) (e : M.1 (t + 7) w = nI b) : s (15 + 4 * b + 3) = nI w := by
  have hbl := h.nbl
  rcases (h.W hw).2 with h2 | ⟨b2, z1, z2, z3⟩
  · exact absurd (e.symm.trans h2) (nI_m1 b (by omega))
  · have : b2 = b := nI_inj (by omega) (by omega) (z2.symm.trans e)
    subst this; exact z3
theorem Sim.wOf (h : Sim t n nb nw M s) {w b : Nat} (hw : w < nw) (hb : b < nb) (e : s (15 + 4 * b + 3) = nI w) : M.1 (t + 7) w = nI b := by
  have hwl := h.nwl
  rcases (h.B hb).2.2 with h2 | ⟨w2, z1, z2, z3⟩
  · exact absurd (e.symm.trans h2) (nI_m1 w (by omega))
  · have : w2 = w := nI_inj (by omega) (by omega) (z2.symm.trans e)
    subst this; exact z3
/-- one more beard -/
theorem Sim.addB (h : Sim t n nb nw M s) (hb : nb < 8) {k : Nat} (hk : k < 6) : Sim t n (nb + 1) nw (zst (zst (zst (zst (zst M t 2 (nI (nb + 1))) (t + 1) nb (nI k)) (t + 2) nb 10) (t + 3) nb 0) (t + 4) nb (-1)) (upd (upd (upd (upd (upd s 1 (nI (nb + 1))) (15 + 4 * nb) (nI k)) (15 + 4 * nb + 1) 10) (15 + 4 * nb + 2) 0) (15 + 4 * nb + 3) (-1)) := by
  have hwl := h.nwl
  refine Sim.mk (SimA.sOn (SimA.sHoard (SimA.sFame (SimA.sKind (h.1.s1 _) hb _) hb _) hb _) hb _) (ww := M.1 (t + 7)) (by rw [zst_w (by omega), zst_w (by omega), zst_w (by omega), zst_w (by omega), zst_w (by omega)]) ?_
  obtain ⟨hA, a0, a1, a2, a3, a4, a5, a6⟩ := h
  refine ⟨?_, ?_, ?_, by omega, a4, fun b' hb' => ?_, fun w' hw' => ?_⟩
  · rw [pk_un (by omega), pk_un (by omega), pk_un (by omega), pk_un (by omega), pk_un (by omega), a0]
  · rw [pk_un (by omega), pk_un (by omega), pk_un (by omega), pk_un (by omega), pk_us]
  · rw [pk_un (by omega), pk_un (by omega), pk_un (by omega), pk_un (by omega), pk_un (by omega), a2]
  · by_cases e : b' = nb
    · subst e
      refine ⟨⟨k, hk, ?_⟩, ?_, Or.inl ?_⟩
      · rw [pk_un (by omega), pk_un (by omega), pk_un (by omega), pk_us]
      · rw [pk_un (by omega), pk_us]; decide
      · rw [pk_us]
    · have e1 : upd (upd (upd (upd (upd s 1 (nI (nb + 1))) (15 + 4 * nb) (nI k)) (15 + 4 * nb + 1) 10) (15 + 4 * nb + 2) 0) (15 + 4 * nb + 3) (-1) (15 + 4 * b') = s (15 + 4 * b') := by
        rw [pk_un (by omega), pk_un (by omega), pk_un (by omega), pk_un (by omega), pk_un (by omega)]
      have e2 : upd (upd (upd (upd (upd s 1 (nI (nb + 1))) (15 + 4 * nb) (nI k)) (15 + 4 * nb + 1) 10) (15 + 4 * nb + 2) 0) (15 + 4 * nb + 3) (-1) (15 + 4 * b' + 2) = s (15 + 4 * b' + 2) := by
        rw [pk_un (by omega), pk_un (by omega), pk_un (by omega), pk_un (by omega), pk_un (by omega)]
      have e3 : upd (upd (upd (upd (upd s 1 (nI (nb + 1))) (15 + 4 * nb) (nI k)) (15 + 4 * nb + 1) 10) (15 + 4 * nb + 2) 0) (15 + 4 * nb + 3) (-1) (15 + 4 * b' + 3) = s (15 + 4 * b' + 3) := by
        rw [pk_un (by omega), pk_un (by omega), pk_un (by omega), pk_un (by omega), pk_un (by omega)]
      rw [e1, e2, e3]
      exact a5 b' (by omega)
  · rw [pk_un (by omega), pk_un (by omega), pk_un (by omega), pk_un (by omega), pk_un (by omega)]
    obtain ⟨x1, x2⟩ := a6 w' hw'
    refine ⟨x1, x2.imp id fun ⟨b', y1, y2, y3⟩ => ⟨b', by omega, y2, ?_⟩⟩
    rw [pk_un (by omega), pk_un (by omega), pk_un (by omega), pk_un (by omega), pk_un (by omega)]; exact y3
/-- one more wearer -/
theorem Sim.addW (h : Sim t n nb nw M s) (hw : nw < 6) (v : Int32) : Sim t n nb (nw + 1) (zst (zst (zst (zst M t 3 (nI (nw + 1))) (t + 5) nw v) (t + 6) nw (nI nw)) (t + 7) nw (-1)) (upd (upd (upd s 2 (nI (nw + 1))) (47 + 2 * nw) v) (47 + 2 * nw + 1) (nI nw)) := by
  have hbl := h.nbl
  refine Sim.mk (SimA.w (SimA.sRound (SimA.sPurse (h.1.s2 _) hw _) hw _)) (ww := upd (M.1 (t + 7)) nw (-1)) (by rw [zst_wat, zst_w (by omega), zst_w (by omega), zst_w (by omega)]) ?_
  obtain ⟨hA, a0, a1, a2, a3, a4, a5, a6⟩ := h
  refine ⟨?_, ?_, ?_, a3, by omega, fun b' hb' => ?_, fun w' hw' => ?_⟩
  · rw [pk_un (by omega), pk_un (by omega), pk_un (by omega), a0]
  · rw [pk_un (by omega), pk_un (by omega), pk_un (by omega), a1]
  · rw [pk_un (by omega), pk_un (by omega), pk_us]
  · rw [pk_un (show 15 + 4 * b' ≠ 47 + 2 * nw + 1 by omega), pk_un (show 15 + 4 * b' ≠ 47 + 2 * nw by omega), pk_un (show 15 + 4 * b' ≠ 2 by omega), pk_un (show 15 + 4 * b' + 2 ≠ 47 + 2 * nw + 1 by omega), pk_un (show 15 + 4 * b' + 2 ≠ 47 + 2 * nw by omega), pk_un (show 15 + 4 * b' + 2 ≠ 2 by omega), pk_un (show 15 + 4 * b' + 3 ≠ 47 + 2 * nw + 1 by omega), pk_un (show 15 + 4 * b' + 3 ≠ 47 + 2 * nw by omega), pk_un (show 15 + 4 * b' + 3 ≠ 2 by omega)]
    obtain ⟨x1, x2, x3⟩ := a5 b' hb'
    exact ⟨x1, x2, x3.imp id fun ⟨w', y1, y2, y3⟩ => ⟨w', by omega, y2, by rw [pk_un (by omega)]; exact y3⟩⟩
  · by_cases e : w' = nw
    · subst e
      exact ⟨⟨w', hw, by rw [pk_us]⟩, Or.inl (by rw [pk_us])⟩
    · rw [pk_un (show 47 + 2 * w' + 1 ≠ 47 + 2 * nw + 1 by omega), pk_un (show 47 + 2 * w' + 1 ≠ 47 + 2 * nw by omega), pk_un (show 47 + 2 * w' + 1 ≠ 2 by omega), pk_un e]
      obtain ⟨x1, x2⟩ := a6 w' (by omega)
      refine ⟨x1, x2.imp id fun ⟨b', y1, y2, y3⟩ => ⟨b', y1, y2, ?_⟩⟩
      rw [pk_un (by omega), pk_un (by omega), pk_un (by omega)]; exact y3
end SB
