/-! CHOSEN for the least: (fewest, how many looked at, the best row) -/
abbrev xL : Type := Int × Int × (Nat → Int)
noncomputable def okB (S N : Nat → Nat → Int) (v : Int) (row : Nat → Int) (w t : Nat) : Bool := @decide (okP S N v row w t) (Classical.propDecidable _)
theorem okB_iff {S N : Nat → Nat → Int} {v : Int} {row : Nat → Int} {w t : Nat} : okB S N v row w t = true ↔ okP S N v row w t := by
  unfold okB
  exact @decide_eq_true_iff _ (Classical.propDecidable _)
/-- the last m of nT phrases of a word, b beats ahead; more t: what comes of t, when it has been counted -/
def lsT (nT : Nat) (S : Nat → Int) (b : Int) (more : Nat → xL → xL) : Nat → xL → xL
  | 0, st => st
  | m + 1, st => if st.1 ≤ b + S (nT - (m + 1)) then st else if 20000 < st.2.1 + 1 then (st.1, st.2.1 + 1, st.2.2) else lsT nT S b more m (more (nT - (m + 1)) (st.1, st.2.1 + 1, st.2.2))
/-- the last f words, from w on -/
noncomputable def lsF (nT : Nat) (S N : Nat → Nat → Int) (v : Int) : Nat → Nat → (Nat → Int) → Int → xL → xL
  | 0, _, row, b, st => (b, st.2.1, row)
  | f + 1, w, row, b, st => lsT nT (S w) b (fun t st => if okB S N v row w t = true then lsF nT S N v f (w + 1) (xup row w t) (b + S w t) st else st) nT st
theorem lsT_rg {nT : Nat} {S : Nat → Int} {b B : Int} {more : Nat → xL → xL} (hS : ∀ t, t < nT → 0 ≤ S t) (hb : 0 ≤ b) (hB : 20000 ≤ B) (h2 : ∀ t st, t < nT → 0 ≤ st.2.1 → st.2.1 ≤ 20000 → 0 ≤ (more t st).2.1 ∧ (more t st).2.1 ≤ B) : ∀ m st, m ≤ nT → 0 ≤ st.2.1 → st.2.1 ≤ B → 0 ≤ (lsT nT S b more m st).2.1 ∧ (lsT nT S b more m st).2.1 ≤ B + 1
  | 0, st, _, h0, h => by rw [lsT]; omega
  | m + 1, st, hm, h0, h => by
    rw [lsT]
    split
    · omega
    · split
      · simp only; omega
      · have := h2 (nT - (m + 1)) (st.1, st.2.1 + 1, st.2.2) (by omega) (by simp only; omega) (by simp only; omega)
        exact lsT_rg hS hb hB h2 m _ (by omega) this.1 this.2
theorem lsF_rg {nT nW : Nat} {S N : Nat → Nat → Int} {v : Int} (hS : ∀ w t, w < nW → t < nT → 0 ≤ S w t) : ∀ (f w : Nat) (row : Nat → Int) (b : Int) (st : xL), w + f = nW → 0 ≤ b → 0 ≤ st.2.1 → st.2.1 ≤ 20000 → 0 ≤ (lsF nT S N v f w row b st).2.1 ∧ (lsF nT S N v f w row b st).2.1 ≤ 20000 + f
  | 0, w, row, b, st, hw, hb, h0, h => by rw [lsF]; simp only; omega
  | f + 1, w, row, b, st, hw, hb, h0, h => by
    rw [lsF]
    have := lsT_rg (nT := nT) (S := S w) (b := b) (B := 20000 + f) (more := fun t st => if okB S N v row w t = true then lsF nT S N v f (w + 1) (xup row w t) (b + S w t) st else st) (fun t ht => hS w t (by omega) ht) hb (by omega) (fun t st ht q0 q => by
      split
      · exact lsF_rg hS f _ _ _ _ (by omega) (by have := hS w t (by omega) ht; omega) q0 q
      · omega) nT st (Nat.le_refl _) h0 (by omega)
    omega
/-- the best row is one of phrases, if one was found; its beats stay in bounds -/
def lsOk (nT nW : Nat) (st : xL) : Prop := 0 ≤ st.1 ∧ st.1 ≤ 1000000 ∧ (st.1 = 1000000 ∨ ∀ j, j < nW → ∃ t : Nat, t < nT ∧ st.2.2 j = t)
theorem lsF_ok {nT nW : Nat} {S N : Nat → Nat → Int} {v : Int} (hS : ∀ w t, w < nW → t < nT → 0 ≤ S w t) : ∀ (f w : Nat) (row : Nat → Int) (b : Int) (st : xL), w + f = nW → (∀ j, j < w → ∃ t : Nat, t < nT ∧ row j = t) → 0 ≤ b → b < st.1 → lsOk nT nW st → lsOk nT nW (lsF nT S N v f w row b st)
  | 0, w, row, b, st, hw, hr, hb, hlt, h => by
    rw [lsF]
    obtain ⟨h1, h2, h3⟩ := h
    refine ⟨hb, by simp only; omega, Or.inr fun j hj => hr j (by omega)⟩
  | f + 1, w, row, b, st, hw, hr, hb, hlt, h => by
    rw [lsF]
    have key : ∀ m st, m ≤ nT → lsOk nT nW st → lsOk nT nW (lsT nT (S w) b (fun t st => if okB S N v row w t = true then lsF nT S N v f (w + 1) (xup row w t) (b + S w t) st else st) m st) := by
      intro m
      induction m with
      | zero => intro st _ h; exact h
      | succ m ih =>
        intro st hm h
        rw [lsT]
        split
        · exact h
        · rename_i hlt
          split
          · exact h
          · refine ih _ (by omega) ?_
            split
            · have hs := hS w (nT - (m + 1)) (by omega) (by omega)
              refine lsF_ok hS f (w + 1) _ _ _ (by omega) (fun j hj => ?_) (by omega) (by simp only; omega) h
              by_cases q : j = w
              · exact ⟨nT - (m + 1), by omega, by rw [q, xup_at]⟩
              · rw [xup_ne q]
                exact hr j (by omega)
            · exact h
    exact key nT st (Nat.le_refl _) h
/-- the scratch of the search may differ, nothing else -/
def lsFr (M0 M : xM) : Prop := (∀ a, a ≠ 2 → (a < 18 ∨ 22 < a) → M a = M0 a) ∧ ∀ k, k ≠ 10 → k ≠ 11 → M 2 k = M0 2 k
def lsAt (M0 : xM) (w : Nat) (row : Nat → Int) (st : xL) (M : xM) : Prop := lsFr M0 M ∧ M 2 10 = st.1 ∧ M 2 11 = st.2.1 ∧ (∀ j, j < (M0 3 2).toNat → M 22 j = st.2.2 j) ∧ (∀ j, j < w → M 21 j = row j ∧ M 19 j = pS M0 j (row j).toNat ∧ M 20 j = pN M0 j (row j).toNat) ∧ M 18 2 = w
/-- what stands at the outset, and never changes -/
def lsPre (M0 : xM) : Prop := wOk M0 ∧ tbOk M0 ∧ 1 ≤ M0 2 6 ∧ M0 2 6 ≤ 9
def rowOk (M0 : xM) (w : Nat) (row : Nat → Int) : Prop := ∀ j, j < w → ∃ t : Nat, (t : Int) < M0 10 2 ∧ row j = t
theorem lsAt_ah {M0 M : xM} {w : Nat} {row : Nat → Int} {st : xL} (hp : lsPre M0) (hw : (w : Int) ≤ M0 3 2) (hr : rowOk M0 w row) (h : lsAt M0 w row st M) : aheadOk M := by
  obtain ⟨h1, h2, h3, h4, h5, h6⟩ := h
  have hw1 := hp.1.2.1
  refine ⟨by omega, by omega, fun i hi => ?_⟩
  obtain ⟨t, t1, t2⟩ := hr i (by omega)
  obtain ⟨-, q2, q3⟩ := h5 i (by omega)
  rw [q2, q3, t2, Int.toNat_natCast]
  exact (pB hp.1 hp.2.1 (by omega) t1).2
theorem lsAt_fr {M0 M : xM} {w : Nat} {row : Nat → Int} {st : xL} (hr : rowOk M0 w row) (h : lsAt M0 w row st M) (t : Nat) : allApart M (pS M0 w t) (pN M0 w t) (M 2 6) ↔ okP (pS M0) (pN M0) (M0 2 6) row w t := by
  obtain ⟨h1, h2, h3, h4, h5, h6⟩ := h
  unfold allApart okP
  rw [h1.2 6 (by decide) (by decide), h6]
  constructor
  · intro q u hu _
    have := q u (by omega)
    rw [(h5 u hu).2.1, (h5 u hu).2.2] at this
    exact this
  · intro q i hi
    obtain ⟨t', t1, t2⟩ := hr i (by omega)
    have := q i (by omega) (by omega)
    rw [(h5 i (by omega)).2.1, (h5 i (by omega)).2.2]
    exact this
theorem lsAt_look {M0 M : xM} {w : Nat} {row : Nat → Int} {st : xL} (h : lsAt M0 w row st M) : lsAt M0 w row (st.1, st.2.1 + 1, st.2.2) (xup M 2 (xup (M 2) 11 (M 2 11 + 1))) := by
  obtain ⟨h1, h2, h3, h4, h5, h6⟩ := h
  refine ⟨⟨fun a ha1 ha2 => ?_, fun k k1 k2 => ?_⟩, ?_, ?_, fun j hj => ?_, fun j hj => ?_, ?_⟩
  · rw [xup_ne ha1]; exact h1.1 a ha1 ha2
  · rw [xup_at, xup_ne k2]; exact h1.2 k k1 k2
  · rw [xup_at, xup_ne (by decide)]; exact h2
  · rw [xup_at, xup_at, h3]
  · rw [xup_ne (by decide)]; exact h4 j hj
  · rw [xup_ne (by decide), xup_ne (by decide), xup_ne (by decide)]; exact h5 j hj
  · rw [xup_ne (by decide)]; exact h6
theorem lsAt_push {M0 M : xM} {w t : Nat} {row : Nat → Int} {st : xL} (h : lsAt M0 w row st M) : lsAt M0 (w + 1) (xup row w t) st (rAdd_H (xup M 21 (xup (M 21) w t)) (pS M0 w t) (pN M0 w t)) := by
  obtain ⟨h1, h2, h3, h4, h5, h6⟩ := h
  unfold rAdd_H
  have e : (xup M 21 (xup (M 21) w t) 18 2).toNat = w := by rw [xup_ne (by decide), h6]; rfl
  rw [e]
  refine ⟨⟨fun a ha1 ha2 => ?_, fun k k1 k2 => ?_⟩, ?_, ?_, fun j hj => ?_, fun j hj => ?_, ?_⟩
  · rw [xup_ne (by omega), xup_ne (by omega), xup_ne (by omega), xup_ne (by omega)]; exact h1.1 a ha1 ha2
  · simp only [xup_at, xup_ne, xup_up, ne_eq, Nat.reduceEqDiff, not_false_eq_true, Int.toNat_natCast]; exact h1.2 k k1 k2
  · simp only [xup_at, xup_ne, xup_up, ne_eq, Nat.reduceEqDiff, not_false_eq_true, Int.toNat_natCast]; exact h2
  · simp only [xup_at, xup_ne, xup_up, ne_eq, Nat.reduceEqDiff, not_false_eq_true, Int.toNat_natCast]; exact h3
  · simp only [xup_at, xup_ne, xup_up, ne_eq, Nat.reduceEqDiff, not_false_eq_true, Int.toNat_natCast]; exact h4 j hj
  · simp only [xup_at, xup_ne, xup_up, ne_eq, Nat.reduceEqDiff, not_false_eq_true, Int.toNat_natCast]
    by_cases q : j = w
    · subst q
      rw [xup_at, xup_at, xup_at, xup_at, Int.toNat_natCast]
      exact ⟨rfl, rfl, rfl⟩
    · rw [xup_ne q, xup_ne q, xup_ne q, xup_ne q]
      exact h5 j (by omega)
  · simp only [xup_at, xup_ne, xup_up, ne_eq, Nat.reduceEqDiff, not_false_eq_true, Int.toNat_natCast]
    rw [h6]
    rfl
theorem lsAt_pop {M0 M : xM} {w t : Nat} {row : Nat → Int} {st : xL} (h : lsAt M0 (w + 1) (xup row w t) st M) : lsAt M0 w row st (xup M 18 (xup (M 18) 2 w)) := by
  obtain ⟨h1, h2, h3, h4, h5, h6⟩ := h
  refine ⟨⟨fun a ha1 ha2 => ?_, fun k k1 k2 => ?_⟩, ?_, ?_, fun j hj => ?_, fun j hj => ?_, ?_⟩
  · rw [xup_ne (by omega)]; exact h1.1 a ha1 ha2
  · simp only [xup_at, xup_ne, xup_up, ne_eq, Nat.reduceEqDiff, not_false_eq_true, Int.toNat_natCast]; exact h1.2 k k1 k2
  · simp only [xup_at, xup_ne, xup_up, ne_eq, Nat.reduceEqDiff, not_false_eq_true, Int.toNat_natCast]; exact h2
  · simp only [xup_at, xup_ne, xup_up, ne_eq, Nat.reduceEqDiff, not_false_eq_true, Int.toNat_natCast]; exact h3
  · simp only [xup_at, xup_ne, xup_up, ne_eq, Nat.reduceEqDiff, not_false_eq_true, Int.toNat_natCast]; exact h4 j hj
  · simp only [xup_at, xup_ne, xup_up, ne_eq, Nat.reduceEqDiff, not_false_eq_true, Int.toNat_natCast]
    have := h5 j (by omega)
    rw [xup_ne (show j ≠ w by omega)] at this
    exact this
  · simp only [xup_at, xup_ne, xup_up, ne_eq, Nat.reduceEqDiff, not_false_eq_true, Int.toNat_natCast]
theorem lsAt_w {M0 M : xM} {w : Nat} {row : Nat → Int} {st : xL} (h : lsAt M0 w row st M) (hw : wOk M0) : wOk M := by
  unfold wOk
  rw [h.1.1 3 (by decide) (by decide), h.1.1 4 (by decide) (by decide), h.1.1 5 (by decide) (by decide)]
  exact hw
theorem lsAt_t {M0 M : xM} {w : Nat} {row : Nat → Int} {st : xL} (h : lsAt M0 w row st M) (ht : tbOk M0) : tbOk M := tbOk_of (fun a _ ha => h.1.1 a (by omega) (by omega)) ht
theorem lsAt_pS {M0 M : xM} {w : Nat} {row : Nat → Int} {st : xL} (h : lsAt M0 w row st M) (u t : Nat) : pS M u t = pS M0 u t := by unfold pS; rw [h.1.1 4 (by decide) (by decide), h.1.1 11 (by decide) (by decide)]
theorem lsAt_pN {M0 M : xM} {w : Nat} {row : Nat → Int} {st : xL} (h : lsAt M0 w row st M) (u t : Nat) : pN M u t = pN M0 u t := by unfold pN; rw [h.1.1 5 (by decide) (by decide), h.1.1 11 (by decide) (by decide), h.1.1 12 (by decide) (by decide)]
set_option maxRecDepth 100000 in
set_option maxHeartbeats 4000000 in
theorem c_lookFrom {M0 : xM} (hp : lsPre M0) : ∀ (f : Nat) {w : Nat} {row : Nat → Int} {b : Int} {st : xL} {M : xM} {Q : Option xV → xM → Prop}, (w : Int) + f = M0 3 2 → 0 ≤ b → b ≤ 18 * w → 0 ≤ st.2.1 → st.2.1 ≤ 20000 → b < st.1 → lsOk (M0 10 2).toNat (M0 3 2).toNat st → rowOk M0 w row → lsAt M0 w row st M → (∀ M', lsAt M0 w row (lsF (M0 10 2).toNat (pS M0) (pN M0) (M0 2 6) f w row b st) M' → Q none M') → xm (6 + f) m_Tongue_lookFrom [xR (some 2), xI w, xI b] M Q := by
  have hp' := hp
  obtain ⟨hw, ht, hb1, hb2⟩ := hp'
  obtain ⟨w1, w2, w3⟩ := id hw
  obtain ⟨t1, t2, t3⟩ := id ht
  intro f
  induction f with
  | zero =>
    intro w row b st M Q hf hb0 hb3 hl0 hl1 hlt hso hr hA hq
    have f3 : M 3 2 = M0 3 2 := by rw [hA.1.1 3 (by decide) (by decide)]
    (refine xm_of (own := "DrumTongue$Tongue") rfl (by decide +kernel) tk_Tongue [some (xR (some 2)), some (xI (w : Int)), some (xI b), none, none, none] (Nat.le_of_ble_eq_true rfl) rfl ?_; intro D nx X C P hW)
    refine xg hW k_Tongue_lookFrom [40] 40 ?_
    ((repeat' (first | (with_reducible refine And.intro ?_ ?_) | (intro h0; exact absurd h0 (by decide)) | (intro _) | ((conv => whnf); (first | (with_reducible refine And.intro ?_ ?_) | (intro h0; exact absurd h0 (by decide)) | (intro _) | (refine hW.1 _ _ _ _ _ _ (c_used_W ?_) (by first | decide | omega) (by decide) (Nat.le_of_ble_eq_true rfl)))))); (all_goals (try omega)); (all_goals (try exact Nat.le_of_ble_eq_true rfl)); (all_goals (try ((conv => whnf); (first | (refine hW.2.1 _ _ ?_) | (change X _ _ _ _ _ _) | (change C _ _ _ _ _ _ _))))); (all_goals (try simp only [xup_at, xup_ne, xup_up, ne_eq, Nat.reduceEqDiff, not_false_eq_true, Int.toNat_natCast] at *)); (all_goals (try omega)))
    refine hq _ ?_
    rw [lsF]
    obtain ⟨h1, h2, h3, h4, h5, h6⟩ := hA
    refine ⟨⟨fun a ha1 ha2 => ?_, fun k k1 k2 => ?_⟩, ?_, ?_, fun j hj => ?_, fun j hj => ?_, ?_⟩
    · rw [xup_ne (by omega), xup_ne ha1]; exact h1.1 a ha1 ha2
    · rw [xup_ne (by decide), xup_at, xup_ne k1]; exact h1.2 k k1 k2
    · rw [xup_ne (by decide), xup_at, xup_at]
    · rw [xup_ne (by decide), xup_at, xup_ne (by decide)]; exact h3
    · rw [xup_at]
      unfold va_cpy
      rw [if_pos ⟨Nat.zero_le _, by show j < 0 + 10; omega⟩]
      show M 21 (0 + (j - 0)) = row j
      rw [Nat.zero_add, Nat.sub_zero]
      exact (h5 j (by omega)).1
    · rw [xup_ne (by decide), xup_ne (by decide), xup_ne (by decide), xup_ne (by decide), xup_ne (by decide), xup_ne (by decide)]
      exact h5 j hj
    · rw [xup_ne (by decide), xup_ne (by decide)]; exact h6
  | succ f ih =>
    intro w row b st M Q hf hb0 hb3 hl0 hl1 hlt hso hr hA hq
    rw [lsF] at hq
    generalize hnT : (M0 10 2).toNat = nT at *
    generalize hmore : (fun (t : Nat) (st : xL) => if okB (pS M0) (pN M0) (M0 2 6) row w t = true then lsF nT (pS M0) (pN M0) (M0 2 6) f (w + 1) (xup row w t) (b + pS M0 w t) st else st) = more at hq
    (refine xm_of (own := "DrumTongue$Tongue") rfl (by decide +kernel) tk_Tongue [some (xR (some 2)), some (xI (w : Int)), some (xI b), none, none, none] (Nat.le_of_ble_eq_true rfl) rfl ?_; intro D nx X C P hW)
    have loop : ∀ (m : Nat) (st : xL) (M : xM) (v4 v5 : Option xV), m ≤ nT → 0 ≤ st.2.1 → st.2.1 ≤ 20000 + f → lsOk nT (M0 3 2).toNat st → lsAt M0 w row st M → (∀ M', lsAt M0 w row (lsT nT (pS M0 w) b more m st) M' → Q none M') → X 40 [some (xR (some 2)), some (xI (w : Int)), some (xI b), some (xI ((nT : Int) - m)), v4, v5] [] (M, D, nx) 0 0 := by
      intro m
      induction m with
      | zero =>
        intro st M v4 v5 hm q0 q1 hso hA hq
        have f10 : M 10 2 = M0 10 2 := by rw [hA.1.1 10 (by decide) (by decide)]
        refine xg hW k_Tongue_lookFrom [40] 40 ?_
        ((repeat' (first | (with_reducible refine And.intro ?_ ?_) | (intro h0; exact absurd h0 (by decide)) | (intro _) | ((conv => whnf); (first | (with_reducible refine And.intro ?_ ?_) | (intro h0; exact absurd h0 (by decide)) | (intro _) | (refine hW.1 _ _ _ _ _ _ (c_Tails_used ?_) (by first | decide | omega) (by decide) (Nat.le_of_ble_eq_true rfl)))))); (all_goals (try omega)); (all_goals (try exact Nat.le_of_ble_eq_true rfl)); (all_goals (try ((conv => whnf); (first | (refine hW.2.1 _ _ ?_) | (change X _ _ _ _ _ _) | (change C _ _ _ _ _ _ _))))); (all_goals (try simp only [xup_at, xup_ne, xup_up, ne_eq, Nat.reduceEqDiff, not_false_eq_true, Int.toNat_natCast] at *)); (all_goals (try omega)))
        exact hq M hA
      | succ m ihm =>
        intro st M v4 v5 hm q0 q1 hso hA hq
        have f10 : M 10 2 = M0 10 2 := by rw [hA.1.1 10 (by decide) (by decide)]
        have hw' : wOk M := by unfold wOk; rw [hA.1.1 3 (by decide) (by decide), hA.1.1 4 (by decide) (by decide), hA.1.1 5 (by decide) (by decide)]; exact hw
        have ht' : tbOk M := tbOk_of (fun a _ ha => hA.1.1 a (by omega) (by omega)) ht
        have f3 : M 3 2 = M0 3 2 := by rw [hA.1.1 3 (by decide) (by decide)]
        have e1 : M 2 10 = st.1 := hA.2.1
        have e2 : M 2 11 = st.2.1 := hA.2.2.1
        rw [lsT] at hq
        have hB := pB hw ht (w := w) (t := nT - (m + 1)) (by omega) (by omega)
        obtain ⟨s0, s1, s2, -, -⟩ := id hB
        have eS : pS M w (nT - (m + 1)) = pS M0 w (nT - (m + 1)) := by unfold pS; rw [hA.1.1 4 (by decide) (by decide), hA.1.1 11 (by decide) (by decide)]
        rw [show ((nT : Int) - ((m + 1 : Nat) : Int)) = ((nT - (m + 1) : Nat) : Int) by omega]
        obtain ⟨so1, so2, so3⟩ := id hso
        refine xg hW k_Tongue_lookFrom [40] 40 ?_
        ((repeat' (first | (with_reducible refine And.intro ?_ ?_) | (intro h0; exact absurd h0 (by decide)) | (intro _) | ((conv => whnf); (first | (with_reducible refine And.intro ?_ ?_) | (intro h0; exact absurd h0 (by decide)) | (intro _) | (refine hW.1 _ _ _ _ _ _ (c_Tails_used ?_) (by first | decide | omega) (by decide) (Nat.le_of_ble_eq_true rfl)) | (refine hW.1 _ _ _ _ _ _ (c_sizeWith hw' ht' ?_) (by first | decide | omega) (by decide) (Nat.le_of_ble_eq_true rfl)))))); (all_goals (try omega)); (all_goals (try exact Nat.le_of_ble_eq_true rfl)); (all_goals (try ((conv => whnf); (first | (refine hW.2.1 _ _ ?_) | (change X _ _ _ _ _ _) | (change C _ _ _ _ _ _ _))))); (all_goals (try simp only [xup_at, xup_ne, xup_up, ne_eq, Nat.reduceEqDiff, not_false_eq_true, Int.toNat_natCast] at *)); (all_goals (try omega)))
        · have hA1 := lsAt_look hA
          have hlk : ¬ 20000 < st.2.1 + 1 := by omega
          have hfw : ¬ st.1 ≤ b + pS M0 w (nT - (m + 1)) := by omega
          rw [if_neg hfw, if_neg hlk] at hq
          generalize xup M 2 (xup (M 2) 11 (M 2 11 + 1)) = M1 at hA1 ⊢
          have hw1 := lsAt_w hA1 hw
          have ht1 := lsAt_t hA1 ht
          have g3 : M1 3 2 = M0 3 2 := by rw [hA1.1.1 3 (by decide) (by decide)]
          have g10 : M1 10 2 = M0 10 2 := by rw [hA1.1.1 10 (by decide) (by decide)]
          have g26 : M1 2 6 = M0 2 6 := hA1.1.2 6 (by decide) (by decide)
          have g18 : M1 18 2 = w := hA1.2.2.2.2.2
          have hah := lsAt_ah hp (by omega) hr hA1
          have hfr := lsAt_fr hr hA1 (nT - (m + 1))
          refine hW.1 _ _ _ _ _ _ (c_numberWith hw1 ht1 ⟨⟨by omega, by omega⟩, ?_⟩) (by omega) (by decide) (Nat.le_of_ble_eq_true rfl)
          rw [lsAt_pN hA1, eS]
          ((repeat' (first | (with_reducible refine And.intro ?_ ?_) | (intro h0; exact absurd h0 (by decide)) | (intro _) | ((conv => whnf); (first | (with_reducible refine And.intro ?_ ?_) | (intro h0; exact absurd h0 (by decide)) | (intro _) | (refine hW.1 _ _ _ _ _ _ (c_allApartY hah hB.2 ?_) (by first | decide | omega) (by decide) (Nat.le_of_ble_eq_true rfl)))))); (all_goals (try omega)); (all_goals (try exact Nat.le_of_ble_eq_true rfl)); (all_goals (try ((conv => whnf); (first | (refine hW.2.1 _ _ ?_) | (change X _ _ _ _ _ _) | (change C _ _ _ _ _ _ _))))); (all_goals (try simp only [xup_at, xup_ne, xup_up, ne_eq, Nat.reduceEqDiff, not_false_eq_true, Int.toNat_natCast] at *)); (all_goals (try omega)))
          · rename_i hap _
            have hok : okB (pS M0) (pN M0) (M0 2 6) row w (nT - (m + 1)) = true := okB_iff.mpr (hfr.mp hap)
            have hm : more (nT - (m + 1)) (st.1, st.2.1 + 1, st.2.2) = lsF nT (pS M0) (pN M0) (M0 2 6) f (w + 1) (xup row w ((nT - (m + 1) : Nat) : Int)) (b + pS M0 w (nT - (m + 1))) (st.1, st.2.1 + 1, st.2.2) := by
              rw [← hmore]
              simp only [hok, if_true]
            have hrow : rowOk M0 (w + 1) (xup row w ((nT - (m + 1) : Nat) : Int)) := fun j hj => by
              by_cases q : j = w
              · subst q
                exact ⟨nT - (m + 1), by omega, xup_at _ _ _⟩
              · rw [xup_ne q]
                exact hr j (by omega)
            have hso1 : lsOk nT (M0 3 2).toNat (st.1, st.2.1 + 1, st.2.2) := hso
            have hsz : ∀ w t : Nat, w < (M0 3 2).toNat → t < nT → 0 ≤ pS M0 w t := fun w t h1 h2 => by have := (pB hw ht (w := w) (t := t) (by omega) (by omega)).1; omega
            have r1 := lsF_rg (N := pN M0) (v := M0 2 6) hsz f (w + 1) (xup row w ((nT - (m + 1) : Nat) : Int)) (b + pS M0 w (nT - (m + 1))) (st.1, st.2.1 + 1, st.2.2) (by omega) (by omega) (by simp only; omega) (by simp only; omega)
            have r2 := lsF_ok (N := pN M0) (v := M0 2 6) hsz f (w + 1) (xup row w ((nT - (m + 1) : Nat) : Int)) (b + pS M0 w (nT - (m + 1))) (st.1, st.2.1 + 1, st.2.2) (by omega) (fun j hj => by obtain ⟨t, a1, a2⟩ := hrow j hj; exact ⟨t, by omega, a2⟩) (by omega) (by simp only; omega) hso1
            rw [← hm] at r1 r2
            have l18 : (xup M1 21 (xup (M1 21) w ((nT - (m + 1) : Nat) : Int))) 18 2 = w := by rw [xup_ne (by decide)]; exact g18
            refine hW.1 _ _ _ _ _ _ (c_add_H ⟨⟨by omega, by omega⟩, fun q => by omega, fun _ => ?_⟩) (by omega) (by decide) (Nat.le_of_ble_eq_true rfl)
            ((repeat' (first | (with_reducible refine And.intro ?_ ?_) | (intro h0; exact absurd h0 (by decide)) | (intro _) | ((conv => whnf); (first | (with_reducible refine And.intro ?_ ?_) | (intro h0; exact absurd h0 (by decide)) | (intro _))))); (all_goals (try omega)); (all_goals (try exact Nat.le_of_ble_eq_true rfl)); (all_goals (try ((conv => whnf); (first | (refine hW.2.1 _ _ ?_) | (change X _ _ _ _ _ _) | (change C _ _ _ _ _ _ _))))); (all_goals (try simp only [xup_at, xup_ne, xup_up, ne_eq, Nat.reduceEqDiff, not_false_eq_true, Int.toNat_natCast] at *)); (all_goals (try omega)))
            refine hW.1 _ _ _ _ _ _ (ih (w := w + 1) (by omega) (by omega) (by omega) (by simp only; omega) (by simp only; omega) (by simp only; omega) hso1 hrow (lsAt_push hA1) (fun M4 hA4 => ?_)) (by omega) (by decide) (Nat.le_of_ble_eq_true rfl)
            rw [← hm] at hA4
            have l4 : M4 18 2 = ((w + 1 : Nat) : Int) := hA4.2.2.2.2.2
            ((repeat' (first | (with_reducible refine And.intro ?_ ?_) | (intro h0; exact absurd h0 (by decide)) | (intro _) | ((conv => whnf); (first | (with_reducible refine And.intro ?_ ?_) | (intro h0; exact absurd h0 (by decide)) | (intro _))))); (all_goals (try omega)); (all_goals (try exact Nat.le_of_ble_eq_true rfl)); (all_goals (try ((conv => whnf); (first | (refine hW.2.1 _ _ ?_) | (change X _ _ _ _ _ _) | (change C _ _ _ _ _ _ _))))); (all_goals (try simp only [xup_at, xup_ne, xup_up, ne_eq, Nat.reduceEqDiff, not_false_eq_true, Int.toNat_natCast] at *)); (all_goals (try omega)))
            refine hW.1 _ _ _ _ _ _ (c_drop_H ⟨⟨⟨by omega, by omega⟩, by omega, by omega⟩, fun _ _ => ?_, fun q => by omega⟩) (by omega) (by decide) (Nat.le_of_ble_eq_true rfl)
            ((repeat' (first | (with_reducible refine And.intro ?_ ?_) | (intro h0; exact absurd h0 (by decide)) | (intro _) | ((conv => whnf); (first | (with_reducible refine And.intro ?_ ?_) | (intro h0; exact absurd h0 (by decide)) | (intro _))))); (all_goals (try omega)); (all_goals (try exact Nat.le_of_ble_eq_true rfl)); (all_goals (try ((conv => whnf); (first | (refine hW.2.1 _ _ ?_) | (change X _ _ _ _ _ _) | (change C _ _ _ _ _ _ _))))); (all_goals (try simp only [xup_at, xup_ne, xup_up, ne_eq, Nat.reduceEqDiff, not_false_eq_true, Int.toNat_natCast] at *)); (all_goals (try omega)))
            have := ihm (more (nT - (m + 1)) (st.1, st.2.1 + 1, st.2.2)) _ (some (xI (pS M0 w (nT - (m + 1))))) (some (xI (pN M0 w (nT - (m + 1))))) (by omega) r1.1 r1.2 r2 (lsAt_pop hA4) hq
            rw [show ((nT : Int) - (m : Int)) = ((nT - (m + 1) : Nat) : Int) + 1 by omega] at this
            exact this
          · rename_i hap _
            have hok : ¬ okB (pS M0) (pN M0) (M0 2 6) row w (nT - (m + 1)) = true := fun q => hap (hfr.mpr (okB_iff.mp q))
            have hm : more (nT - (m + 1)) (st.1, st.2.1 + 1, st.2.2) = (st.1, st.2.1 + 1, st.2.2) := by
              rw [← hmore]
              simp only [hok]
              rfl
            rw [hm] at hq
            have := ihm (st.1, st.2.1 + 1, st.2.2) M1 (some (xI (pS M0 w (nT - (m + 1))))) (some (xI (pN M0 w (nT - (m + 1))))) (by omega) (by simp only; omega) (by simp only; omega) hso hA1 hq
            rw [show ((nT : Int) - (m : Int)) = ((nT - (m + 1) : Nat) : Int) + 1 by omega] at this
            exact this
        · refine hq _ ?_
          rw [if_neg (by omega), if_pos (by omega)]
          exact lsAt_look hA
        · refine hq _ ?_
          rw [if_pos (by omega)]
          exact hA
    have f3 : M 3 2 = M0 3 2 := by rw [hA.1.1 3 (by decide) (by decide)]
    refine xg hW k_Tongue_lookFrom [40] 40 ?_
    ((repeat' (first | (with_reducible refine And.intro ?_ ?_) | (intro h0; exact absurd h0 (by decide)) | (intro _) | ((conv => whnf); (first | (with_reducible refine And.intro ?_ ?_) | (intro h0; exact absurd h0 (by decide)) | (intro _) | (refine hW.1 _ _ _ _ _ _ (c_used_W ?_) (by first | decide | omega) (by decide) (Nat.le_of_ble_eq_true rfl)))))); (all_goals (try omega)); (all_goals (try exact Nat.le_of_ble_eq_true rfl)); (all_goals (try ((conv => whnf); (first | (refine hW.2.1 _ _ ?_) | (change X _ _ _ _ _ _) | (change C _ _ _ _ _ _ _))))); (all_goals (try simp only [xup_at, xup_ne, xup_up, ne_eq, Nat.reduceEqDiff, not_false_eq_true, Int.toNat_natCast] at *)); (all_goals (try omega)))
    have := loop nT st M none none (Nat.le_refl _) hl0 (by omega) hso hA hq
    rw [Int.sub_self] at this
    exact this
/-- the two differ in nothing but the best row of a search that has found none -/
def lsEq (a b : xL) : Prop := a.1 = b.1 ∧ a.2.1 = b.2.1 ∧ (a.1 = 1000000 ∨ a.2.2 = b.2.2)
theorem lsT_eq {nT : Nat} {S : Nat → Int} {b : Int} {more : Nat → xL → xL} (h : ∀ t x y, b + S t < x.1 → lsEq x y → lsEq (more t x) (more t y)) : ∀ m x y, lsEq x y → lsEq (lsT nT S b more m x) (lsT nT S b more m y)
  | 0, _, _, e => e
  | m + 1, x, y, e => by
    rw [lsT, lsT, ← e.1, ← e.2.1]
    split
    · exact e
    · rename_i q1
      split
      · exact ⟨rfl, rfl, e.2.2⟩
      · exact lsT_eq h m _ _ (h _ _ _ (by simp only; omega) ⟨rfl, rfl, e.2.2⟩)
theorem lsF_eq {nT : Nat} {S N : Nat → Nat → Int} {v : Int} : ∀ (f w : Nat) (row : Nat → Int) (b : Int) (x y : xL), lsEq x y → lsEq (lsF nT S N v f w row b x) (lsF nT S N v f w row b y)
  | 0, w, row, b, x, y, e => by
    rw [lsF, lsF]
    exact ⟨rfl, e.2.1, Or.inr rfl⟩
  | f + 1, w, row, b, x, y, e => by
    rw [lsF, lsF]
    refine lsT_eq (fun t x y _ e => ?_) nT x y e
    split
    · exact lsF_eq f _ _ _ _ _ e
    · exact e
/-- what the search for the least finds -/
noncomputable def lsR (nT nW : Nat) (S N : Nat → Nat → Int) (v : Int) : xL := lsF nT S N v nW 0 (fun _ => 0) 0 (1000000, 0, fun _ => 0)
noncomputable abbrev lsM (M : xM) : xL := lsR (M 10 2).toNat (M 3 2).toNat (pS M) (pN M) (M 2 6)
set_option maxRecDepth 100000 in
set_option maxHeartbeats 4000000 in
theorem c_least {M : xM} {Q : Option xV → xM → Prop} (hp : lsPre M) (hg : gvOk M) (ha : 0 ≤ M 18 2 ∧ M 18 2 ≤ 10) (h1 : ∀ M' : xM, lsFr M M' → M' 18 2 = 0 → 20000 < (lsM M).2.1 → Q (some (xI (-5))) M') (h2 : ∀ M' : xM, lsFr M M' → M' 18 2 = 0 → (lsM M).2.1 ≤ 20000 → (lsM M).1 = 1000000 → Q (some (xI (-1))) M') (h3 : ∀ M' : xM, (∀ a, a ≠ 2 → (a < 15 ∨ 22 < a) → M' a = M a) → (∀ k, k ≠ 10 → k ≠ 11 → M' 2 k = M 2 k) → M' 18 2 = 0 → (lsM M).2.1 ≤ 20000 → (lsM M).1 ≠ 1000000 → (∀ j, j < (M 3 2).toNat → M' 15 j = (lsM M).2.2 j) → (∀ j, (M 3 2).toNat ≤ j → M' 15 j = M 15 j) → gvOk M' → Q (some (xI (lsM M).1)) M') : xm 20 m_Tongue_chooseForTheLeast [xR (some 2)] M Q := by
  have hp' := hp
  obtain ⟨hw, ht, hb1, hb2⟩ := hp'
  obtain ⟨w1, w2, w3⟩ := id hw
  obtain ⟨t1, t2, t3⟩ := id ht
  have hsz : ∀ w t : Nat, w < (M 3 2).toNat → t < (M 10 2).toNat → 0 ≤ pS M w t := fun w t h1 h2 => by have := (pB hw ht (w := w) (t := t) (by omega) (by omega)).1; omega
  have r1 := lsF_rg (N := pN M) (v := M 2 6) hsz (M 3 2).toNat 0 (fun _ => 0) 0 (1000000, 0, fun _ => 0) (by omega) (by omega) (by simp only; omega) (by simp only; omega)
  have r2 := lsF_ok (N := pN M) (v := M 2 6) hsz (M 3 2).toNat 0 (fun _ => 0) 0 (1000000, 0, fun _ => 0) (by omega) (fun j hj => by omega) (by omega) (by simp only; omega) ⟨by simp only; omega, by simp only; omega, Or.inl rfl⟩
  (refine xm_of (own := "DrumTongue$Tongue") rfl (by decide +kernel) tk_Tongue [some (xR (some 2)), none] (Nat.le_of_ble_eq_true rfl) rfl ?_; intro D nx X C P hW)
  have loop : ∀ (m k : Nat) (M' : xM), (k : Int) + m = M 3 2 → (∀ a, a ≠ 2 → (a < 15 ∨ 22 < a) → M' a = M a) → (∀ k, k ≠ 10 → k ≠ 11 → M' 2 k = M 2 k) → M' 18 2 = 0 → M' 2 10 = (lsM M).1 → (lsM M).2.1 ≤ 20000 → (lsM M).1 ≠ 1000000 → (∀ j, j < (M 3 2).toNat → M' 22 j = (lsM M).2.2 j) → (∀ j, j < k → M' 15 j = (lsM M).2.2 j) → (∀ j, k ≤ j → M' 15 j = M 15 j) → gvOk M' → X 51 [some (xR (some 2)), some (xI (k : Int))] [] (M', D, nx) 0 0 := by
    intro m
    induction m with
    | zero =>
      intro k M' hk q1 q2 q3 q4 q5 q6 q7 q8 q9 q10
      have f3 : M' 3 2 = M 3 2 := by rw [q1 3 (by decide) (by decide)]
      refine xg hW k_Tongue_chooseForTheLeast [51] 40 ?_
      ((repeat' (first | (with_reducible refine And.intro ?_ ?_) | (intro h0; exact absurd h0 (by decide)) | (intro _) | ((conv => whnf); (first | (with_reducible refine And.intro ?_ ?_) | (intro h0; exact absurd h0 (by decide)) | (intro _) | (refine hW.1 _ _ _ _ _ _ (c_used_W ?_) (by first | decide | omega) (by decide) (Nat.le_of_ble_eq_true rfl)))))); (all_goals (try omega)); (all_goals (try exact Nat.le_of_ble_eq_true rfl)); (all_goals (try ((conv => whnf); (first | (refine hW.2.1 _ _ ?_) | (change X _ _ _ _ _ _) | (change C _ _ _ _ _ _ _))))); (all_goals (try simp only [xup_at, xup_ne, xup_up, ne_eq, Nat.reduceEqDiff, not_false_eq_true, Int.toNat_natCast] at *)); (all_goals (try omega)))
      rw [q4]
      exact h3 M' q1 q2 q3 q5 q6 (fun j hj => q8 j (by omega)) (fun j hj => q9 j (by omega)) q10
    | succ m ih =>
      intro k M' hk q1 q2 q3 q4 q5 q6 q7 q8 q9 q10
      have f3 : M' 3 2 = M 3 2 := by rw [q1 3 (by decide) (by decide)]
      have f10 : M' 10 2 = M 10 2 := by rw [q1 10 (by decide) (by decide)]
      have hw' : wOk M' := by
        unfold wOk
        rw [q1 3 (by decide) (by decide), q1 4 (by decide) (by decide), q1 5 (by decide) (by decide)]
        exact hw
      have ht' : tbOk M' := tbOk_of (fun a _ ha => q1 a (by omega) (by omega)) ht
      obtain ⟨t, e1, e2⟩ : ∃ t : Nat, t < (M 10 2).toNat ∧ M' 22 k = t := by
        rw [q7 k (by omega)]
        rcases r2.2.2 with z | z
        · exact absurd z q6
        · exact z k (by omega)
      refine xg hW k_Tongue_chooseForTheLeast [51] 40 ?_
      ((repeat' (first | (with_reducible refine And.intro ?_ ?_) | (intro h0; exact absurd h0 (by decide)) | (intro _) | ((conv => whnf); (first | (with_reducible refine And.intro ?_ ?_) | (intro h0; exact absurd h0 (by decide)) | (intro _) | (refine hW.1 _ _ _ _ _ _ (c_used_W ?_) (by first | decide | omega) (by decide) (Nat.le_of_ble_eq_true rfl)))))); (all_goals (try omega)); (all_goals (try exact Nat.le_of_ble_eq_true rfl)); (all_goals (try ((conv => whnf); (first | (refine hW.2.1 _ _ ?_) | (change X _ _ _ _ _ _) | (change C _ _ _ _ _ _ _))))); (all_goals (try simp only [xup_at, xup_ne, xup_up, ne_eq, Nat.reduceEqDiff, not_false_eq_true, Int.toNat_natCast] at *)); (all_goals (try omega)))
      rw [e2]
      refine hW.1 _ _ _ _ _ _ (c_give hw' ht' ⟨⟨by omega, by omega⟩, ?_⟩) (by decide) (by decide) (Nat.le_of_ble_eq_true rfl)
      have g15 : gvn M' k t 15 = xup (M' 15) k t := by unfold gvn; rw [xup_ne (by decide), xup_ne (by decide), xup_at]
      ((repeat' (first | (with_reducible refine And.intro ?_ ?_) | (intro h0; exact absurd h0 (by decide)) | (intro _) | ((conv => whnf); (first | (with_reducible refine And.intro ?_ ?_) | (intro h0; exact absurd h0 (by decide)) | (intro _))))); (all_goals (try omega)); (all_goals (try exact Nat.le_of_ble_eq_true rfl)); (all_goals (try ((conv => whnf); (first | (refine hW.2.1 _ _ ?_) | (change X _ _ _ _ _ _) | (change C _ _ _ _ _ _ _))))); (all_goals (try simp only [xup_at, xup_ne, xup_up, ne_eq, Nat.reduceEqDiff, not_false_eq_true, Int.toNat_natCast] at *)); (all_goals (try omega)))
      refine ih (k + 1) (gvn M' k t) (by omega) (fun a a1 a2 => ?_) (fun j j1 j2 => ?_) ?_ ?_ q5 q6 (fun j hj => ?_) (fun j hj => ?_) (fun j hj => ?_) (fun w hw10 => ?_)
      · rw [gvn_low (by omega)]; exact q1 a a1 a2
      · rw [gvn_low (by decide)]; exact q2 j j1 j2
      · rw [gvn_low (by decide)]; exact q3
      · rw [gvn_low (by decide)]; exact q4
      · rw [gvn_low (by decide)]; exact q7 j hj
      · rw [g15]
        by_cases z : j = k
        · rw [z, xup_at, ← e2]; exact q7 k (by omega)
        · rw [xup_ne z]; exact q8 j (by omega)
      · rw [g15, xup_ne (by omega)]; exact q9 j (by omega)
      · have pe : ∀ t', pS (gvn M' k t) w t' = pS M' w t' := fun t' => pS_of (fun a ha => gvn_low (Or.inl ha)) w t'
        have pe2 : ∀ t', pN (gvn M' k t) w t' = pN M' w t' := fun t' => pN_of (fun a ha => gvn_low (Or.inl ha)) w t'
        have g16 : gvn M' k t 16 = xup (M' 16) k (pS M' k t) := by unfold gvn; rw [xup_ne (by decide), xup_at]
        have g17 : gvn M' k t 17 = xup (M' 17) k (pN M' k t) := by unfold gvn; rw [xup_at]
        rw [g15, g16, g17, gvn_low (a := 3) (by decide), gvn_low (a := 10) (by decide)]
        by_cases z : w = k
        · subst z
          rw [xup_at, xup_at, xup_at]
          exact Or.inr ⟨by omega, t, by omega, rfl, (pe t).symm, (pe2 t).symm⟩
        · rw [xup_ne z, xup_ne z, xup_ne z]
          rcases q10 w hw10 with z | ⟨z1, t', z2, z3, z4, z5⟩
          · exact Or.inl z
          · exact Or.inr ⟨z1, t', z2, z3, by rw [pe]; exact z4, by rw [pe2]; exact z5⟩
  refine xg hW k_Tongue_chooseForTheLeast [51] 40 ?_
  ((repeat' (first | (with_reducible refine And.intro ?_ ?_) | (intro h0; exact absurd h0 (by decide)) | (intro _) | ((conv => whnf); (first | (with_reducible refine And.intro ?_ ?_) | (intro h0; exact absurd h0 (by decide)) | (intro _) | (refine hW.1 _ _ _ _ _ _ (c_drop0_H ?_) (by first | decide | omega) (by decide) (Nat.le_of_ble_eq_true rfl)))))); (all_goals (try omega)); (all_goals (try exact Nat.le_of_ble_eq_true rfl)); (all_goals (try ((conv => whnf); (first | (refine hW.2.1 _ _ ?_) | (change X _ _ _ _ _ _) | (change C _ _ _ _ _ _ _))))); (all_goals (try simp only [xup_at, xup_ne, xup_up, ne_eq, Nat.reduceEqDiff, not_false_eq_true, Int.toNat_natCast] at *)); (all_goals (try omega)))
  have hA : lsAt M 0 (fun _ => 0) (1000000, 0, M 22) (xup (xup M 18 (xup (M 18) 2 0)) 2 (xup (xup (M 2) 10 1000000) 11 0)) := by
    refine ⟨⟨fun a a1 a2 => ?_, fun k k1 k2 => ?_⟩, ?_, ?_, fun j hj => ?_, fun j hj => by omega, ?_⟩
    · rw [xup_ne a1, xup_ne (by omega)]
    · rw [xup_at, xup_ne k2, xup_ne k1]
    · rw [xup_at, xup_ne (by decide), xup_at]
    · rw [xup_at, xup_at]
    · rw [xup_ne (by decide), xup_ne (by decide)]
    · rw [xup_ne (by decide), xup_at, xup_at]; rfl
  have he : lsEq (lsF (M 10 2).toNat (pS M) (pN M) (M 2 6) (M 3 2).toNat 0 (fun _ => 0) 0 (1000000, 0, M 22)) (lsM M) := lsF_eq _ _ _ _ _ _ ⟨rfl, rfl, Or.inl rfl⟩
  refine hW.1 _ _ _ _ _ _ (c_lookFrom hp (M 3 2).toNat (w := 0) (row := fun _ => 0) (b := 0) (st := (1000000, 0, M 22)) (by omega) (by omega) (by omega) (by simp only; omega) (by simp only; omega) (by simp only; omega) ⟨by simp only; omega, by simp only; omega, Or.inl rfl⟩ (fun j hj => by omega) hA (fun M' hA' => ?_)) (by omega) (by decide) (Nat.le_of_ble_eq_true rfl)
  obtain ⟨a1, a2, a3, a4, a5, a6⟩ := hA'
  rw [he.1] at a2
  rw [he.2.1] at a3
  have b1 : 0 ≤ (lsM M).2.1 ∧ (lsM M).2.1 ≤ 20000 + (M 3 2).toNat := r1
  have b2 : 0 ≤ (lsM M).1 ∧ (lsM M).1 ≤ 1000000 := ⟨r2.1, r2.2.1⟩
  ((repeat' (first | (with_reducible refine And.intro ?_ ?_) | (intro h0; exact absurd h0 (by decide)) | (intro _) | ((conv => whnf); (first | (with_reducible refine And.intro ?_ ?_) | (intro h0; exact absurd h0 (by decide)) | (intro _))))); (all_goals (try omega)); (all_goals (try exact Nat.le_of_ble_eq_true rfl)); (all_goals (try ((conv => whnf); (first | (refine hW.2.1 _ _ ?_) | (change X _ _ _ _ _ _) | (change C _ _ _ _ _ _ _))))); (all_goals (try simp only [xup_at, xup_ne, xup_up, ne_eq, Nat.reduceEqDiff, not_false_eq_true, Int.toNat_natCast] at *)); (all_goals (try omega)))
  · have hne : (lsM M).1 ≠ 1000000 := by omega
    refine loop (M 3 2).toNat 0 M' (by omega) (fun a c1 c2 => ?_) a1.2 a6 a2 (by omega) hne (fun j hj => ?_) (fun j hj => by omega) (fun j hj => ?_) ?_
    · rcases Nat.lt_or_ge a 18 with z | z
      · exact a1.1 a c1 (Or.inl z)
      · exact a1.1 a c1 (Or.inr (by omega))
    · rw [a4 j hj]
      rcases he.2.2 with z | z
      · exact absurd (he.1.symm.trans z) hne
      · rw [z]
    · rw [a1.1 15 (by decide) (by decide)]
    · intro w hw10
      rw [a1.1 15 (by decide) (by decide), a1.1 16 (by decide) (by decide), a1.1 17 (by decide) (by decide), a1.1 3 (by decide) (by decide), a1.1 10 (by decide) (by decide)]
      have p1 : ∀ t', pS M' w t' = pS M w t' := fun t' => by unfold pS; rw [a1.1 4 (by decide) (by decide), a1.1 11 (by decide) (by decide)]
      have p2 : ∀ t', pN M' w t' = pN M w t' := fun t' => by unfold pN; rw [a1.1 5 (by decide) (by decide), a1.1 11 (by decide) (by decide), a1.1 12 (by decide) (by decide)]
      rcases hg w hw10 with z | ⟨z1, t', z2, z3, z4, z5⟩
      · exact Or.inl z
      · exact Or.inr ⟨z1, t', z2, z3, by rw [p1]; exact z4, by rw [p2]; exact z5⟩
  · exact h2 M' a1 a6 (by omega) (by omega)
  · exact h1 M' a1 a6 (by omega)
