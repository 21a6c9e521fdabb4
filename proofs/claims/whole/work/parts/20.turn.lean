/-! CHOSEN in turn -/
/-- the phrase t of w stands apart from those that c gives to all ahead -/
def okP (S N : Nat → Nat → Int) (v : Int) (c : Nat → Int) (w t : Nat) : Prop := ∀ u, u < w → c u ≠ -1 → apart (S u (c u).toNat) (N u (c u).toNat) (S w t) (N w t) v
/-- c is CHOSEN in turn for the words below k, of nT phrases each -/
def isCh (nT : Nat) (S N : Nat → Nat → Int) (v : Int) (k : Nat) (c : Nat → Int) : Prop := ∀ w, w < k → (c w = -1 ∧ ∀ t, t < nT → ¬ okP S N v c w t) ∨ ∃ t : Nat, t < nT ∧ c w = t ∧ okP S N v c w t ∧ ∀ j, j < t → ¬ okP S N v c w j
theorem okP_congr {S N : Nat → Nat → Int} {v : Int} {c c' : Nat → Int} {w t : Nat} (h : ∀ u, u < w → c u = c' u) : okP S N v c w t ↔ okP S N v c' w t := by
  unfold okP
  constructor
  · intro h1 u hu
    rw [← h u hu]
    exact h1 u hu
  · intro h1 u hu
    rw [h u hu]
    exact h1 u hu
theorem isCh_one {nT : Nat} {S N : Nat → Nat → Int} {v : Int} {k : Nat} {c c' : Nat → Int} (h : isCh nT S N v k c) (h' : isCh nT S N v k c') : ∀ w, w < k → c w = c' w := by
  intro w
  induction w using Nat.strongRecOn with
  | _ w ih =>
    intro hw
    have e : ∀ t, okP S N v c w t ↔ okP S N v c' w t := fun t => okP_congr fun u hu => ih u hu (by omega)
    rcases h w hw with ⟨a1, a2⟩ | ⟨t, a1, a2, a3, a4⟩ <;> rcases h' w hw with ⟨b1, b2⟩ | ⟨t', b1, b2, b3, b4⟩
    · rw [a1, b1]
    · exact absurd ((e t').mpr b3) (a2 t' b1)
    · exact absurd ((e t).mp a3) (b2 t a1)
    · rcases Nat.lt_trichotomy t t' with q | q | q
      · exact absurd ((e t).mp a3) (b4 t q)
      · rw [a2, b2, q]
      · exact absurd ((e t').mpr b3) (a4 t' q)
theorem isCh_congr {nT : Nat} {S N : Nat → Nat → Int} {v : Int} {k : Nat} {c c' : Nat → Int} (h : ∀ u, u < k → c u = c' u) (h1 : isCh nT S N v k c) : isCh nT S N v k c' := by
  intro w hw
  have e : ∀ t, okP S N v c w t ↔ okP S N v c' w t := fun t => okP_congr fun u hu => h u (by omega)
  rw [← h w hw]
  rcases h1 w hw with ⟨a1, a2⟩ | ⟨t, a1, a2, a3, a4⟩
  · exact Or.inl ⟨a1, fun t ht q => a2 t ht ((e t).mpr q)⟩
  · exact Or.inr ⟨t, a1, a2, (e t).mp a3, fun j hj q => a4 j hj ((e j).mpr q)⟩
/-- the phrases given are phrases of their words -/
def gvOk (M : xM) : Prop := ∀ w : Nat, w < 10 → M 15 w = -1 ∨ ((w : Int) < M 3 2 ∧ ∃ t : Nat, (t : Int) < M 10 2 ∧ M 15 w = t ∧ M 16 w = pS M w t ∧ M 17 w = pN M w t)
theorem gvOk.ph {M : xM} (hw : wOk M) (ht : tbOk M) (h : gvOk M) : phOk M := by
  intro w hw10
  rcases h w hw10 with q | ⟨q1, t, q2, q3, q4, q5⟩
  · exact ⟨by omega, by omega, fun n => absurd q n⟩
  · have h2 := pB hw ht q1 q2
    have h3 := ht.2.1
    rw [q3, q4, q5]
    exact ⟨by omega, by omega, fun _ => h2⟩
theorem gvOk_of {M M' : xM} (e : ∀ a, a < 18 → M' a = M a) (h : gvOk M) : gvOk M' := by
  unfold gvOk at h ⊢
  rw [e 15 (by decide), e 3 (by decide), e 10 (by decide), e 16 (by decide), e 17 (by decide)]
  intro w hw
  have := h w hw
  rw [show pS M' w = pS M w from funext fun t => pS_of (fun a ha => e a (by omega)) w t, show pN M' w = pN M w from funext fun t => pN_of (fun a ha => e a (by omega)) w t]
  exact this
theorem cntP_congr {c c' : Nat → Int} : ∀ {k : Nat}, (∀ u, u < k → c u = c' u) → cntP c k = cntP c' k
  | 0, _ => rfl
  | k + 1, h => by rw [cntP, cntP, cntP_congr fun u hu => h u (by omega), h k (by omega)]
/-- the walk of the words has come to k -/
def turnAt (M0 : xM) (k : Nat) (M : xM) : Prop := (∀ a, (a < 15 ∨ 20 < a) → M a = M0 a) ∧ (∀ j, k ≤ j → j < 10 → M 15 j = -1) ∧ isCh (M0 10 2).toNat (pS M0) (pN M0) (M0 2 6) k (M 15) ∧ gvOk M ∧ M 18 2 = cntP (M 15) k ∧
  (∀ i : Nat, (i : Int) < M 18 2 → ∃ u : Nat, u < k ∧ M 15 u ≠ -1 ∧ M 19 i = M 16 u ∧ M 20 i = M 17 u) ∧ (∀ u : Nat, u < k → M 15 u ≠ -1 → ∃ i : Nat, (i : Int) < M 18 2 ∧ M 19 i = M 16 u ∧ M 20 i = M 17 u)
theorem turnAt_fr {M0 M : xM} {k : Nat} (hk10 : k ≤ 10) (h : turnAt M0 k M) (t : Nat) : frA M k t ↔ okP (pS M0) (pN M0) (M0 2 6) (M 15) k t := by
  obtain ⟨h1, h2, h3, h4, h5, h6, h7⟩ := h
  have hk : ∀ u, u < k → M 15 u ≠ -1 → M 16 u = pS M0 u (M 15 u).toNat ∧ M 17 u = pN M0 u (M 15 u).toNat := by
    intro u hu hn
    rcases h4 u (by omega) with q | ⟨q1, t, q2, q3, q4, q5⟩
    · exact absurd q hn
    · rw [q4, q5, q3, Int.toNat_natCast, pS_of (fun a ha => h1 a (Or.inl ha)), pN_of (fun a ha => h1 a (Or.inl ha))]
      exact ⟨rfl, rfl⟩
  unfold frA allApart okP
  rw [pS_of (fun a ha => h1 a (Or.inl ha)), pN_of (fun a ha => h1 a (Or.inl ha)), h1 2 (by decide)]
  constructor
  · intro q u hu hn
    obtain ⟨i, i1, i2, i3⟩ := h7 u hu hn
    have := q i i1
    rw [i2, i3, (hk u hu hn).1, (hk u hu hn).2] at this
    exact this
  · intro q i hi
    obtain ⟨u, u1, u2, u3, u4⟩ := h6 i hi
    rw [u3, u4, (hk u u1 u2).1, (hk u u1 u2).2]
    exact q u u1 u2
theorem isCh_push {nT : Nat} {S N : Nat → Nat → Int} {v : Int} {k : Nat} {c c' : Nat → Int} (h : isCh nT S N v k c) (hc : ∀ u, u < k → c u = c' u) (hk : (c' k = -1 ∧ ∀ t, t < nT → ¬ okP S N v c k t) ∨ ∃ t : Nat, t < nT ∧ c' k = t ∧ okP S N v c k t ∧ ∀ j, j < t → ¬ okP S N v c k j) : isCh nT S N v (k + 1) c' := by
  intro w hw
  rcases Nat.lt_or_ge w k with q | q
  · exact isCh_congr hc h w q
  · obtain rfl : w = k := by omega
    have e : ∀ t, okP S N v c w t ↔ okP S N v c' w t := fun t => okP_congr hc
    rcases hk with ⟨a1, a2⟩ | ⟨t, a1, a2, a3, a4⟩
    · exact Or.inl ⟨a1, fun t ht q => a2 t ht ((e t).mpr q)⟩
    · exact Or.inr ⟨t, a1, a2, (e t).mp a3, fun j hj q => a4 j hj ((e j).mpr q)⟩
theorem turnAt_none {M0 M : xM} {k : Nat} (hk10 : k < 10) (h : turnAt M0 k M) (hn : ∀ t : Nat, (t : Int) < M 10 2 → ¬ frA M k t) : turnAt M0 (k + 1) M := by
  have hf := turnAt_fr (by omega) h
  obtain ⟨h1, h2, h3, h4, h5, h6, h7⟩ := h
  have hc := h2 k (Nat.le_refl _) hk10
  refine ⟨h1, fun j hj hj2 => h2 j (by omega) hj2, isCh_push h3 (fun _ _ => rfl) (Or.inl ⟨hc, fun t ht q => hn t ?_ ((hf t).mpr q)⟩), h4, ?_, ?_, ?_⟩
  · rw [h1 10 (by decide)]
    omega
  · rw [cntP, if_pos hc, h5, Int.add_zero]
  · intro i hi
    obtain ⟨u, u1, u2⟩ := h6 i hi
    exact ⟨u, by omega, u2⟩
  · intro u hu hn
    refine h7 u ?_ hn
    rcases Nat.lt_or_ge u k with q | q
    · exact q
    · exact absurd (by rw [show u = k by omega]; exact hc) hn
/-- the phrase t is given to k, and stands among those ahead -/
def gvnA (M : xM) (k t : Nat) : xM := rAdd_H (gvn M k t) (pS M k t) (pN M k t)
theorem gvnA_at (M : xM) (k t : Nat) : gvnA M k t 15 = xup (M 15) k t ∧ gvnA M k t 16 = xup (M 16) k (pS M k t) ∧ gvnA M k t 17 = xup (M 17) k (pN M k t) ∧ gvnA M k t 18 = xup (M 18) 2 (M 18 2 + 1) ∧ gvnA M k t 19 = xup (M 19) (M 18 2).toNat (pS M k t) ∧ gvnA M k t 20 = xup (M 20) (M 18 2).toNat (pN M k t) := by
  unfold gvnA rAdd_H gvn
  simp only [xup_at, xup_ne, xup_up, ne_eq, Nat.reduceEqDiff, not_false_eq_true, Int.toNat_natCast]
  exact ⟨trivial, trivial, trivial, trivial, trivial, trivial⟩
theorem gvnA_low {M : xM} {k t a : Nat} (h : a < 15 ∨ 20 < a) : gvnA M k t a = M a := by
  unfold gvnA rAdd_H
  rw [xup_ne (by omega), xup_ne (by omega), xup_ne (by omega), gvn_low (by omega)]
theorem turnAt_some {M0 M : xM} {k t : Nat} (hk10 : k < 10) (hkw : (k : Int) < M0 3 2) (h : turnAt M0 k M) (ht : (t : Int) < M 10 2) (hf : frA M k t) (hj : ∀ j, j < t → ¬ frA M k j) : turnAt M0 (k + 1) (gvnA M k t) := by
  have hfr := turnAt_fr (by omega) h
  obtain ⟨g15, g16, g17, g18, g19, g20⟩ := gvnA_at M k t
  obtain ⟨h1, h2, h3, h4, h5, h6, h7⟩ := h
  have h10 : M 10 2 = M0 10 2 := by rw [h1 10 (by decide)]
  have hu0 := cntP_rg (M 15) k
  have hcne : ∀ u, u < k → xup (M 15) k (t : Int) u = M 15 u := fun u hu => xup_ne (by omega)
  refine ⟨fun a ha => ?_, fun j hj1 hj2 => ?_, ?_, ?_, ?_, ?_, ?_⟩
  · rw [gvnA_low ha]; exact h1 a ha
  · rw [g15, xup_ne (by omega)]; exact h2 j (by omega) hj2
  · rw [g15]
    exact isCh_push h3 (fun u hu => (hcne u hu).symm) (Or.inr ⟨t, by omega, xup_at _ _ _, (hfr t).mp hf, fun j q z => hj j q ((hfr j).mpr z)⟩)
  · intro w hw
    rw [g15, g16, g17, gvnA_low (a := 3) (by decide), gvnA_low (a := 10) (by decide), show pS (gvnA M k t) w = pS M w from funext fun t' => pS_of (fun a ha => gvnA_low (Or.inl ha)) w t', show pN (gvnA M k t) w = pN M w from funext fun t' => pN_of (fun a ha => gvnA_low (Or.inl ha)) w t']
    by_cases q : w = k
    · subst q
      rw [xup_at, xup_at, xup_at]
      refine Or.inr ⟨?_, t, ht, rfl, rfl, rfl⟩
      rw [h1 3 (by decide)]
      exact hkw
    · rw [xup_ne q, xup_ne q, xup_ne q]
      exact h4 w hw
  · rw [g15, g18, xup_at, cntP, xup_at, if_neg (by omega), h5, cntP_congr hcne]
  · intro i hi
    rw [g18, xup_at] at hi
    rw [g15, g16, g17, g19, g20]
    by_cases q : i = (M 18 2).toNat
    · refine ⟨k, by omega, ?_, ?_, ?_⟩
      · rw [xup_at]; omega
      · rw [q, xup_at, xup_at]
      · rw [q, xup_at, xup_at]
    · obtain ⟨u, u1, u2, u3, u4⟩ := h6 i (by omega)
      have hne : u ≠ k := by omega
      refine ⟨u, by omega, ?_, ?_, ?_⟩
      · rw [xup_ne hne]; exact u2
      · rw [xup_ne q, xup_ne hne]; exact u3
      · rw [xup_ne q, xup_ne hne]; exact u4
  · intro u hu hn
    rw [g15] at hn
    rw [g16, g17, g18, g19, g20, xup_at]
    by_cases q : u = k
    · refine ⟨(M 18 2).toNat, by omega, ?_, ?_⟩
      · rw [q, xup_at, xup_at]
      · rw [q, xup_at, xup_at]
    · rw [xup_ne q] at hn
      obtain ⟨i, i1, i2, i3⟩ := h7 u (by omega) hn
      have hne : i ≠ (M 18 2).toNat := by omega
      refine ⟨i, by omega, ?_, ?_⟩
      · rw [xup_ne hne, xup_ne q]; exact i2
      · rw [xup_ne hne, xup_ne q]; exact i3
theorem turnAt_ah {M0 M : xM} {k : Nat} (hk10 : k ≤ 10) (hw : wOk M) (ht : tbOk M) (h : turnAt M0 k M) : aheadOk M := by
  obtain ⟨h1, h2, h3, h4, h5, h6, h7⟩ := h
  have hu0 := cntP_rg (M 15) k
  refine ⟨by omega, by omega, fun i hi => ?_⟩
  obtain ⟨u, u1, u2, u3, u4⟩ := h6 i hi
  have := (h4.ph hw ht u (by omega)).2.2 u2
  rw [u3, u4]
  exact this.2
set_option maxRecDepth 100000 in
set_option maxHeartbeats 4000000 in
theorem c_choose {M : xM} {Q : Option xV → xM → Prop} (hw : wOk M) (ht : tbOk M) (ha : 0 ≤ M 18 2 ∧ M 18 2 ≤ 10) (hb : 1 ≤ M 2 6 ∧ M 2 6 ≤ 9) (hq : ∀ M', turnAt M (M 3 2).toNat M' → Q (some (xI (cntP (M' 15) (M 3 2).toNat))) M') : xm 6 m_Tongue_chooseInTurn [xR (some 2)] M Q := by
  obtain ⟨w1, w2, w3⟩ := id hw
  (refine xm_of (own := "DrumTongue$Tongue") rfl (by decide +kernel) tk_Tongue [some (xR (some 2)), none, none] (Nat.le_of_ble_eq_true rfl) rfl ?_; intro D nx X C P hW)
  have loop : ∀ (m k : Nat) (M' : xM) (v : Option xV), (k : Int) + m = M 3 2 → turnAt M k M' → X 14 [some (xR (some 2)), some (xI (k : Int)), v] [] (M', D, nx) 0 0 := by
    intro m
    induction m with
    | zero =>
      intro k M' v hk hT
      have f1 : M' 3 2 = M 3 2 := by rw [hT.1 3 (by decide)]
      refine xg hW k_Tongue_chooseInTurn [14] 40 ?_
      ((repeat' (first | (with_reducible refine And.intro ?_ ?_) | (intro h0; exact absurd h0 (by decide)) | (intro _) | ((conv => whnf); (first | (with_reducible refine And.intro ?_ ?_) | (intro h0; exact absurd h0 (by decide)) | (intro _) | (refine hW.1 _ _ _ _ _ _ (c_used_W ?_) (by first | decide | omega) (by decide) (Nat.le_of_ble_eq_true rfl)) | (refine hW.1 _ _ _ _ _ _ (c_used_H ?_) (by first | decide | omega) (by decide) (Nat.le_of_ble_eq_true rfl)))))); (all_goals (try omega)); (all_goals (try exact Nat.le_of_ble_eq_true rfl)); (all_goals (try ((conv => whnf); (first | (refine hW.2.1 _ _ ?_) | (change X _ _ _ _ _ _) | (change C _ _ _ _ _ _ _))))); (all_goals (try simp only [xup_at, xup_ne, xup_up, ne_eq, Nat.reduceEqDiff, not_false_eq_true, Int.toNat_natCast] at *)); (all_goals (try omega)))
      have h1 := hq M'
      rw [show (M 3 2).toNat = k by omega] at h1
      have h2 := h1 hT
      rw [← hT.2.2.2.2.1] at h2
      exact h2
    | succ m ih =>
      intro k M' v hk hT
      have f1 : M' 3 2 = M 3 2 := by rw [hT.1 3 (by decide)]
      have hw' : wOk M' := wOk_of (fun a ha => hT.1 a (by omega)) hw
      have ht' : tbOk M' := tbOk_of (fun a _ ha => hT.1 a (by omega)) ht
      have ha' := turnAt_ah (by omega) hw' ht' hT
      obtain ⟨t1, t2, t3⟩ := id ht'
      have hb' : 1 ≤ M' 2 6 ∧ M' 2 6 ≤ 9 := by rw [hT.1 2 (by decide)]; exact hb
      refine xg hW k_Tongue_chooseInTurn [14] 40 ?_
      ((repeat' (first | (with_reducible refine And.intro ?_ ?_) | (intro h0; exact absurd h0 (by decide)) | (intro _) | ((conv => whnf); (first | (with_reducible refine And.intro ?_ ?_) | (intro h0; exact absurd h0 (by decide)) | (intro _) | (refine hW.1 _ _ _ _ _ _ (c_used_W ?_) (by first | decide | omega) (by decide) (Nat.le_of_ble_eq_true rfl)))))); (all_goals (try omega)); (all_goals (try exact Nat.le_of_ble_eq_true rfl)); (all_goals (try ((conv => whnf); (first | (refine hW.2.1 _ _ ?_) | (change X _ _ _ _ _ _) | (change C _ _ _ _ _ _ _))))); (all_goals (try simp only [xup_at, xup_ne, xup_up, ne_eq, Nat.reduceEqDiff, not_false_eq_true, Int.toNat_natCast] at *)); (all_goals (try omega)))
      refine hW.1 _ _ _ _ _ _ (c_firstTail hw' ht' ha' hb' (by omega) (fun t q1 q2 q3 => ?_) (fun q1 => ?_)) (by decide) (by decide) (Nat.le_of_ble_eq_true rfl)
      · ((repeat' (first | (with_reducible refine And.intro ?_ ?_) | (intro h0; exact absurd h0 (by decide)) | (intro _) | ((conv => whnf); (first | (with_reducible refine And.intro ?_ ?_) | (intro h0; exact absurd h0 (by decide)) | (intro _))))); (all_goals (try omega)); (all_goals (try exact Nat.le_of_ble_eq_true rfl)); (all_goals (try ((conv => whnf); (first | (refine hW.2.1 _ _ ?_) | (change X _ _ _ _ _ _) | (change C _ _ _ _ _ _ _))))); (all_goals (try simp only [xup_at, xup_ne, xup_up, ne_eq, Nat.reduceEqDiff, not_false_eq_true, Int.toNat_natCast] at *)); (all_goals (try omega)))
        refine hW.1 _ _ _ _ _ _ (c_give hw' ht' ⟨⟨by omega, q1⟩, ?_⟩) (by decide) (by decide) (Nat.le_of_ble_eq_true rfl)
        ((repeat' (first | (with_reducible refine And.intro ?_ ?_) | (intro h0; exact absurd h0 (by decide)) | (intro _) | ((conv => whnf); (first | (with_reducible refine And.intro ?_ ?_) | (intro h0; exact absurd h0 (by decide)) | (intro _))))); (all_goals (try omega)); (all_goals (try exact Nat.le_of_ble_eq_true rfl)); (all_goals (try ((conv => whnf); (first | (refine hW.2.1 _ _ ?_) | (change X _ _ _ _ _ _) | (change C _ _ _ _ _ _ _))))); (all_goals (try simp only [xup_at, xup_ne, xup_up, ne_eq, Nat.reduceEqDiff, not_false_eq_true, Int.toNat_natCast] at *)); (all_goals (try omega)))
        have g16 : gvn M' k t 16 k = pS M' k t := by
          unfold gvn
          rw [xup_ne (by decide), xup_at, xup_at]
        have g17 : gvn M' k t 17 k = pN M' k t := by
          unfold gvn
          rw [xup_at, xup_at]
        rw [g16, g17]
        have g18 : gvn M' k t 18 2 = M' 18 2 := by rw [gvn_low (by decide)]
        have hc := cntP_rg (M' 15) k
        have h5 := hT.2.2.2.2.1
        refine hW.1 _ _ _ _ _ _ (c_add_H ⟨⟨by omega, by omega⟩, fun q => by omega, fun _ => ?_⟩) (by decide) (by decide) (Nat.le_of_ble_eq_true rfl)
        ((repeat' (first | (with_reducible refine And.intro ?_ ?_) | (intro h0; exact absurd h0 (by decide)) | (intro _) | ((conv => whnf); (first | (with_reducible refine And.intro ?_ ?_) | (intro h0; exact absurd h0 (by decide)) | (intro _))))); (all_goals (try omega)); (all_goals (try exact Nat.le_of_ble_eq_true rfl)); (all_goals (try ((conv => whnf); (first | (refine hW.2.1 _ _ ?_) | (change X _ _ _ _ _ _) | (change C _ _ _ _ _ _ _))))); (all_goals (try simp only [xup_at, xup_ne, xup_up, ne_eq, Nat.reduceEqDiff, not_false_eq_true, Int.toNat_natCast] at *)); (all_goals (try omega)))
        exact ih (k + 1) _ _ (by omega) (turnAt_some (by omega) (by omega) hT q1 q2 q3)
      · ((repeat' (first | (with_reducible refine And.intro ?_ ?_) | (intro h0; exact absurd h0 (by decide)) | (intro _) | ((conv => whnf); (first | (with_reducible refine And.intro ?_ ?_) | (intro h0; exact absurd h0 (by decide)) | (intro _))))); (all_goals (try omega)); (all_goals (try exact Nat.le_of_ble_eq_true rfl)); (all_goals (try ((conv => whnf); (first | (refine hW.2.1 _ _ ?_) | (change X _ _ _ _ _ _) | (change C _ _ _ _ _ _ _))))); (all_goals (try simp only [xup_at, xup_ne, xup_up, ne_eq, Nat.reduceEqDiff, not_false_eq_true, Int.toNat_natCast] at *)); (all_goals (try omega)))
        exact ih (k + 1) M' _ (by omega) (turnAt_none (by omega) hT q1)
  have start : ∀ M1 : xM, (∀ a, (a < 15 ∨ 20 < a) → M1 a = M a) → (∀ j, j < 10 → M1 15 j = -1) → M1 18 2 = 0 → turnAt M 0 M1 := fun M1 s1 s2 s3 => ⟨s1, fun j _ hj => s2 j hj, fun w hw => absurd hw (Nat.not_lt_zero w), fun w hw => Or.inl (s2 w hw), s3, fun i hi => by omega, fun u hu => absurd hu (Nat.not_lt_zero u)⟩
  refine xg hW k_Tongue_chooseInTurn [14] 40 ?_
  ((repeat' (first | (with_reducible refine And.intro ?_ ?_) | (intro h0; exact absurd h0 (by decide)) | (intro _) | ((conv => whnf); (first | (with_reducible refine And.intro ?_ ?_) | (intro h0; exact absurd h0 (by decide)) | (intro _) | (refine hW.1 _ _ _ _ _ _ (c_forget ?_) (by first | decide | omega) (by decide) (Nat.le_of_ble_eq_true rfl)))))); (all_goals (try omega)); (all_goals (try exact Nat.le_of_ble_eq_true rfl)); (all_goals (try ((conv => whnf); (first | (refine hW.2.1 _ _ ?_) | (change X _ _ _ _ _ _) | (change C _ _ _ _ _ _ _))))); (all_goals (try simp only [xup_at, xup_ne, xup_up, ne_eq, Nat.reduceEqDiff, not_false_eq_true, Int.toNat_natCast] at *)); (all_goals (try omega)))
  refine hW.1 _ _ _ _ _ _ (c_drop_H ⟨⟨⟨by decide, by decide⟩, by simp only [xup_at, xup_ne, xup_up, ne_eq, Nat.reduceEqDiff, not_false_eq_true, Int.toNat_natCast]; omega, by simp only [xup_at, xup_ne, xup_up, ne_eq, Nat.reduceEqDiff, not_false_eq_true, Int.toNat_natCast]; omega⟩, fun _ q => ?_, fun q => ?_⟩) (by decide) (by decide) (Nat.le_of_ble_eq_true rfl)
  · ((repeat' (first | (with_reducible refine And.intro ?_ ?_) | (intro h0; exact absurd h0 (by decide)) | (intro _) | ((conv => whnf); (first | (with_reducible refine And.intro ?_ ?_) | (intro h0; exact absurd h0 (by decide)) | (intro _))))); (all_goals (try omega)); (all_goals (try exact Nat.le_of_ble_eq_true rfl)); (all_goals (try ((conv => whnf); (first | (refine hW.2.1 _ _ ?_) | (change X _ _ _ _ _ _) | (change C _ _ _ _ _ _ _))))); (all_goals (try simp only [xup_at, xup_ne, xup_up, ne_eq, Nat.reduceEqDiff, not_false_eq_true, Int.toNat_natCast] at *)); (all_goals (try omega)))
    refine loop (M 3 2).toNat 0 _ none (by omega) (start _ (fun a ha => ?_) (fun j hj => ?_) ?_)
    · rw [xup_ne (by omega), xup_ne (by omega)]
    · rw [xup_ne (by decide), xup_at]
      simp only [xfill, if_pos hj]
    · rw [xup_at, xup_at]
  · simp only [xup_at, xup_ne, xup_up, ne_eq, Nat.reduceEqDiff, not_false_eq_true, Int.toNat_natCast] at q
    ((repeat' (first | (with_reducible refine And.intro ?_ ?_) | (intro h0; exact absurd h0 (by decide)) | (intro _) | ((conv => whnf); (first | (with_reducible refine And.intro ?_ ?_) | (intro h0; exact absurd h0 (by decide)) | (intro _))))); (all_goals (try omega)); (all_goals (try exact Nat.le_of_ble_eq_true rfl)); (all_goals (try ((conv => whnf); (first | (refine hW.2.1 _ _ ?_) | (change X _ _ _ _ _ _) | (change C _ _ _ _ _ _ _))))); (all_goals (try simp only [xup_at, xup_ne, xup_up, ne_eq, Nat.reduceEqDiff, not_false_eq_true, Int.toNat_natCast] at *)); (all_goals (try omega)))
    refine loop (M 3 2).toNat 0 _ none (by omega) (start _ (fun a ha => ?_) (fun j hj => ?_) ?_)
    · rw [xup_ne (by omega)]
    · rw [xup_at]
      simp only [xfill, if_pos hj]
    · rw [xup_ne (by decide)]
      omega
