/-! phrases given and chosen -/
def pS (M : xM) (w t : Nat) : Int := M 4 w + M 11 t
def pN (M : xM) (w t : Nat) : Int := M 5 w * 2 ^ (M 11 t).toNat + M 12 t
theorem pB {M : xM} (hw : wOk M) (ht : tbOk M) {w t : Nat} (h1 : (w : Int) < M 3 2) (h2 : (t : Int) < M 10 2) : 1 ≤ pS M w t ∧ isB (pS M w t) (pN M w t) := by
  obtain ⟨a1, a2, a3, a4⟩ := hw.2.2 w h1
  obtain ⟨b1, b2, b3, b4⟩ := ht.2.2 t h2
  have p1 := xmul_lt (a := M 5 w) (b := M 12 t) (i := (M 4 w).toNat) (j := (M 11 t).toNat) a3 a4 b3 b4
  have p2 := xpow_le (show (M 4 w).toNat + (M 11 t).toNat ≤ 18 by omega)
  unfold isB pS pN
  exact ⟨by omega, by omega, by omega, p1.1, Int.lt_of_lt_of_le p1.2 p2⟩
set_option maxRecDepth 100000 in
theorem c_sizeWith {M : xM} {Q : Option xV → xM → Prop} {w t : Nat} (hw : wOk M) (ht : tbOk M) (h : ((w : Int) < M 3 2 ∧ (t : Int) < M 10 2) ∧ Q (some (xI (pS M w t))) M) : xm 3 m_Tongue_sizeWith [xR (some 2), xI w, xI t] M Q := by
  obtain ⟨⟨h1, h2⟩, h3⟩ := h
  obtain ⟨w1, w2, w3⟩ := hw
  obtain ⟨t1, t2, t3⟩ := ht
  (refine xm_of (own := "DrumTongue$Tongue") rfl (by decide +kernel) tk_Tongue [some (xR (some 2)), some (xI (w : Int)), some (xI (t : Int))] (Nat.le_of_ble_eq_true rfl) rfl ?_; intro D nx X C P hW)
  refine xg hW k_Tongue_sizeWith [] 40 ?_
  ((repeat' (first | (with_reducible refine And.intro ?_ ?_) | (intro h0; exact absurd h0 (by decide)) | (intro _) | ((conv => whnf); (first | (with_reducible refine And.intro ?_ ?_) | (intro h0; exact absurd h0 (by decide)) | (intro _) | (refine hW.1 _ _ _ _ _ _ (c_sizeI_W ?_) (by first | decide | omega) (by decide) (Nat.le_of_ble_eq_true rfl)) | (refine hW.1 _ _ _ _ _ _ (c_Tails_size ?_) (by first | decide | omega) (by decide) (Nat.le_of_ble_eq_true rfl)))))); (all_goals (try omega)); (all_goals (try exact Nat.le_of_ble_eq_true rfl)); (all_goals (try ((conv => whnf); (first | (refine hW.2.1 _ _ ?_) | (change X _ _ _ _ _ _) | (change C _ _ _ _ _ _ _))))); (all_goals (try simp only [xup_at, xup_ne, xup_up, ne_eq, Nat.reduceEqDiff, not_false_eq_true, Int.toNat_natCast] at *)); (all_goals (try omega)))
  exact h3
set_option maxRecDepth 100000 in
theorem c_numberWith {M : xM} {Q : Option xV → xM → Prop} {w t : Nat} (hw : wOk M) (ht : tbOk M) (h : ((w : Int) < M 3 2 ∧ (t : Int) < M 10 2) ∧ Q (some (xI (pN M w t))) M) : xm 3 m_Tongue_numberWith [xR (some 2), xI w, xI t] M Q := by
  obtain ⟨⟨h1, h2⟩, h3⟩ := h
  have hb := (pB hw ht h1 h2).2
  obtain ⟨w1, w2, w3⟩ := hw
  obtain ⟨t1, t2, t3⟩ := ht
  obtain ⟨a1, a2, a3, a4⟩ := w3 w h1
  obtain ⟨b1, b2, b3, b4⟩ := t3 t h2
  (refine xm_of (own := "DrumTongue$Tongue") rfl (by decide +kernel) tk_Tongue [some (xR (some 2)), some (xI (w : Int)), some (xI (t : Int))] (Nat.le_of_ble_eq_true rfl) rfl ?_; intro D nx X C P hW)
  refine xg hW k_Tongue_numberWith [] 40 ?_
  ((repeat' (first | (with_reducible refine And.intro ?_ ?_) | (intro h0; exact absurd h0 (by decide)) | (intro _) | ((conv => whnf); (first | (with_reducible refine And.intro ?_ ?_) | (intro h0; exact absurd h0 (by decide)) | (intro _) | (refine hW.1 _ _ _ _ _ _ (c_numberI_W ?_) (by first | decide | omega) (by decide) (Nat.le_of_ble_eq_true rfl)) | (refine hW.1 _ _ _ _ _ _ (c_Tails_size ?_) (by first | decide | omega) (by decide) (Nat.le_of_ble_eq_true rfl)) | (refine hW.1 _ _ _ _ _ _ (c_Tails_number ?_) (by first | decide | omega) (by decide) (Nat.le_of_ble_eq_true rfl)))))); (all_goals (try omega)); (all_goals (try exact Nat.le_of_ble_eq_true rfl)); (all_goals (try ((conv => whnf); (first | (refine hW.2.1 _ _ ?_) | (change X _ _ _ _ _ _) | (change C _ _ _ _ _ _ _))))); (all_goals (try simp only [xup_at, xup_ne, xup_up, ne_eq, Nat.reduceEqDiff, not_false_eq_true, Int.toNat_natCast] at *)); (all_goals (try omega)))
  have p1 := xmul_lt (a := M 5 w) (b := M 12 t) (i := (M 4 w).toNat) (j := (M 11 t).toNat) a3 a4 b3 b4
  have hb2 := hb.2.2.2
  unfold pN at h3 hb2
  rw [xior (by omega) (by omega) (by omega) (by omega) (by omega) (by omega)]
  exact h3
set_option maxRecDepth 100000 in
theorem c_forget {M : xM} {Q : Option xV → xM → Prop} (h : Q none (xup M 15 (xfill (M 15) 10 (-1)))) : xm 2 m_Tongue_forgetPhrases [xR (some 2)] M Q := by
  (refine xm_of (own := "DrumTongue$Tongue") rfl (by decide +kernel) tk_Tongue [some (xR (some 2))] (Nat.le_of_ble_eq_true rfl) rfl ?_; intro D nx X C P hW)
  refine xg hW k_Tongue_forgetPhrases [] 40 ?_
  ((repeat' (first | (with_reducible refine And.intro ?_ ?_) | (intro h0; exact absurd h0 (by decide)) | (intro _) | ((conv => whnf); (first | (with_reducible refine And.intro ?_ ?_) | (intro h0; exact absurd h0 (by decide)) | (intro _))))); (all_goals (try omega)); (all_goals (try exact Nat.le_of_ble_eq_true rfl)); (all_goals (try ((conv => whnf); (first | (refine hW.2.1 _ _ ?_) | (change X _ _ _ _ _ _) | (change C _ _ _ _ _ _ _))))); (all_goals (try simp only [xup_at, xup_ne, xup_up, ne_eq, Nat.reduceEqDiff, not_false_eq_true, Int.toNat_natCast] at *)); (all_goals (try omega)))
  refine hW.1 _ _ _ _ _ _ (c_fill (n := 10) rfl (by decide) ?_) (by decide) (by decide) (Nat.le_of_ble_eq_true rfl)
  ((repeat' (first | (with_reducible refine And.intro ?_ ?_) | (intro h0; exact absurd h0 (by decide)) | (intro _) | ((conv => whnf); (first | (with_reducible refine And.intro ?_ ?_) | (intro h0; exact absurd h0 (by decide)) | (intro _))))); (all_goals (try omega)); (all_goals (try exact Nat.le_of_ble_eq_true rfl)); (all_goals (try ((conv => whnf); (first | (refine hW.2.1 _ _ ?_) | (change X _ _ _ _ _ _) | (change C _ _ _ _ _ _ _))))); (all_goals (try simp only [xup_at, xup_ne, xup_up, ne_eq, Nat.reduceEqDiff, not_false_eq_true, Int.toNat_natCast] at *)); (all_goals (try omega)))
  all_goals exact h
set_option maxRecDepth 100000 in
theorem c_howFar {M : xM} {Q : Option xV → xM → Prop} {a b : Int} (hp : phOk M) (h : (0 ≤ a ∧ a < 10 ∧ 0 ≤ b ∧ b < 10 ∧ M 15 a.toNat ≠ -1 ∧ M 15 b.toNat ≠ -1) ∧ Q (some (xI (dif (M 16 a.toNat) (M 17 a.toNat) (M 16 b.toNat) (M 17 b.toNat) + (if 0 ≤ M 16 a.toNat - M 16 b.toNat then M 16 a.toNat - M 16 b.toNat else -(M 16 a.toNat - M 16 b.toNat))))) M) : xm 3 m_Tongue_howFar [xR (some 2), xI a, xI b] M Q := by
  obtain ⟨⟨a1, a2, b1, b2, ha, hb⟩, hq⟩ := h
  obtain ⟨-, pa1, pa2, pa3, pa4⟩ := (hp a.toNat (by omega)).2.2 ha
  obtain ⟨-, pb1, pb2, pb3, pb4⟩ := (hp b.toNat (by omega)).2.2 hb
  (refine xm_of (own := "DrumTongue$Tongue") rfl (by decide +kernel) tk_Tongue [some (xR (some 2)), some (xI a), some (xI b), none, none] (Nat.le_of_ble_eq_true rfl) rfl ?_; intro D nx X C P hW)
  refine xg hW k_Tongue_howFar [] 40 ?_
  ((repeat' (first | (with_reducible refine And.intro ?_ ?_) | (intro h0; exact absurd h0 (by decide)) | (intro _) | ((conv => whnf); (first | (with_reducible refine And.intro ?_ ?_) | (intro h0; exact absurd h0 (by decide)) | (intro _) | (refine hW.1 _ _ _ _ _ _ (c_hasPhraseY hp ?_) (by first | decide | omega) (by decide) (Nat.le_of_ble_eq_true rfl)) | (refine hW.1 _ _ _ _ _ _ (c_differing ?_) (by first | decide | omega) (by decide) (Nat.le_of_ble_eq_true rfl)))))); (all_goals (try omega)); (all_goals (try exact Nat.le_of_ble_eq_true rfl)); (all_goals (try ((conv => whnf); (first | (refine hW.2.1 _ _ ?_) | (change X _ _ _ _ _ _) | (change C _ _ _ _ _ _ _))))); (all_goals (try simp only [xup_at, xup_ne, xup_up, ne_eq, Nat.reduceEqDiff, not_false_eq_true, Int.toNat_natCast] at *)); (all_goals (try omega)))
  all_goals exact hq
theorem wOk_of {M M' : xM} (e : ∀ a, a < 10 → M' a = M a) (h : wOk M) : wOk M' := by
  unfold wOk at h ⊢
  rw [e 3 (by decide), e 4 (by decide), e 5 (by decide)]
  exact h
theorem eOk_of {M M' : xM} (e : ∀ a, 6 ≤ a → a < 10 → M' a = M a) (h : eOk M) : eOk M' := by
  unfold eOk at h ⊢
  rw [e 6 (by decide) (by decide), e 7 (by decide) (by decide), e 8 (by decide) (by decide)]
  exact h
theorem tbOk_of {M M' : xM} (e : ∀ a, 10 ≤ a → a < 15 → M' a = M a) (h : tbOk M) : tbOk M' := by
  unfold tbOk at h ⊢
  rw [e 10 (by decide) (by decide), e 11 (by decide) (by decide), e 12 (by decide) (by decide)]
  exact h
theorem pS_of {M M' : xM} (e : ∀ a, a < 15 → M' a = M a) (w t : Nat) : pS M' w t = pS M w t := by
  unfold pS
  rw [e 4 (by decide), e 11 (by decide)]
theorem pN_of {M M' : xM} (e : ∀ a, a < 15 → M' a = M a) (w t : Nat) : pN M' w t = pN M w t := by
  unfold pN
  rw [e 5 (by decide), e 11 (by decide), e 12 (by decide)]
/-- the phrase t of the word w is given -/
def gvn (M : xM) (w t : Nat) : xM := xup (xup (xup M 15 (xup (M 15) w t)) 16 (xup (M 16) w (pS M w t))) 17 (xup (M 17) w (pN M w t))
theorem gvn_low {M : xM} {w t a : Nat} (h : a < 15 ∨ 17 < a) : gvn M w t a = M a := by
  unfold gvn
  rw [xup_ne (by omega), xup_ne (by omega), xup_ne (by omega)]
set_option maxRecDepth 100000 in
theorem c_give {M : xM} {Q : Option xV → xM → Prop} {w t : Nat} (hw : wOk M) (ht : tbOk M) (h : ((w : Int) < M 3 2 ∧ (t : Int) < M 10 2) ∧ Q none (gvn M w t)) : xm 4 m_Tongue_give [xR (some 2), xI w, xI t] M Q := by
  obtain ⟨⟨h1, h2⟩, h3⟩ := h
  obtain ⟨w1, w2, w3⟩ := id hw
  unfold gvn at h3
  have e1 : ∀ a, a < 15 → (xup M 15 (xup (M 15) w (t : Int))) a = M a := fun a ha => xup_ne (by omega)
  have e2 : ∀ (x : Nat → Int) a, a < 15 → (xup (xup M 15 (xup (M 15) w (t : Int))) 16 x) a = M a := fun x a ha => by rw [xup_ne (by omega), xup_ne (by omega)]
  (refine xm_of (own := "DrumTongue$Tongue") rfl (by decide +kernel) tk_Tongue [some (xR (some 2)), some (xI (w : Int)), some (xI (t : Int))] (Nat.le_of_ble_eq_true rfl) rfl ?_; intro D nx X C P hW)
  refine xg hW k_Tongue_give [] 40 ?_
  ((repeat' (first | (with_reducible refine And.intro ?_ ?_) | (intro h0; exact absurd h0 (by decide)) | (intro _) | ((conv => whnf); (first | (with_reducible refine And.intro ?_ ?_) | (intro h0; exact absurd h0 (by decide)) | (intro _))))); (all_goals (try omega)); (all_goals (try exact Nat.le_of_ble_eq_true rfl)); (all_goals (try ((conv => whnf); (first | (refine hW.2.1 _ _ ?_) | (change X _ _ _ _ _ _) | (change C _ _ _ _ _ _ _))))); (all_goals (try simp only [xup_at, xup_ne, xup_up, ne_eq, Nat.reduceEqDiff, not_false_eq_true, Int.toNat_natCast] at *)); (all_goals (try omega)))
  refine hW.1 _ _ _ _ _ _ (c_sizeWith (wOk_of (fun a ha => e1 a (by omega)) hw) (tbOk_of (fun a _ ha => e1 a ha) ht) ⟨?_, ?_⟩) (by decide) (by decide) (Nat.le_of_ble_eq_true rfl)
  · rw [e1 3 (by decide), e1 10 (by decide)]
    exact ⟨h1, h2⟩
  rw [pS_of e1]
  ((repeat' (first | (with_reducible refine And.intro ?_ ?_) | (intro h0; exact absurd h0 (by decide)) | (intro _) | ((conv => whnf); (first | (with_reducible refine And.intro ?_ ?_) | (intro h0; exact absurd h0 (by decide)) | (intro _))))); (all_goals (try omega)); (all_goals (try exact Nat.le_of_ble_eq_true rfl)); (all_goals (try ((conv => whnf); (first | (refine hW.2.1 _ _ ?_) | (change X _ _ _ _ _ _) | (change C _ _ _ _ _ _ _))))); (all_goals (try simp only [xup_at, xup_ne, xup_up, ne_eq, Nat.reduceEqDiff, not_false_eq_true, Int.toNat_natCast] at *)); (all_goals (try omega)))
  refine hW.1 _ _ _ _ _ _ (c_numberWith (wOk_of (fun a ha => e2 _ a (by omega)) hw) (tbOk_of (fun a _ ha => e2 _ a ha) ht) ⟨?_, ?_⟩) (by decide) (by decide) (Nat.le_of_ble_eq_true rfl)
  · rw [e2 _ 3 (by decide), e2 _ 10 (by decide)]
    exact ⟨h1, h2⟩
  rw [pN_of (e2 _)]
  ((repeat' (first | (with_reducible refine And.intro ?_ ?_) | (intro h0; exact absurd h0 (by decide)) | (intro _) | ((conv => whnf); (first | (with_reducible refine And.intro ?_ ?_) | (intro h0; exact absurd h0 (by decide)) | (intro _))))); (all_goals (try omega)); (all_goals (try exact Nat.le_of_ble_eq_true rfl)); (all_goals (try ((conv => whnf); (first | (refine hW.2.1 _ _ ?_) | (change X _ _ _ _ _ _) | (change C _ _ _ _ _ _ _))))); (all_goals (try simp only [xup_at, xup_ne, xup_up, ne_eq, Nat.reduceEqDiff, not_false_eq_true, Int.toNat_natCast] at *)); (all_goals (try omega)))
  all_goals exact h3
/-- the phrase t of the word w stands apart from all ahead -/
def frA (M : xM) (w t : Nat) : Prop := allApart M (pS M w t) (pN M w t) (M 2 6)
set_option maxRecDepth 100000 in
theorem c_firstTail {M : xM} {Q : Option xV → xM → Prop} {w : Nat} (hw : wOk M) (ht : tbOk M) (ha : aheadOk M) (hb : 1 ≤ M 2 6 ∧ M 2 6 ≤ 9) (h1 : (w : Int) < M 3 2) (hy : ∀ t : Nat, (t : Int) < M 10 2 → frA M w t → (∀ j, j < t → ¬ frA M w j) → Q (some (xI t)) M) (hn : (∀ t : Nat, (t : Int) < M 10 2 → ¬ frA M w t) → Q (some (xI (-1))) M) : xm 5 m_Tongue_firstTailApart [xR (some 2), xI w] M Q := by
  obtain ⟨w1, w2, w3⟩ := id hw
  obtain ⟨t1, t2, t3⟩ := id ht
  (refine xm_of (own := "DrumTongue$Tongue") rfl (by decide +kernel) tk_Tongue [some (xR (some 2)), some (xI (w : Int)), none] (Nat.le_of_ble_eq_true rfl) rfl ?_; intro D nx X C P hW)
  have loop : ∀ (m i : Nat), (i : Int) + m = M 10 2 → (∀ j, j < i → ¬ frA M w j) → X 2 [some (xR (some 2)), some (xI (w : Int)), some (xI (i : Int))] [] (M, D, nx) 0 0 := by
    intro m
    induction m with
    | zero =>
      intro i hi hall
      refine xg hW k_Tongue_firstTailApart [2] 40 ?_
      ((repeat' (first | (with_reducible refine And.intro ?_ ?_) | (intro h0; exact absurd h0 (by decide)) | (intro _) | ((conv => whnf); (first | (with_reducible refine And.intro ?_ ?_) | (intro h0; exact absurd h0 (by decide)) | (intro _) | (refine hW.1 _ _ _ _ _ _ (c_Tails_used ?_) (by first | decide | omega) (by decide) (Nat.le_of_ble_eq_true rfl)))))); (all_goals (try omega)); (all_goals (try exact Nat.le_of_ble_eq_true rfl)); (all_goals (try ((conv => whnf); (first | (refine hW.2.1 _ _ ?_) | (change X _ _ _ _ _ _) | (change C _ _ _ _ _ _ _))))); (all_goals (try simp only [xup_at, xup_ne, xup_up, ne_eq, Nat.reduceEqDiff, not_false_eq_true, Int.toNat_natCast] at *)); (all_goals (try omega)))
      exact hn fun t ht => hall t (by omega)
    | succ m ih =>
      intro i hi hall
      have hB := (pB hw ht h1 (show (i : Int) < M 10 2 by omega)).2
      refine xg hW k_Tongue_firstTailApart [2] 40 ?_
      ((repeat' (first | (with_reducible refine And.intro ?_ ?_) | (intro h0; exact absurd h0 (by decide)) | (intro _) | ((conv => whnf); (first | (with_reducible refine And.intro ?_ ?_) | (intro h0; exact absurd h0 (by decide)) | (intro _) | (refine hW.1 _ _ _ _ _ _ (c_Tails_used ?_) (by first | decide | omega) (by decide) (Nat.le_of_ble_eq_true rfl)) | (refine hW.1 _ _ _ _ _ _ (c_sizeWith hw ht ?_) (by first | decide | omega) (by decide) (Nat.le_of_ble_eq_true rfl)) | (refine hW.1 _ _ _ _ _ _ (c_numberWith hw ht ?_) (by first | decide | omega) (by decide) (Nat.le_of_ble_eq_true rfl)) | (refine hW.1 _ _ _ _ _ _ (c_allApartY ha hB ?_) (by first | decide | omega) (by decide) (Nat.le_of_ble_eq_true rfl)))))); (all_goals (try omega)); (all_goals (try exact Nat.le_of_ble_eq_true rfl)); (all_goals (try ((conv => whnf); (first | (refine hW.2.1 _ _ ?_) | (change X _ _ _ _ _ _) | (change C _ _ _ _ _ _ _))))); (all_goals (try simp only [xup_at, xup_ne, xup_up, ne_eq, Nat.reduceEqDiff, not_false_eq_true, Int.toNat_natCast] at *)); (all_goals (try omega)))
      · rename_i hf _
        exact hy i (by omega) hf hall
      · rename_i hf _
        refine ih (i + 1) (by omega) fun j hj => ?_
        rcases Nat.lt_or_ge j i with q | q
        · exact hall j q
        · rw [show j = i by omega]
          exact hf
  refine xg hW k_Tongue_firstTailApart [2] 40 ?_
  ((repeat' (first | (with_reducible refine And.intro ?_ ?_) | (intro h0; exact absurd h0 (by decide)) | (intro _) | ((conv => whnf); (first | (with_reducible refine And.intro ?_ ?_) | (intro h0; exact absurd h0 (by decide)) | (intro _))))); (all_goals (try omega)); (all_goals (try exact Nat.le_of_ble_eq_true rfl)); (all_goals (try ((conv => whnf); (first | (refine hW.2.1 _ _ ?_) | (change X _ _ _ _ _ _) | (change C _ _ _ _ _ _ _))))); (all_goals (try simp only [xup_at, xup_ne, xup_up, ne_eq, Nat.reduceEqDiff, not_false_eq_true, Int.toNat_natCast] at *)); (all_goals (try omega)))
  exact loop (M 10 2).toNat 0 (by omega) fun j hj => by omega
