/-! words and endings that come, the bound that changes; the digest of the words -/
def goneM (M : xM) : xM := xup M 15 (xfill (M 15) 10 (-1))
set_option maxRecDepth 100000 in
theorem c_addWord {M : xM} {Q : Option xV → xM → Prop} {n b : Int} (h : (0 ≤ M 3 2 ∧ M 3 2 ≤ 10) ∧ (M 3 2 = 10 → Q (some (xI (-4))) M) ∧ (M 3 2 < 10 → Q (some (xI (M 3 2))) (goneM (rAdd_W M n b)))) : xm 5 m_Tongue_addWord [xR (some 2), xI n, xI b] M Q := by
  obtain ⟨⟨h1, h2⟩, h3, h4⟩ := h
  (refine xm_of (own := "DrumTongue$Tongue") rfl (by decide +kernel) tk_Tongue [some (xR (some 2)), some (xI n), some (xI b)] (Nat.le_of_ble_eq_true rfl) rfl ?_; intro D nx X C P hW)
  refine xg hW k_Tongue_addWord [] 40 ?_
  ((repeat' (first | (with_reducible refine And.intro ?_ ?_) | (intro h0; exact absurd h0 (by decide)) | (intro _) | ((conv => whnf); (first | (with_reducible refine And.intro ?_ ?_) | (intro h0; exact absurd h0 (by decide)) | (intro _) | (refine hW.1 _ _ _ _ _ _ (c_isFull_W ?_) (by first | decide | omega) (by decide) (Nat.le_of_ble_eq_true rfl)) | (refine hW.1 _ _ _ _ _ _ (c_add_W ?_) (by first | decide | omega) (by decide) (Nat.le_of_ble_eq_true rfl)) | (refine hW.1 _ _ _ _ _ _ (c_forget ?_) (by first | decide | omega) (by decide) (Nat.le_of_ble_eq_true rfl)) | (refine hW.1 _ _ _ _ _ _ (c_used_W ?_) (by first | decide | omega) (by decide) (Nat.le_of_ble_eq_true rfl)))))); (all_goals (try omega)); (all_goals (try exact Nat.le_of_ble_eq_true rfl)); (all_goals (try ((conv => whnf); (first | (refine hW.2.1 _ _ ?_) | (change X _ _ _ _ _ _) | (change C _ _ _ _ _ _ _))))); (all_goals (try simp only [xup_at, xup_ne, xup_up, ne_eq, Nat.reduceEqDiff, not_false_eq_true, Int.toNat_natCast] at *)); (all_goals (try omega)))
  all_goals first | exact h3 (by omega) | skip
  have e : rAdd_W M n b 3 2 = M 3 2 + 1 := by
    unfold rAdd_W
    simp only [xup_at, xup_ne, xup_up, ne_eq, Nat.reduceEqDiff, not_false_eq_true, Int.toNat_natCast]
  have h5 := h4 (by omega)
  unfold goneM at h5
  exact xq h5 (by omega)
set_option maxRecDepth 100000 in
theorem c_changeBound {M : xM} {Q : Option xV → xM → Prop} {v : Int} (h : Q (some (xI (M 2 6))) (goneM (xup M 2 (xup (M 2) 6 v)))) : xm 5 m_Tongue_changeBound [xR (some 2), xI v] M Q := by
  unfold goneM at h
  (refine xm_of (own := "DrumTongue$Tongue") rfl (by decide +kernel) tk_Tongue [some (xR (some 2)), some (xI v), none] (Nat.le_of_ble_eq_true rfl) rfl ?_; intro D nx X C P hW)
  refine xg hW k_Tongue_changeBound [] 40 ?_
  ((repeat' (first | (with_reducible refine And.intro ?_ ?_) | (intro h0; exact absurd h0 (by decide)) | (intro _) | ((conv => whnf); (first | (with_reducible refine And.intro ?_ ?_) | (intro h0; exact absurd h0 (by decide)) | (intro _) | (refine hW.1 _ _ _ _ _ _ (c_forget ?_) (by first | decide | omega) (by decide) (Nat.le_of_ble_eq_true rfl)))))); (all_goals (try omega)); (all_goals (try exact Nat.le_of_ble_eq_true rfl)); (all_goals (try ((conv => whnf); (first | (refine hW.2.1 _ _ ?_) | (change X _ _ _ _ _ _) | (change C _ _ _ _ _ _ _))))); (all_goals (try simp only [xup_at, xup_ne, xup_up, ne_eq, Nat.reduceEqDiff, not_false_eq_true, Int.toNat_natCast] at *)); (all_goals (try omega)))
  all_goals exact h
set_option maxRecDepth 100000 in
theorem c_addEnding {M : xM} {Q : Option xV → xM → Prop} {n b : Int} (he : eOk M) (ht : tl0 M) (hr : isRow n b) (h3 : M 6 2 = 5 → Q (some (xI (-4))) M) (h4 : M 6 2 < 5 → ∀ M', TR (rAdd_E M n b) (tls (rAdd_E M n b 7) (rAdd_E M n b 6 2).toNat 12) M' → Q (some (xI (M 6 2))) (goneM M')) : xm 7 m_Tongue_addEnding [xR (some 2), xI n, xI b] M Q := by
  obtain ⟨h1, h2, h5⟩ := id he
  have e6 : rAdd_E M n b 6 2 = M 6 2 + 1 := by
    unfold rAdd_E
    simp only [xup_at, xup_ne, xup_up, ne_eq, Nat.reduceEqDiff, not_false_eq_true, Int.toNat_natCast]
  have e7 : rAdd_E M n b 7 = xup (M 7) (M 6 2).toNat n := by
    unfold rAdd_E
    simp only [xup_at, xup_ne, xup_up, ne_eq, Nat.reduceEqDiff, not_false_eq_true, Int.toNat_natCast]
  have e8 : rAdd_E M n b 8 = xup (M 8) (M 6 2).toNat b := by
    unfold rAdd_E
    simp only [xup_at, xup_ne, xup_up, ne_eq, Nat.reduceEqDiff, not_false_eq_true, Int.toNat_natCast]
  have el : ∀ a, 9 ≤ a → rAdd_E M n b a = M a := fun a ha => by
    unfold rAdd_E
    rw [xup_ne (by omega), xup_ne (by omega), xup_ne (by omega)]
  have ht' : tl0 (rAdd_E M n b) := by
    unfold tl0
    rw [el 10 (by decide), el 11 (by decide), el 12 (by decide), el 13 (by decide), el 14 (by decide)]
    exact ht
  (refine xm_of (own := "DrumTongue$Tongue") rfl (by decide +kernel) tk_Tongue [some (xR (some 2)), some (xI n), some (xI b)] (Nat.le_of_ble_eq_true rfl) rfl ?_; intro D nx X C P hW)
  refine xg hW k_Tongue_addEnding [] 40 ?_
  ((repeat' (first | (with_reducible refine And.intro ?_ ?_) | (intro h0; exact absurd h0 (by decide)) | (intro _) | ((conv => whnf); (first | (with_reducible refine And.intro ?_ ?_) | (intro h0; exact absurd h0 (by decide)) | (intro _) | (refine hW.1 _ _ _ _ _ _ (c_isFull_E ?_) (by first | decide | omega) (by decide) (Nat.le_of_ble_eq_true rfl)) | (refine hW.1 _ _ _ _ _ _ (c_add_E ?_) (by first | decide | omega) (by decide) (Nat.le_of_ble_eq_true rfl)))))); (all_goals (try omega)); (all_goals (try exact Nat.le_of_ble_eq_true rfl)); (all_goals (try ((conv => whnf); (first | (refine hW.2.1 _ _ ?_) | (change X _ _ _ _ _ _) | (change C _ _ _ _ _ _ _))))); (all_goals (try simp only [xup_at, xup_ne, xup_up, ne_eq, Nat.reduceEqDiff, not_false_eq_true, Int.toNat_natCast] at *)); (all_goals (try omega)))
  all_goals first | exact h3 (by omega) | skip
  have he' : eOk (rAdd_E M n b) := by
    refine ⟨by omega, by omega, fun i hi => ?_⟩
    rw [e7, e8]
    by_cases q : i = (M 6 2).toNat
    · rw [q, xup_at, xup_at]
      exact hr
    · rw [xup_ne q, xup_ne q]
      exact h5 i (by omega)
  refine hW.1 _ _ _ _ _ _ (c_remake he' ht' fun M2 hT2 => ?_) (by decide) (by decide) (Nat.le_of_ble_eq_true rfl)
  have e2 : M2 6 2 = M 6 2 + 1 := by rw [TR_low hT2 6 (by decide), e6]
  have h6 := h4 (by omega) M2 hT2
  unfold goneM at h6
  ((repeat' (first | (with_reducible refine And.intro ?_ ?_) | (intro h0; exact absurd h0 (by decide)) | (intro _) | ((conv => whnf); (first | (with_reducible refine And.intro ?_ ?_) | (intro h0; exact absurd h0 (by decide)) | (intro _) | (refine hW.1 _ _ _ _ _ _ (c_forget ?_) (by first | decide | omega) (by decide) (Nat.le_of_ble_eq_true rfl)) | (refine hW.1 _ _ _ _ _ _ (c_used_E ?_) (by first | decide | omega) (by decide) (Nat.le_of_ble_eq_true rfl)))))); (all_goals (try omega)); (all_goals (try exact Nat.le_of_ble_eq_true rfl)); (all_goals (try ((conv => whnf); (first | (refine hW.2.1 _ _ ?_) | (change X _ _ _ _ _ _) | (change C _ _ _ _ _ _ _))))); (all_goals (try simp only [xup_at, xup_ne, xup_up, ne_eq, Nat.reduceEqDiff, not_false_eq_true, Int.toNat_natCast] at *)); (all_goals (try omega)))
  exact xq h6 (by omega)
/-- the beats of a row, mixed into h -/
def mixB (s n h : Int) : Nat → Int
  | 0 => h
  | k + 1 => 31 * mixB s n h k + btOf s n k
/-- a word without a phrase, a word with one -/
def mixW (c s n a b : Int) (h : Int) : Int := if c = -1 then 31 * (31 * (31 * h + -1) + -1) + -1 else 31 * (31 * mixB s n (31 * h + s) s.toNat + a) + b
/-- the words below k -/
def mixWs (c s n a b : Nat → Int) (h : Int) : Nat → Int
  | 0 => h
  | k + 1 => mixW (c k) (s k) (n k) (a (c k).toNat) (b (c k).toNat) (mixWs c s n a b h k)
set_option maxRecDepth 100000 in
set_option maxHeartbeats 4000000 in
theorem c_mixTongue {M : xM} {Q : Option xV → xM → Prop} {h : Int} (hw : 0 ≤ M 3 2 ∧ M 3 2 ≤ 10) (ht : 0 ≤ M 10 2 ∧ M 10 2 ≤ 31) (hp : phOk M) (hg : gvOk M) (hab : ∀ t : Nat, (t : Int) < M 10 2 → xrg (M 13 t) ∧ xrg (M 14 t)) (hq : Q (some (xJ (mixWs (M 15) (M 16) (M 17) (M 13) (M 14) h (M 3 2).toNat))) M) : xm 4 m_Tongue_mixInto [xR (some 2), xJ h] M Q := by
  (refine xm_of (own := "DrumTongue$Tongue") rfl (by decide +kernel) tk_Tongue [some (xR (some 2)), some (xJ h), none, none, none, none, none, none] (Nat.le_of_ble_eq_true rfl) rfl ?_; intro D nx X C P hW)
  obtain ⟨n, hn⟩ := Int.eq_ofNat_of_zero_le hw.1
  rw [show (M 3 2).toNat = n by omega] at hq
  have inner : ∀ (m k w : Nat) (g : Int), w < 10 → M 15 w ≠ -1 → (k : Int) + m = M 16 w → X 80 [some (xR (some 2)), some (xJ h), none, some (xJ (mixB (M 16 w) (M 17 w) g (M 16 w).toNat)), none, some (xI (w : Int)), some (xI (M 16 w)), some (xI (M 16 w))] [] (M, D, nx) 0 0 → X 51 [some (xR (some 2)), some (xJ h), none, some (xJ (mixB (M 16 w) (M 17 w) g k)), none, some (xI (w : Int)), some (xI (M 16 w)), some (xI (k : Int))] [] (M, D, nx) 0 0 := by
    intro m
    induction m with
    | zero =>
      intro k w g hw10 hc hk kk
      obtain ⟨p0, p2, p3, p4, p5⟩ := (hp w hw10).2.2 hc
      refine xg hW k_Tongue_mixInto [5, 51, 80] 40 ?_
      ((repeat' (first | (with_reducible refine And.intro ?_ ?_) | (intro h0; exact absurd h0 (by decide)) | (intro _) | ((conv => whnf); (first | (with_reducible refine And.intro ?_ ?_) | (intro h0; exact absurd h0 (by decide)) | (intro _))))); (all_goals (try omega)); (all_goals (try exact Nat.le_of_ble_eq_true rfl)); (all_goals (try ((conv => whnf); (first | (refine hW.2.1 _ _ ?_) | (change X _ _ _ _ _ _) | (change C _ _ _ _ _ _ _))))); (all_goals (try simp only [xup_at, xup_ne, xup_up, ne_eq, Nat.reduceEqDiff, not_false_eq_true, Int.toNat_natCast] at *)); (all_goals (try omega)))
      have e : M 16 w = (k : Int) := by omega
      rw [show (M 16 w).toNat = k by omega, e] at kk
      rw [e]
      exact kk
    | succ m ih =>
      intro k w g hw10 hc hk kk
      obtain ⟨p0, p2, p3, p4, p5⟩ := (hp w hw10).2.2 hc
      have b1 := btOf_rg (M 16 w) (M 17 w) k
      refine xg hW k_Tongue_mixInto [5, 51, 80] 40 ?_
      ((repeat' (first | (with_reducible refine And.intro ?_ ?_) | (intro h0; exact absurd h0 (by decide)) | (intro _) | ((conv => whnf); (first | (with_reducible refine And.intro ?_ ?_) | (intro h0; exact absurd h0 (by decide)) | (intro _) | (refine hW.1 _ _ _ _ _ _ (c_phraseBeatY hp ?_) (by first | decide | omega) (by decide) (Nat.le_of_ble_eq_true rfl)))))); (all_goals (try omega)); (all_goals (try exact Nat.le_of_ble_eq_true rfl)); (all_goals (try ((conv => whnf); (first | (refine hW.2.1 _ _ ?_) | (change X _ _ _ _ _ _) | (change C _ _ _ _ _ _ _))))); (all_goals (try simp only [xup_at, xup_ne, xup_up, ne_eq, Nat.reduceEqDiff, not_false_eq_true, Int.toNat_natCast] at *)); (all_goals (try omega)))
      exact ih (k + 1) w g hw10 hc (by omega) kk
  have loop : ∀ (m k : Nat) (v6 v7 : Option xV), k + m = n → X 5 [some (xR (some 2)), some (xJ h), none, some (xJ (mixWs (M 15) (M 16) (M 17) (M 13) (M 14) h k)), none, some (xI (k : Int)), v6, v7] [] (M, D, nx) 0 0 := by
    intro m
    induction m with
    | zero =>
      intro k v6 v7 hk
      refine xg hW k_Tongue_mixInto [5, 51, 80] 40 ?_
      ((repeat' (first | (with_reducible refine And.intro ?_ ?_) | (intro h0; exact absurd h0 (by decide)) | (intro _) | ((conv => whnf); (first | (with_reducible refine And.intro ?_ ?_) | (intro h0; exact absurd h0 (by decide)) | (intro _) | (refine hW.1 _ _ _ _ _ _ (c_used_W ?_) (by first | decide | omega) (by decide) (Nat.le_of_ble_eq_true rfl)))))); (all_goals (try omega)); (all_goals (try exact Nat.le_of_ble_eq_true rfl)); (all_goals (try ((conv => whnf); (first | (refine hW.2.1 _ _ ?_) | (change X _ _ _ _ _ _) | (change C _ _ _ _ _ _ _))))); (all_goals (try simp only [xup_at, xup_ne, xup_up, ne_eq, Nat.reduceEqDiff, not_false_eq_true, Int.toNat_natCast] at *)); (all_goals (try omega)))
      obtain rfl : k = n := by omega
      exact hq
    | succ m ih =>
      intro k v6 v7 hk
      by_cases hc : M 15 k = -1
      · have h1 := ih (k + 1)
        rw [mixWs, mixW, if_pos hc] at h1
        have hlt : M 15 k < M 10 2 := by omega
        refine xg hW k_Tongue_mixInto [5, 51] 40 ?_
        ((repeat' (first | (with_reducible refine And.intro ?_ ?_) | (intro h0; exact absurd h0 (by decide)) | (intro _) | ((conv => whnf); (first | (with_reducible refine And.intro ?_ ?_) | (intro h0; exact absurd h0 (by decide)) | (intro _) | (refine hW.1 _ _ _ _ _ _ (c_used_W ?_) (by first | decide | omega) (by decide) (Nat.le_of_ble_eq_true rfl)) | (refine hW.1 _ _ _ _ _ _ (c_phraseSize hp ?_) (by first | decide | omega) (by decide) (Nat.le_of_ble_eq_true rfl)) | (refine hW.1 _ _ _ _ _ _ (c_hasPhraseI hp ?_) (by first | decide | omega) (by decide) (Nat.le_of_ble_eq_true rfl)))))); (all_goals (try omega)); (all_goals (try exact Nat.le_of_ble_eq_true rfl)); (all_goals (try ((conv => whnf); (first | (refine hW.2.1 _ _ ?_) | (change X _ _ _ _ _ _) | (change C _ _ _ _ _ _ _))))); (all_goals (try simp only [xup_at, xup_ne, xup_up, ne_eq, Nat.reduceEqDiff, not_false_eq_true, Int.toNat_natCast] at *)); (all_goals (try omega)))
        all_goals first | exact absurd hc (by assumption) | skip
        refine xg hW k_Tongue_mixInto [5, 51] 40 ?_
        ((repeat' (first | (with_reducible refine And.intro ?_ ?_) | (intro h0; exact absurd h0 (by decide)) | (intro _) | ((conv => whnf); (first | (with_reducible refine And.intro ?_ ?_) | (intro h0; exact absurd h0 (by decide)) | (intro _) | (refine hW.1 _ _ _ _ _ _ (c_phraseEnding hp ht ?_) (by first | decide | omega) (by decide) (Nat.le_of_ble_eq_true rfl)))))); (all_goals (try omega)); (all_goals (try exact Nat.le_of_ble_eq_true rfl)); (all_goals (try ((conv => whnf); (first | (refine hW.2.1 _ _ ?_) | (change X _ _ _ _ _ _) | (change C _ _ _ _ _ _ _))))); (all_goals (try simp only [xup_at, xup_ne, xup_up, ne_eq, Nat.reduceEqDiff, not_false_eq_true, Int.toNat_natCast] at *)); (all_goals (try omega)))
        all_goals first | exact absurd hc (by assumption) | skip
        exact h1 _ _ (by omega)
      · have h1 := ih (k + 1)
        rw [mixWs, mixW, if_neg hc] at h1
        obtain ⟨p0, p2, p3, p4, p5⟩ := (hp k (by omega)).2.2 hc
        obtain ⟨g1, t, g2, g3, g4, g5⟩ := (hg k (by omega)).resolve_left hc
        obtain ⟨⟨x1, x2⟩, x3, x4⟩ := hab (M 15 k).toNat (by omega)
        have hlt : M 15 k < M 10 2 := by omega
        refine xg hW k_Tongue_mixInto [5, 51] 40 ?_
        ((repeat' (first | (with_reducible refine And.intro ?_ ?_) | (intro h0; exact absurd h0 (by decide)) | (intro _) | ((conv => whnf); (first | (with_reducible refine And.intro ?_ ?_) | (intro h0; exact absurd h0 (by decide)) | (intro _) | (refine hW.1 _ _ _ _ _ _ (c_used_W ?_) (by first | decide | omega) (by decide) (Nat.le_of_ble_eq_true rfl)) | (refine hW.1 _ _ _ _ _ _ (c_phraseSizeY hp ?_) (by first | decide | omega) (by decide) (Nat.le_of_ble_eq_true rfl)) | (refine hW.1 _ _ _ _ _ _ (c_hasPhraseY hp ?_) (by first | decide | omega) (by decide) (Nat.le_of_ble_eq_true rfl)))))); (all_goals (try omega)); (all_goals (try exact Nat.le_of_ble_eq_true rfl)); (all_goals (try ((conv => whnf); (first | (refine hW.2.1 _ _ ?_) | (change X _ _ _ _ _ _) | (change C _ _ _ _ _ _ _))))); (all_goals (try simp only [xup_at, xup_ne, xup_up, ne_eq, Nat.reduceEqDiff, not_false_eq_true, Int.toNat_natCast] at *)); (all_goals (try omega)))
        refine inner (M 16 k).toNat 0 k (31 * mixWs (M 15) (M 16) (M 17) (M 13) (M 14) h k + M 16 k) (by omega) hc (by omega) ?_
        refine xg hW k_Tongue_mixInto [5, 51] 40 ?_
        ((repeat' (first | (with_reducible refine And.intro ?_ ?_) | (intro h0; exact absurd h0 (by decide)) | (intro _) | ((conv => whnf); (first | (with_reducible refine And.intro ?_ ?_) | (intro h0; exact absurd h0 (by decide)) | (intro _) | (refine hW.1 _ _ _ _ _ _ (c_phraseEnding hp ht ?_) (by first | decide | omega) (by decide) (Nat.le_of_ble_eq_true rfl)))))); (all_goals (try omega)); (all_goals (try exact Nat.le_of_ble_eq_true rfl)); (all_goals (try ((conv => whnf); (first | (refine hW.2.1 _ _ ?_) | (change X _ _ _ _ _ _) | (change C _ _ _ _ _ _ _))))); (all_goals (try simp only [xup_at, xup_ne, xup_up, ne_eq, Nat.reduceEqDiff, not_false_eq_true, Int.toNat_natCast] at *)); (all_goals (try omega)))
        exact h1 _ _ (by omega)
  refine xg hW k_Tongue_mixInto [5, 51, 80] 40 ?_
  ((repeat' (first | (with_reducible refine And.intro ?_ ?_) | (intro h0; exact absurd h0 (by decide)) | (intro _) | ((conv => whnf); (first | (with_reducible refine And.intro ?_ ?_) | (intro h0; exact absurd h0 (by decide)) | (intro _))))); (all_goals (try omega)); (all_goals (try exact Nat.le_of_ble_eq_true rfl)); (all_goals (try ((conv => whnf); (first | (refine hW.2.1 _ _ ?_) | (change X _ _ _ _ _ _) | (change C _ _ _ _ _ _ _))))); (all_goals (try simp only [xup_at, xup_ne, xup_up, ne_eq, Nat.reduceEqDiff, not_false_eq_true, Int.toNat_natCast] at *)); (all_goals (try omega)))
  exact loop n 0 none none (by omega)
