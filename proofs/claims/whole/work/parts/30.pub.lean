/-! the class's public methods -/
set_option maxRecDepth 100000 in
set_option maxHeartbeats 600000 in
theorem p_readAt {M : xM} {Q : Option xV → xM → Prop} {i : Int} (hn : 0 ≤ M 25 3 ∧ M 25 3 ≤ 12) (hi : xrg i) (h1 : 0 ≤ i → i < M 25 3 → Q (some (xI (M 26 i.toNat))) M) (h2 : i < 0 ∨ M 25 3 ≤ i → Q (some (xI (-1))) M) : xm 2 m_X_readAt [xR (some 1), xI i] M Q := by
  (refine xm_of (own := "DrumTongue") rfl (by decide +kernel) tk_X [some (xR (some 1)), some (xI i)] (Nat.le_of_ble_eq_true rfl) rfl ?_; intro D nx X C P hW)
  refine xg hW k_X_readAt [] 40 ?_
  ((repeat' (first | (with_reducible refine And.intro ?_ ?_) | (intro h0; exact absurd h0 (by decide)) | (intro _) | ((conv => whnf); (first | (with_reducible refine And.intro ?_ ?_) | (intro h0; exact absurd h0 (by decide)) | (intro _) | (refine hW.1 _ _ _ _ _ _ (c_lastAt hn ?_) (by first | decide | omega) (by decide) (Nat.le_of_ble_eq_true rfl)))))); (all_goals (try omega)); (all_goals (try exact Nat.le_of_ble_eq_true rfl)); (all_goals (try ((conv => whnf); (first | (refine hW.2.1 _ _ ?_) | (change X _ _ _ _ _ _) | (change C _ _ _ _ _ _ _))))); (all_goals (try simp only [xup_at, xup_ne, xup_up, ne_eq, Nat.reduceEqDiff, not_false_eq_true, Int.toNat_natCast, x_lcmp] at *)); (all_goals (try omega)))
  all_goals first | exact hi | exact h1 (by omega) (by omega) | exact h2 (by omega)
set_option maxRecDepth 100000 in
set_option maxHeartbeats 600000 in
theorem p_hush {M : xM} {Q : Option xV → xM → Prop} (h : Q (some (xI (M 23 1))) (xup M 23 (xup (M 23) 1 0))) : xm 2 m_X_hush [xR (some 1)] M Q := by
  (refine xm_of (own := "DrumTongue") rfl (by decide +kernel) tk_X [some (xR (some 1))] (Nat.le_of_ble_eq_true rfl) rfl ?_; intro D nx X C P hW)
  refine xg hW k_X_hush [] 40 ?_
  ((repeat' (first | (with_reducible refine And.intro ?_ ?_) | (intro h0; exact absurd h0 (by decide)) | (intro _) | ((conv => whnf); (first | (with_reducible refine And.intro ?_ ?_) | (intro h0; exact absurd h0 (by decide)) | (intro _) | (refine hW.1 _ _ _ _ _ _ (c_earEmpty ?_) (by first | decide | omega) (by decide) (Nat.le_of_ble_eq_true rfl)))))); (all_goals (try omega)); (all_goals (try exact Nat.le_of_ble_eq_true rfl)); (all_goals (try ((conv => whnf); (first | (refine hW.2.1 _ _ ?_) | (change X _ _ _ _ _ _) | (change C _ _ _ _ _ _ _))))); (all_goals (try simp only [xup_at, xup_ne, xup_up, ne_eq, Nat.reduceEqDiff, not_false_eq_true, Int.toNat_natCast, x_lcmp] at *)); (all_goals (try omega)))
  all_goals exact h
set_option maxRecDepth 100000 in
set_option maxHeartbeats 600000 in
theorem p_hear {M : xM} {Q : Option xV → xM → Prop} {v : Int} (hn : 0 ≤ M 23 1 ∧ M 23 1 ≤ 60) (hv : xrg v) (h1 : v < -1 ∨ 1 < v → Q (some (xI (-2))) M) (h2 : -1 ≤ v → v ≤ 1 → 60 ≤ M 23 1 → Q (some (xI (-4))) M) (h3 : -1 ≤ v → v ≤ 1 → M 23 1 < 60 → Q (some (xI (M 23 1 + 1))) (earAdd M v)) : xm 2 m_X_hear [xR (some 1), xI v] M Q := by
  have hv1 := hv.1
  have hv2 := hv.2
  (refine xm_of (own := "DrumTongue") rfl (by decide +kernel) tk_X [some (xR (some 1)), some (xI v)] (Nat.le_of_ble_eq_true rfl) rfl ?_; intro D nx X C P hW)
  refine xg hW k_X_hear [] 40 ?_
  ((repeat' (first | (with_reducible refine And.intro ?_ ?_) | (intro h0; exact absurd h0 (by decide)) | (intro _) | ((conv => whnf); (first | (with_reducible refine And.intro ?_ ?_) | (intro h0; exact absurd h0 (by decide)) | (intro _) | (refine hW.1 _ _ _ _ _ _ (c_earRoom ?_) (by first | decide | omega) (by decide) (Nat.le_of_ble_eq_true rfl)) | (refine hW.1 _ _ _ _ _ _ (c_earAdd ?_) (by first | decide | omega) (by decide) (Nat.le_of_ble_eq_true rfl)))))); (all_goals (try omega)); (all_goals (try exact Nat.le_of_ble_eq_true rfl)); (all_goals (try ((conv => whnf); (first | (refine hW.2.1 _ _ ?_) | (change X _ _ _ _ _ _) | (change C _ _ _ _ _ _ _))))); (all_goals (try simp only [xup_at, xup_ne, xup_up, ne_eq, Nat.reduceEqDiff, not_false_eq_true, Int.toNat_natCast, x_lcmp] at *)); (all_goals (try omega)))
  all_goals first | exact h1 (by omega) | exact h2 (by omega) (by omega) (by omega) | exact h3 (by omega) (by omega) (by omega) | trace_state
set_option maxRecDepth 100000 in
set_option maxHeartbeats 600000 in
theorem p_length {M : xM} {Q : Option xV → xM → Prop} {w : Int} (hp : phOk M) (hk : 0 ≤ M 3 2 ∧ M 3 2 ≤ 10) (hw : xrg w) (h1 : w < 0 ∨ M 3 2 ≤ w → Q (some (xI (-2))) M) (h2 : 0 ≤ w → w < M 3 2 → M 15 w.toNat = -1 → Q (some (xI (-1))) M) (h3 : 0 ≤ w → w < M 3 2 → M 15 w.toNat ≠ -1 → Q (some (xI (M 16 w.toNat))) M) : xm 3 m_X_length [xR (some 1), xI w] M Q := by
  have hw1 := hw.1
  have hw2 := hw.2
  (refine xm_of (own := "DrumTongue") rfl (by decide +kernel) tk_X [some (xR (some 1)), some (xI w)] (Nat.le_of_ble_eq_true rfl) rfl ?_; intro D nx X C P hW)
  refine xg hW k_X_length [] 40 ?_
  ((repeat' (first | (with_reducible refine And.intro ?_ ?_) | (intro h0; exact absurd h0 (by decide)) | (intro _) | ((conv => whnf); (first | (with_reducible refine And.intro ?_ ?_) | (intro h0; exact absurd h0 (by decide)) | (intro _) | (refine hW.1 _ _ _ _ _ _ (c_isWord ?_) (by first | decide | omega) (by decide) (Nat.le_of_ble_eq_true rfl)) | (refine hW.1 _ _ _ _ _ _ (c_hasPhraseI hp ?_) (by first | decide | omega) (by decide) (Nat.le_of_ble_eq_true rfl)) | (refine hW.1 _ _ _ _ _ _ (c_phraseSizeY hp ?_) (by first | decide | omega) (by decide) (Nat.le_of_ble_eq_true rfl)))))); (all_goals (try omega)); (all_goals (try exact Nat.le_of_ble_eq_true rfl)); (all_goals (try ((conv => whnf); (first | (refine hW.2.1 _ _ ?_) | (change X _ _ _ _ _ _) | (change C _ _ _ _ _ _ _))))); (all_goals (try simp only [xup_at, xup_ne, xup_up, ne_eq, Nat.reduceEqDiff, not_false_eq_true, Int.toNat_natCast, x_lcmp] at *)); (all_goals (try omega)))
  all_goals first | exact h1 (by omega) | exact h2 (by omega) (by omega) (by assumption) | exact h3 (by omega) (by omega) (by assumption) | trace_state
set_option maxRecDepth 100000 in
set_option maxHeartbeats 600000 in
theorem p_beat {M : xM} {Q : Option xV → xM → Prop} {w i : Int} (hp : phOk M) (hk : 0 ≤ M 3 2 ∧ M 3 2 ≤ 10) (hw : xrg w) (hi : xrg i) (h1 : w < 0 ∨ M 3 2 ≤ w → Q (some (xI (-2))) M) (h2 : 0 ≤ w → w < M 3 2 → M 15 w.toNat = -1 ∨ i < 0 ∨ M 16 w.toNat ≤ i → Q (some (xI (-1))) M) (h3 : 0 ≤ w → w < M 3 2 → M 15 w.toNat ≠ -1 → 0 ≤ i → i < M 16 w.toNat → Q (some (xI (btOf (M 16 w.toNat) (M 17 w.toNat) i.toNat))) M) : xm 3 m_X_beat [xR (some 1), xI w, xI i] M Q := by
  have hw1 := hw.1
  have hw2 := hw.2
  have hi1 := hi.1
  have hi2 := hi.2
  (refine xm_of (own := "DrumTongue") rfl (by decide +kernel) tk_X [some (xR (some 1)), some (xI w), some (xI i)] (Nat.le_of_ble_eq_true rfl) rfl ?_; intro D nx X C P hW)
  refine xg hW k_X_beat [] 40 ?_
  ((repeat' (first | (with_reducible refine And.intro ?_ ?_) | (intro h0; exact absurd h0 (by decide)) | (intro _) | ((conv => whnf); (first | (with_reducible refine And.intro ?_ ?_) | (intro h0; exact absurd h0 (by decide)) | (intro _) | (refine hW.1 _ _ _ _ _ _ (c_isWord ?_) (by first | decide | omega) (by decide) (Nat.le_of_ble_eq_true rfl)) | (refine hW.1 _ _ _ _ _ _ (c_phraseBeat hp ?_) (by first | decide | omega) (by decide) (Nat.le_of_ble_eq_true rfl)))))); (all_goals (try omega)); (all_goals (try exact Nat.le_of_ble_eq_true rfl)); (all_goals (try ((conv => whnf); (first | (refine hW.2.1 _ _ ?_) | (change X _ _ _ _ _ _) | (change C _ _ _ _ _ _ _))))); (all_goals (try simp only [xup_at, xup_ne, xup_up, ne_eq, Nat.reduceEqDiff, not_false_eq_true, Int.toNat_natCast, x_lcmp] at *)); (all_goals (try omega)))
  all_goals first | exact hi | exact h1 (by omega) | exact h2 (by omega) (by omega) (by assumption) | exact h3 (by omega) (by omega) (by assumption) (by assumption) (by assumption) | trace_state
set_option maxRecDepth 100000 in
set_option maxHeartbeats 600000 in
theorem p_bound {M : xM} {Q : Option xV → xM → Prop} {v : Int} (hv : xrg v) (h1 : v < 1 ∨ 9 < v → Q (some (xI (-2))) M) (h2 : 1 ≤ v → v ≤ 9 → Q (some (xI (M 2 6))) (goneM (xup M 2 (xup (M 2) 6 v)))) : xm 6 m_X_bound [xR (some 1), xI v] M Q := by
  have hv1 := hv.1
  have hv2 := hv.2
  (refine xm_of (own := "DrumTongue") rfl (by decide +kernel) tk_X [some (xR (some 1)), some (xI v)] (Nat.le_of_ble_eq_true rfl) rfl ?_; intro D nx X C P hW)
  refine xg hW k_X_bound [] 40 ?_
  ((repeat' (first | (with_reducible refine And.intro ?_ ?_) | (intro h0; exact absurd h0 (by decide)) | (intro _) | ((conv => whnf); (first | (with_reducible refine And.intro ?_ ?_) | (intro h0; exact absurd h0 (by decide)) | (intro _) | (refine hW.1 _ _ _ _ _ _ (c_changeBound ?_) (by first | decide | omega) (by decide) (Nat.le_of_ble_eq_true rfl)))))); (all_goals (try omega)); (all_goals (try exact Nat.le_of_ble_eq_true rfl)); (all_goals (try ((conv => whnf); (first | (refine hW.2.1 _ _ ?_) | (change X _ _ _ _ _ _) | (change C _ _ _ _ _ _ _))))); (all_goals (try simp only [xup_at, xup_ne, xup_up, ne_eq, Nat.reduceEqDiff, not_false_eq_true, Int.toNat_natCast, x_lcmp] at *)); (all_goals (try omega)))
  all_goals first | exact h1 (by omega) | exact h2 (by omega) (by omega) | trace_state
set_option maxRecDepth 100000 in
set_option maxHeartbeats 600000 in
theorem p_endingAt {M : xM} {Q : Option xV → xM → Prop} {w i : Int} (hp : phOk M) (ht : 0 ≤ M 10 2 ∧ M 10 2 ≤ 31) (hk : 0 ≤ M 3 2 ∧ M 3 2 ≤ 10) (hw : xrg w) (hi : xrg i) (hc : ∀ w : Nat, (w : Int) < M 3 2 → M 15 w < M 10 2) (h1 : w < 0 ∨ M 3 2 ≤ w → Q (some (xI (-2))) M) (h2 : 0 ≤ w → w < M 3 2 → M 15 w.toNat = -1 ∨ i ≠ 0 ∧ i ≠ 1 → Q (some (xI (-1))) M) (h3 : 0 ≤ w → w < M 3 2 → M 15 w.toNat ≠ -1 → i = 0 → Q (some (xI (M 13 (M 15 w.toNat).toNat))) M) (h4 : 0 ≤ w → w < M 3 2 → M 15 w.toNat ≠ -1 → i = 1 → Q (some (xI (M 14 (M 15 w.toNat).toNat))) M) : xm 4 m_X_endingAt [xR (some 1), xI w, xI i] M Q := by
  have hw1 := hw.1
  have hw2 := hw.2
  have hi1 := hi.1
  have hi2 := hi.2
  have hc1 : 0 ≤ w → w < M 3 2 → M 15 w.toNat < M 10 2 := fun a b => hc w.toNat (by omega)
  (refine xm_of (own := "DrumTongue") rfl (by decide +kernel) tk_X [some (xR (some 1)), some (xI w), some (xI i)] (Nat.le_of_ble_eq_true rfl) rfl ?_; intro D nx X C P hW)
  refine xg hW k_X_endingAt [] 40 ?_
  ((repeat' (first | (with_reducible refine And.intro ?_ ?_) | (intro h0; exact absurd h0 (by decide)) | (intro _) | ((conv => whnf); (first | (with_reducible refine And.intro ?_ ?_) | (intro h0; exact absurd h0 (by decide)) | (intro _) | (refine hW.1 _ _ _ _ _ _ (c_isWord ?_) (by first | decide | omega) (by decide) (Nat.le_of_ble_eq_true rfl)) | (refine hW.1 _ _ _ _ _ _ (c_phraseEnding hp ht ?_) (by first | decide | omega) (by decide) (Nat.le_of_ble_eq_true rfl)))))); (all_goals (try omega)); (all_goals (try exact Nat.le_of_ble_eq_true rfl)); (all_goals (try ((conv => whnf); (first | (refine hW.2.1 _ _ ?_) | (change X _ _ _ _ _ _) | (change C _ _ _ _ _ _ _))))); (all_goals (try simp only [xup_at, xup_ne, xup_up, ne_eq, Nat.reduceEqDiff, not_false_eq_true, Int.toNat_natCast, x_lcmp] at *)); (all_goals (try omega)))
  all_goals first | exact h1 (by omega) | exact hc1 (by omega) (by omega) | exact h3 (by omega) (by omega) (by assumption) (by assumption) | exact h4 (by omega) (by omega) (by assumption) (by assumption) | exact h2 (by omega) (by omega) (Or.inl (by assumption)) | exact h2 (by omega) (by omega) (Or.inr ⟨by assumption, by assumption⟩) | trace_state
set_option maxRecDepth 100000 in
set_option maxHeartbeats 600000 in
theorem p_word {M : xM} {Q : Option xV → xM → Prop} {n b : Int} (hn : xrg n) (hb : xrg b) (hk : 0 ≤ M 3 2 ∧ M 3 2 ≤ 10) (h1 : ¬isRow n b → Q (some (xI (-2))) M) (h2 : isRow n b → M 3 2 = 10 → Q (some (xI (-4))) M) (h3 : isRow n b → M 3 2 < 10 → Q (some (xI (M 3 2))) (goneM (rAdd_W M n b))) : xm 6 m_X_word [xR (some 1), xI n, xI b] M Q := by
  (refine xm_of (own := "DrumTongue") rfl (by decide +kernel) tk_X [some (xR (some 1)), some (xI n), some (xI b)] (Nat.le_of_ble_eq_true rfl) rfl ?_; intro D nx X C P hW)
  refine xg hW k_X_word [] 40 ?_
  ((repeat' (first | (with_reducible refine And.intro ?_ ?_) | (intro h0; exact absurd h0 (by decide)) | (intro _) | ((conv => whnf); (first | (with_reducible refine And.intro ?_ ?_) | (intro h0; exact absurd h0 (by decide)) | (intro _) | (refine hW.1 _ _ _ _ _ _ (c_isRow ?_) (by first | decide | omega) (by decide) (Nat.le_of_ble_eq_true rfl)) | (refine hW.1 _ _ _ _ _ _ (c_addWord ?_) (by first | decide | omega) (by decide) (Nat.le_of_ble_eq_true rfl)))))); (all_goals (try omega)); (all_goals (try exact Nat.le_of_ble_eq_true rfl)); (all_goals (try ((conv => whnf); (first | (refine hW.2.1 _ _ ?_) | (change X _ _ _ _ _ _) | (change C _ _ _ _ _ _ _))))); (all_goals (try simp only [xup_at, xup_ne, xup_up, ne_eq, Nat.reduceEqDiff, not_false_eq_true, Int.toNat_natCast, x_lcmp] at *)); (all_goals (try omega)))
  all_goals first | exact h1 (by assumption) | exact h2 (by assumption) (by omega) | exact h3 (by assumption) (by omega) | trace_state
set_option maxRecDepth 100000 in
set_option maxHeartbeats 600000 in
theorem p_ending {M : xM} {Q : Option xV → xM → Prop} {n b : Int} (he : eOk M) (ht : tl0 M) (hn : xrg n) (hb : xrg b) (h1 : ¬isRow n b → Q (some (xI (-2))) M) (h2 : isRow n b → M 6 2 = 5 → Q (some (xI (-4))) M) (h3 : isRow n b → M 6 2 < 5 → ∀ M', TR (rAdd_E M n b) (tls (rAdd_E M n b 7) (rAdd_E M n b 6 2).toNat 12) M' → Q (some (xI (M 6 2))) (goneM M')) : xm 8 m_X_ending [xR (some 1), xI n, xI b] M Q := by
  by_cases hr : isRow n b
  · have cc : ∀ Q' : Option xV → xM → Prop, (M 6 2 = 5 → Q' (some (xI (-4))) M) ∧ (M 6 2 < 5 → ∀ M', TR (rAdd_E M n b) (tls (rAdd_E M n b 7) (rAdd_E M n b 6 2).toNat 12) M' → Q' (some (xI (M 6 2))) (goneM M')) → xm 7 m_Tongue_addEnding [xR (some 2), xI n, xI b] M Q' := fun Q' a => c_addEnding he ht hr a.1 a.2
    have ci : ∀ Q' : Option xV → xM → Prop, Q' (some (xI 1)) M → xm 1 m_Rows_isRow [xI n, xI b] M Q' := fun Q' h => c_isRow ⟨⟨hn, hb⟩, fun _ => h, fun q => absurd hr q⟩
    (refine xm_of (own := "DrumTongue") rfl (by decide +kernel) tk_X [some (xR (some 1)), some (xI n), some (xI b)] (Nat.le_of_ble_eq_true rfl) rfl ?_; intro D nx X C P hW)
    refine xg hW k_X_ending [] 40 ?_
    ((repeat' (first | (with_reducible refine And.intro ?_ ?_) | (intro h0; exact absurd h0 (by decide)) | (intro _) | ((conv => whnf); (first | (with_reducible refine And.intro ?_ ?_) | (intro h0; exact absurd h0 (by decide)) | (intro _) | (refine hW.1 _ _ _ _ _ _ (ci _ ?_) (by first | decide | omega) (by decide) (Nat.le_of_ble_eq_true rfl)) | (refine hW.1 _ _ _ _ _ _ (cc _ ?_) (by first | decide | omega) (by decide) (Nat.le_of_ble_eq_true rfl)))))); (all_goals (try omega)); (all_goals (try exact Nat.le_of_ble_eq_true rfl)); (all_goals (try ((conv => whnf); (first | (refine hW.2.1 _ _ ?_) | (change X _ _ _ _ _ _) | (change C _ _ _ _ _ _ _))))); (all_goals (try simp only [xup_at, xup_ne, xup_up, ne_eq, Nat.reduceEqDiff, not_false_eq_true, Int.toNat_natCast, x_lcmp] at *)); (all_goals (try omega)))
    · exact h2 hr (by assumption)
    · exact h3 hr (by assumption) _ (by assumption)
  · have ci : ∀ Q' : Option xV → xM → Prop, Q' (some (xI 0)) M → xm 1 m_Rows_isRow [xI n, xI b] M Q' := fun Q' h => c_isRow ⟨⟨hn, hb⟩, fun q => absurd q hr, fun _ => h⟩
    (refine xm_of (own := "DrumTongue") rfl (by decide +kernel) tk_X [some (xR (some 1)), some (xI n), some (xI b)] (Nat.le_of_ble_eq_true rfl) rfl ?_; intro D nx X C P hW)
    refine xg hW k_X_ending [] 40 ?_
    ((repeat' (first | (with_reducible refine And.intro ?_ ?_) | (intro h0; exact absurd h0 (by decide)) | (intro _) | ((conv => whnf); (first | (with_reducible refine And.intro ?_ ?_) | (intro h0; exact absurd h0 (by decide)) | (intro _) | (refine hW.1 _ _ _ _ _ _ (ci _ ?_) (by first | decide | omega) (by decide) (Nat.le_of_ble_eq_true rfl)))))); (all_goals (try omega)); (all_goals (try exact Nat.le_of_ble_eq_true rfl)); (all_goals (try ((conv => whnf); (first | (refine hW.2.1 _ _ ?_) | (change X _ _ _ _ _ _) | (change C _ _ _ _ _ _ _))))); (all_goals (try simp only [xup_at, xup_ne, xup_up, ne_eq, Nat.reduceEqDiff, not_false_eq_true, Int.toNat_natCast, x_lcmp] at *)); (all_goals (try omega)))
    all_goals exact h1 hr
set_option maxRecDepth 100000 in
set_option maxHeartbeats 600000 in
theorem p_hill {M : xM} {Q : Option xV → xM → Prop} {s d c g : Int} (hs : xrg s) (hd : xrg d) (hc : xrg c) (hg : xrg g) (h1 : ¬(0 ≤ s ∧ s < 6 ∧ 0 ≤ d ∧ d < 6 ∧ s ≠ d ∧ 0 ≤ c ∧ c ≤ 1000 ∧ 1 ≤ g ∧ g ≤ 20) → Q (some (xI (-2))) M) (h2 : 0 ≤ s ∧ s < 6 ∧ 0 ≤ d ∧ d < 6 ∧ s ≠ d ∧ 0 ≤ c ∧ c ≤ 1000 ∧ 1 ≤ g ∧ g ≤ 20 → Q (some (xI 1)) (xup (xup M (47 + s.toNat) (xup (M (47 + s.toNat)) d.toNat c)) (54 + s.toNat) (xup (M (54 + s.toNat)) d.toNat g))) : xm 4 m_X_hill [xR (some 1), xI s, xI d, xI c, xI g] M Q := by
  have hc1 := hc.1
  have hc2 := hc.2
  have hg1 := hg.1
  have hg2 := hg.2
  by_cases hp : isPair s d
  · obtain ⟨q1, q2, q3, q4, q5⟩ := id hp
    (refine xm_of (own := "DrumTongue") rfl (by decide +kernel) tk_X [some (xR (some 1)), some (xI s), some (xI d), some (xI c), some (xI g)] (Nat.le_of_ble_eq_true rfl) rfl ?_; intro D nx X C P hW)
    refine xg hW k_X_hill [] 40 ?_
    ((repeat' (first | (with_reducible refine And.intro ?_ ?_) | (intro h0; exact absurd h0 (by decide)) | (intro _) | ((conv => whnf); (first | (with_reducible refine And.intro ?_ ?_) | (intro h0; exact absurd h0 (by decide)) | (intro _) | (refine hW.1 _ _ _ _ _ _ (c_arePairY ?_) (by first | decide | omega) (by decide) (Nat.le_of_ble_eq_true rfl)) | (refine hW.1 _ _ _ _ _ _ (c_join ?_) (by first | decide | omega) (by decide) (Nat.le_of_ble_eq_true rfl)))))); (all_goals (try omega)); (all_goals (try exact Nat.le_of_ble_eq_true rfl)); (all_goals (try ((conv => whnf); (first | (refine hW.2.1 _ _ ?_) | (change X _ _ _ _ _ _) | (change C _ _ _ _ _ _ _))))); (all_goals (try simp only [xup_at, xup_ne, xup_up, ne_eq, Nat.reduceEqDiff, not_false_eq_true, Int.toNat_natCast, x_lcmp] at *)); (all_goals (try omega)))
    all_goals first | exact h1 (by omega) | exact h2 (by omega) | exact q5 (by assumption) | trace_state
  · have q : ¬(0 ≤ s ∧ s < 6 ∧ 0 ≤ d ∧ d < 6 ∧ s ≠ d) := hp
    have cn : ∀ Q' : Option xV → xM → Prop, Q' (some (xI 0)) M → xm 2 m_Hills_arePair [xI s, xI d] M Q' := fun Q' h => c_arePair ⟨⟨hs, hd⟩, fun a => absurd a hp, fun _ => h⟩
    (refine xm_of (own := "DrumTongue") rfl (by decide +kernel) tk_X [some (xR (some 1)), some (xI s), some (xI d), some (xI c), some (xI g)] (Nat.le_of_ble_eq_true rfl) rfl ?_; intro D nx X C P hW)
    refine xg hW k_X_hill [] 40 ?_
    ((repeat' (first | (with_reducible refine And.intro ?_ ?_) | (intro h0; exact absurd h0 (by decide)) | (intro _) | ((conv => whnf); (first | (with_reducible refine And.intro ?_ ?_) | (intro h0; exact absurd h0 (by decide)) | (intro _) | (refine hW.1 _ _ _ _ _ _ (cn _ ?_) (by first | decide | omega) (by decide) (Nat.le_of_ble_eq_true rfl)))))); (all_goals (try omega)); (all_goals (try exact Nat.le_of_ble_eq_true rfl)); (all_goals (try ((conv => whnf); (first | (refine hW.2.1 _ _ ?_) | (change X _ _ _ _ _ _) | (change C _ _ _ _ _ _ _))))); (all_goals (try simp only [xup_at, xup_ne, xup_up, ne_eq, Nat.reduceEqDiff, not_false_eq_true, Int.toNat_natCast, x_lcmp] at *)); (all_goals (try omega)))
    all_goals exact h1 (by omega)
