/-! public methods that choose, and what is heard -/
set_option maxRecDepth 100000 in
set_option maxHeartbeats 600000 in
theorem p_choose {M : xM} {Q : Option xV → xM → Prop} (hw : wOk M) (ht : tbOk M) (ha : 0 ≤ M 18 2 ∧ M 18 2 ≤ 10) (hb : 1 ≤ M 2 6 ∧ M 2 6 ≤ 9) (hq : ∀ M', turnAt M (M 3 2).toNat M' → Q (some (xI (cntP (M' 15) (M 3 2).toNat))) M') : xm 7 m_X_choose [xR (some 1)] M Q := by
  (refine xm_of (own := "DrumTongue") rfl (by decide +kernel) tk_X [some (xR (some 1))] (Nat.le_of_ble_eq_true rfl) rfl ?_; intro D nx X C P hW)
  refine xg hW k_X_choose [] 40 ?_
  ((repeat' (first | (with_reducible refine And.intro ?_ ?_) | (intro h0; exact absurd h0 (by decide)) | (intro _) | ((conv => whnf); (first | (with_reducible refine And.intro ?_ ?_) | (intro h0; exact absurd h0 (by decide)) | (intro _) | (refine hW.1 _ _ _ _ _ _ (c_choose hw ht ha hb ?_) (by first | decide | omega) (by decide) (Nat.le_of_ble_eq_true rfl)))))); (all_goals (try omega)); (all_goals (try exact xnn (by omega))); (all_goals (try exact Nat.le_of_ble_eq_true rfl)); (all_goals (try ((conv => whnf); (first | (refine hW.2.1 _ _ ?_) | (change X _ _ _ _ _ _) | (change C _ _ _ _ _ _ _))))); (all_goals (try simp only [xup_at, xup_ne, xup_up, ne_eq, Nat.reduceEqDiff, not_false_eq_true, Int.toNat_natCast, x_lcmp] at *)); (all_goals (try omega)))
  all_goals exact hq _ (by assumption)
set_option maxRecDepth 100000 in
set_option maxHeartbeats 600000 in
theorem p_least {M : xM} {Q : Option xV → xM → Prop} (hp : lsPre M) (hg : gvOk M) (ha : 0 ≤ M 18 2 ∧ M 18 2 ≤ 10) (h1 : ∀ M' : xM, lsFr M M' → M' 18 2 = 0 → 20000 < (lsM M).2.1 → Q (some (xI (-5))) M') (h2 : ∀ M' : xM, lsFr M M' → M' 18 2 = 0 → (lsM M).2.1 ≤ 20000 → (lsM M).1 = 1000000 → Q (some (xI (-1))) M') (h3 : ∀ M' : xM, (∀ a, a ≠ 2 → (a < 15 ∨ 22 < a) → M' a = M a) → (∀ k, k ≠ 10 → k ≠ 11 → M' 2 k = M 2 k) → M' 18 2 = 0 → (lsM M).2.1 ≤ 20000 → (lsM M).1 ≠ 1000000 → (∀ j, j < (M 3 2).toNat → M' 15 j = (lsM M).2.2 j) → (∀ j, (M 3 2).toNat ≤ j → M' 15 j = M 15 j) → gvOk M' → Q (some (xI (lsM M).1)) M') : xm 21 m_X_least [xR (some 1)] M Q := by
  (refine xm_of (own := "DrumTongue") rfl (by decide +kernel) tk_X [some (xR (some 1))] (Nat.le_of_ble_eq_true rfl) rfl ?_; intro D nx X C P hW)
  refine xg hW k_X_least [] 40 ?_
  ((repeat' (first | (with_reducible refine And.intro ?_ ?_) | (intro h0; exact absurd h0 (by decide)) | (intro _) | ((conv => whnf); (first | (with_reducible refine And.intro ?_ ?_) | (intro h0; exact absurd h0 (by decide)) | (intro _))))); (all_goals (try omega)); (all_goals (try exact xnn (by omega))); (all_goals (try exact Nat.le_of_ble_eq_true rfl)); (all_goals (try ((conv => whnf); (first | (refine hW.2.1 _ _ ?_) | (change X _ _ _ _ _ _) | (change C _ _ _ _ _ _ _))))); (all_goals (try simp only [xup_at, xup_ne, xup_up, ne_eq, Nat.reduceEqDiff, not_false_eq_true, Int.toNat_natCast, x_lcmp] at *)); (all_goals (try omega)))
  refine hW.1 _ _ _ _ _ _ (c_least hp hg ha (fun M' f1 f2 f3 => ?_) (fun M' f1 f2 f3 f4 => ?_) (fun M' f1 f2 f3 f4 f5 f6 f7 f8 => ?_)) (by omega) (by decide) (Nat.le_of_ble_eq_true rfl)
  · ((repeat' (first | (with_reducible refine And.intro ?_ ?_) | (intro h0; exact absurd h0 (by decide)) | (intro _) | ((conv => whnf); (first | (with_reducible refine And.intro ?_ ?_) | (intro h0; exact absurd h0 (by decide)) | (intro _))))); (all_goals (try omega)); (all_goals (try exact xnn (by omega))); (all_goals (try exact Nat.le_of_ble_eq_true rfl)); (all_goals (try ((conv => whnf); (first | (refine hW.2.1 _ _ ?_) | (change X _ _ _ _ _ _) | (change C _ _ _ _ _ _ _))))); (all_goals (try simp only [xup_at, xup_ne, xup_up, ne_eq, Nat.reduceEqDiff, not_false_eq_true, Int.toNat_natCast, x_lcmp] at *)); (all_goals (try omega)))
    exact h1 M' f1 f2 f3
  · ((repeat' (first | (with_reducible refine And.intro ?_ ?_) | (intro h0; exact absurd h0 (by decide)) | (intro _) | ((conv => whnf); (first | (with_reducible refine And.intro ?_ ?_) | (intro h0; exact absurd h0 (by decide)) | (intro _))))); (all_goals (try omega)); (all_goals (try exact xnn (by omega))); (all_goals (try exact Nat.le_of_ble_eq_true rfl)); (all_goals (try ((conv => whnf); (first | (refine hW.2.1 _ _ ?_) | (change X _ _ _ _ _ _) | (change C _ _ _ _ _ _ _))))); (all_goals (try simp only [xup_at, xup_ne, xup_up, ne_eq, Nat.reduceEqDiff, not_false_eq_true, Int.toNat_natCast, x_lcmp] at *)); (all_goals (try omega)))
    exact h2 M' f1 f2 f3 f4
  · ((repeat' (first | (with_reducible refine And.intro ?_ ?_) | (intro h0; exact absurd h0 (by decide)) | (intro _) | ((conv => whnf); (first | (with_reducible refine And.intro ?_ ?_) | (intro h0; exact absurd h0 (by decide)) | (intro _))))); (all_goals (try omega)); (all_goals (try exact xnn (by omega))); (all_goals (try exact Nat.le_of_ble_eq_true rfl)); (all_goals (try ((conv => whnf); (first | (refine hW.2.1 _ _ ?_) | (change X _ _ _ _ _ _) | (change C _ _ _ _ _ _ _))))); (all_goals (try simp only [xup_at, xup_ne, xup_up, ne_eq, Nat.reduceEqDiff, not_false_eq_true, Int.toNat_natCast, x_lcmp] at *)); (all_goals (try omega)))
    exact h3 M' f1 f2 f3 f4 f5 f6 f7 f8
set_option maxRecDepth 100000 in
set_option maxHeartbeats 600000 in
theorem p_far {M : xM} {Q : Option xV → xM → Prop} {a b : Int} (hp : phOk M) (hk : 0 ≤ M 3 2 ∧ M 3 2 ≤ 10) (ha : xrg a) (hb : xrg b) (h1 : a < 0 ∨ M 3 2 ≤ a ∨ b < 0 ∨ M 3 2 ≤ b ∨ a = b → Q (some (xI (-2))) M) (h2 : 0 ≤ a → a < M 3 2 → 0 ≤ b → b < M 3 2 → a ≠ b → M 15 a.toNat = -1 ∨ M 15 b.toNat = -1 → Q (some (xI (-3))) M) (h3 : 0 ≤ a → a < M 3 2 → 0 ≤ b → b < M 3 2 → a ≠ b → M 15 a.toNat ≠ -1 → M 15 b.toNat ≠ -1 → Q (some (xI (dif (M 16 a.toNat) (M 17 a.toNat) (M 16 b.toNat) (M 17 b.toNat) + (if 0 ≤ M 16 a.toNat - M 16 b.toNat then M 16 a.toNat - M 16 b.toNat else -(M 16 a.toNat - M 16 b.toNat))))) M) : xm 4 m_X_far [xR (some 1), xI a, xI b] M Q := by
  have ha1 := ha.1
  have ha2 := ha.2
  have hb1 := hb.1
  have hb2 := hb.2
  (refine xm_of (own := "DrumTongue") rfl (by decide +kernel) tk_X [some (xR (some 1)), some (xI a), some (xI b)] (Nat.le_of_ble_eq_true rfl) rfl ?_; intro D nx X C P hW)
  refine xg hW k_X_far [] 40 ?_
  ((repeat' (first | (with_reducible refine And.intro ?_ ?_) | (intro h0; exact absurd h0 (by decide)) | (intro _) | ((conv => whnf); (first | (with_reducible refine And.intro ?_ ?_) | (intro h0; exact absurd h0 (by decide)) | (intro _) | (refine hW.1 _ _ _ _ _ _ (c_isWord ?_) (by first | decide | omega) (by decide) (Nat.le_of_ble_eq_true rfl)) | (refine hW.1 _ _ _ _ _ _ (c_hasPhraseI hp ?_) (by first | decide | omega) (by decide) (Nat.le_of_ble_eq_true rfl)) | (refine hW.1 _ _ _ _ _ _ (c_howFar hp ?_) (by first | decide | omega) (by decide) (Nat.le_of_ble_eq_true rfl)))))); (all_goals (try omega)); (all_goals (try exact xnn (by omega))); (all_goals (try exact Nat.le_of_ble_eq_true rfl)); (all_goals (try ((conv => whnf); (first | (refine hW.2.1 _ _ ?_) | (change X _ _ _ _ _ _) | (change C _ _ _ _ _ _ _))))); (all_goals (try simp only [xup_at, xup_ne, xup_up, ne_eq, Nat.reduceEqDiff, not_false_eq_true, Int.toNat_natCast, x_lcmp] at *)); (all_goals (try omega)))
  all_goals first | exact h1 (by omega) | exact h2 (by omega) (by omega) (by omega) (by omega) (by omega) (Or.inl (by assumption)) | exact h2 (by omega) (by omega) (by omega) (by omega) (by omega) (Or.inr (by assumption)) | exact h3 (by omega) (by omega) (by omega) (by omega) (by omega) (by assumption) (by assumption) | trace_state
/-- the first k of the beats come to the heard -/
def drumM (M : xM) (β : Nat → Int) : Nat → xM
  | 0 => M
  | k + 1 => earAdd (drumM M β k) (β k)
theorem drumM_at (M : xM) (β : Nat → Int) (h0 : 0 ≤ M 23 1) : ∀ k, (∀ a, a ≠ 23 → a ≠ 24 → drumM M β k a = M a) ∧ (∀ j, j ≠ 1 → drumM M β k 23 j = M 23 j) ∧ drumM M β k 23 1 = M 23 1 + k ∧ ∀ j, drumM M β k 24 j = if (M 23 1).toNat ≤ j ∧ j < (M 23 1).toNat + k then β (j - (M 23 1).toNat) else M 24 j
  | 0 => ⟨fun _ _ _ => rfl, fun _ _ => rfl, by rw [drumM]; omega, fun j => by rw [drumM, if_neg (by omega)]⟩
  | k + 1 => by
    obtain ⟨a, b, c, d⟩ := drumM_at M β h0 k
    rw [drumM]
    unfold earAdd
    refine ⟨fun x h1 h2 => ?_, fun j hj => ?_, ?_, fun j => ?_⟩
    · rw [xup_ne h1, xup_ne h2]; exact a x h1 h2
    · rw [xup_at, xup_ne hj]; exact b j hj
    · rw [xup_at, xup_at, c]; omega
    · rw [xup_ne (by decide), xup_at, c]
      by_cases q : j = (M 23 1).toNat + k
      · rw [q, show (M 23 1 + (k : Int)).toNat = (M 23 1).toNat + k by omega, xup_at, if_pos (by omega)]
        congr 1
        omega
      · rw [xup_ne (by omega), d j]
        by_cases q2 : (M 23 1).toNat ≤ j ∧ j < (M 23 1).toNat + k
        · rw [if_pos q2, if_pos (by omega)]
        · rw [if_neg q2, if_neg (by omega)]
set_option maxRecDepth 100000 in
set_option maxHeartbeats 600000 in
theorem p_drum {M : xM} {Q : Option xV → xM → Prop} {w : Int} (hp : phOk M) (hk : 0 ≤ M 3 2 ∧ M 3 2 ≤ 10) (hn : 0 ≤ M 23 1 ∧ M 23 1 ≤ 60) (hw : xrg w) (h1 : w < 0 ∨ M 3 2 ≤ w → Q (some (xI (-2))) M) (h2 : 0 ≤ w → w < M 3 2 → M 15 w.toNat = -1 → Q (some (xI (-3))) M) (h3 : 0 ≤ w → w < M 3 2 → M 15 w.toNat ≠ -1 → 60 < M 23 1 + M 16 w.toNat → Q (some (xI (-4))) M) (h4 : 0 ≤ w → w < M 3 2 → M 15 w.toNat ≠ -1 → M 23 1 + M 16 w.toNat ≤ 60 → Q (some (xI (M 23 1 + M 16 w.toNat))) (drumM M (btOf (M 16 w.toNat) (M 17 w.toNat)) (M 16 w.toNat).toNat)) : xm 3 m_X_drum [xR (some 1), xI w] M Q := by
  have hw1 := hw.1
  have hw2 := hw.2
  by_cases hr : 0 ≤ w ∧ w < M 3 2 ∧ M 15 w.toNat ≠ -1 ∧ M 23 1 + M 16 w.toNat ≤ 60
  · obtain ⟨r1, r2, r3, r4⟩ := hr
    have hb := hp w.toNat (by omega)
    obtain ⟨s0, s1, s2, s3⟩ := hb.2.2 r3
    obtain ⟨n, en⟩ := Int.eq_ofNat_of_zero_le (show 0 ≤ M 16 w.toNat by omega)
    have h4' := h4 r1 r2 r3 r4
    clear h1 h2 h3 h4
    generalize hβ : btOf (M 16 w.toNat) (M 17 w.toNat) = β at h4'
    rw [en, Int.toNat_natCast] at h4'
    have at_ := drumM_at M β hn.1
    have cb : ∀ k : Nat, k < n → ∀ Q' : Option xV → xM → Prop, Q' (some (xI (β k))) (drumM M β k) → xm 2 m_Tongue_phraseBeat [xR (some 2), xI w, xI (k : Int)] (drumM M β k) Q' := by
      intro k hk Q' hq
      obtain ⟨a1, a2, a3, a4⟩ := at_ k
      have p15 : drumM M β k 15 = M 15 := a1 15 (by decide) (by decide)
      have p16 : drumM M β k 16 = M 16 := a1 16 (by decide) (by decide)
      have p17 : drumM M β k 17 = M 17 := a1 17 (by decide) (by decide)
      have hp' : phOk (drumM M β k) := by
        intro w hw
        rw [p15, p16, p17]
        exact hp w hw
      refine c_phraseBeatY hp' ⟨⟨r1, by omega, by rw [p15]; exact r3, by omega, by rw [p16]; omega⟩, ?_⟩
      rw [p16, p17, Int.toNat_natCast, hβ]
      exact hq
    have ce : ∀ k : Nat, k < n → ∀ Q' : Option xV → xM → Prop, (∀ z, Q' (some (xI z)) (drumM M β (k + 1))) → xm 1 m_Ear_add [xR (some 23), xI (β k)] (drumM M β k) Q' := by
      intro k hk Q' hq
      obtain ⟨a1, a2, a3, a4⟩ := at_ k
      exact c_earAdd ⟨⟨by omega, by omega⟩, hq _⟩
    (refine xm_of (own := "DrumTongue") rfl (by decide +kernel) tk_X [some (xR (some 1)), some (xI w), none, none] (Nat.le_of_ble_eq_true rfl) rfl ?_; intro D nx X C P hW)
    have loop : ∀ (m k : Nat), k + m = n → X 53 [some (xR (some 1)), some (xI w), some (xI (n : Int)), some (xI (k : Int))] [] (drumM M β k, D, nx) 0 0 := by
      intro m
      induction m with
      | zero =>
        intro k hk
        obtain rfl : k = n := by omega
        have a3 := (at_ k).2.2.1
        refine xg hW k_X_drum [53] 40 ?_
        ((repeat' (first | (with_reducible refine And.intro ?_ ?_) | (intro h0; exact absurd h0 (by decide)) | (intro _) | ((conv => whnf); (first | (with_reducible refine And.intro ?_ ?_) | (intro h0; exact absurd h0 (by decide)) | (intro _) | (refine hW.1 _ _ _ _ _ _ (c_earSize ?_) (by first | decide | omega) (by decide) (Nat.le_of_ble_eq_true rfl)))))); (all_goals (try omega)); (all_goals (try exact xnn (by omega))); (all_goals (try exact Nat.le_of_ble_eq_true rfl)); (all_goals (try ((conv => whnf); (first | (refine hW.2.1 _ _ ?_) | (change X _ _ _ _ _ _) | (change C _ _ _ _ _ _ _))))); (all_goals (try simp only [xup_at, xup_ne, xup_up, ne_eq, Nat.reduceEqDiff, not_false_eq_true, Int.toNat_natCast, x_lcmp] at *)); (all_goals (try omega)))
        rw [a3]
        exact h4'
      | succ m ih =>
        intro k hk
        refine xg hW k_X_drum [53] 40 ?_
        ((repeat' (first | (with_reducible refine And.intro ?_ ?_) | (intro h0; exact absurd h0 (by decide)) | (intro _) | ((conv => whnf); (first | (with_reducible refine And.intro ?_ ?_) | (intro h0; exact absurd h0 (by decide)) | (intro _) | (refine hW.1 _ _ _ _ _ _ (cb k (by omega) _ ?_) (by first | decide | omega) (by decide) (Nat.le_of_ble_eq_true rfl)) | (refine hW.1 _ _ _ _ _ _ (ce k (by omega) _ ?_) (by first | decide | omega) (by decide) (Nat.le_of_ble_eq_true rfl)))))); (all_goals (try omega)); (all_goals (try exact xnn (by omega))); (all_goals (try exact Nat.le_of_ble_eq_true rfl)); (all_goals (try ((conv => whnf); (first | (refine hW.2.1 _ _ ?_) | (change X _ _ _ _ _ _) | (change C _ _ _ _ _ _ _))))); (all_goals (try simp only [xup_at, xup_ne, xup_up, ne_eq, Nat.reduceEqDiff, not_false_eq_true, Int.toNat_natCast, x_lcmp] at *)); (all_goals (try omega)))
        exact ih (k + 1) (by omega)
    refine xg hW k_X_drum [53] 40 ?_
    ((repeat' (first | (with_reducible refine And.intro ?_ ?_) | (intro h0; exact absurd h0 (by decide)) | (intro _) | ((conv => whnf); (first | (with_reducible refine And.intro ?_ ?_) | (intro h0; exact absurd h0 (by decide)) | (intro _) | (rw [en]) | (refine hW.1 _ _ _ _ _ _ (c_isWord ?_) (by first | decide | omega) (by decide) (Nat.le_of_ble_eq_true rfl)) | (refine hW.1 _ _ _ _ _ _ (c_hasPhraseY hp ?_) (by first | decide | omega) (by decide) (Nat.le_of_ble_eq_true rfl)) | (refine hW.1 _ _ _ _ _ _ (c_phraseSizeY hp ?_) (by first | decide | omega) (by decide) (Nat.le_of_ble_eq_true rfl)) | (refine hW.1 _ _ _ _ _ _ (c_earRoom ?_) (by first | decide | omega) (by decide) (Nat.le_of_ble_eq_true rfl)))))); (all_goals (try omega)); (all_goals (try exact xnn (by omega))); (all_goals (try exact Nat.le_of_ble_eq_true rfl)); (all_goals (try ((conv => whnf); (first | (refine hW.2.1 _ _ ?_) | (change X _ _ _ _ _ _) | (change C _ _ _ _ _ _ _))))); (all_goals (try simp only [xup_at, xup_ne, xup_up, ne_eq, Nat.reduceEqDiff, not_false_eq_true, Int.toNat_natCast, x_lcmp] at *)); (all_goals (try omega)))
    all_goals exact loop n 0 (by omega)
  · have hb : w < 0 ∨ M 3 2 ≤ w ∨ M 15 w.toNat = -1 ∨ (0 ≤ M 16 w.toNat ∧ M 16 w.toNat ≤ 18) := by
      by_cases q : w < 0 ∨ M 3 2 ≤ w ∨ M 15 w.toNat = -1
      · omega
      · obtain ⟨s0, s1, s2, s3⟩ := (hp w.toNat (by omega)).2.2 (by omega)
        omega
    (refine xm_of (own := "DrumTongue") rfl (by decide +kernel) tk_X [some (xR (some 1)), some (xI w), none, none] (Nat.le_of_ble_eq_true rfl) rfl ?_; intro D nx X C P hW)
    refine xg hW k_X_drum [53] 40 ?_
    ((repeat' (first | (with_reducible refine And.intro ?_ ?_) | (intro h0; exact absurd h0 (by decide)) | (intro _) | ((conv => whnf); (first | (with_reducible refine And.intro ?_ ?_) | (intro h0; exact absurd h0 (by decide)) | (intro _) | (refine hW.1 _ _ _ _ _ _ (c_isWord ?_) (by first | decide | omega) (by decide) (Nat.le_of_ble_eq_true rfl)) | (refine hW.1 _ _ _ _ _ _ (c_hasPhraseI hp ?_) (by first | decide | omega) (by decide) (Nat.le_of_ble_eq_true rfl)) | (refine hW.1 _ _ _ _ _ _ (c_phraseSizeY hp ?_) (by first | decide | omega) (by decide) (Nat.le_of_ble_eq_true rfl)) | (refine hW.1 _ _ _ _ _ _ (c_earRoom ?_) (by first | decide | omega) (by decide) (Nat.le_of_ble_eq_true rfl)))))); (all_goals (try omega)); (all_goals (try exact xnn (by omega))); (all_goals (try exact Nat.le_of_ble_eq_true rfl)); (all_goals (try ((conv => whnf); (first | (refine hW.2.1 _ _ ?_) | (change X _ _ _ _ _ _) | (change C _ _ _ _ _ _ _))))); (all_goals (try simp only [xup_at, xup_ne, xup_up, ne_eq, Nat.reduceEqDiff, not_false_eq_true, Int.toNat_natCast, x_lcmp] at *)); (all_goals (try omega)))
    all_goals first | exact h1 (by omega) | exact h2 (by omega) (by omega) (by assumption) | exact h3 (by omega) (by omega) (by assumption) (by omega) | exact absurd ⟨by omega, by omega, by assumption, by omega⟩ hr | trace_state
set_option maxRecDepth 100000 in
set_option maxHeartbeats 600000 in
theorem p_slip {M : xM} {Q : Option xV → xM → Prop} {i v : Int} (hn : 0 ≤ M 23 1 ∧ M 23 1 ≤ 60) (hi : xrg i) (hv : xrg v) (h1 : ¬(-1 ≤ v ∧ v ≤ 2 ∧ 0 ≤ i ∧ i < M 23 1) → Q (some (xI (-100))) M) (h2 : 0 ≤ i → i < M 23 1 → v = 2 → Q (some (xI (M 24 i.toNat))) (xup (xup M 24 (shf (M 24) i.toNat (M 23 1 - 1).toNat)) 23 (xup (M 23) 1 (M 23 1 - 1)))) (h3 : 0 ≤ i → i < M 23 1 → -1 ≤ v → v ≤ 1 → Q (some (xI (M 24 i.toNat))) (xup M 24 (xup (M 24) i.toNat v))) : xm 2 m_X_slip [xR (some 1), xI i, xI v] M Q := by
  have hi1 := hi.1
  have hi2 := hi.2
  have hv1 := hv.1
  have hv2 := hv.2
  rcases Int.lt_or_le i 0 with q | q
  · (refine xm_of (own := "DrumTongue") rfl (by decide +kernel) tk_X [some (xR (some 1)), some (xI i), some (xI v), none] (Nat.le_of_ble_eq_true rfl) rfl ?_; intro D nx X C P hW)
    refine xg hW k_X_slip [] 40 ?_
    ((repeat' (first | (with_reducible refine And.intro ?_ ?_) | (intro h0; exact absurd h0 (by decide)) | (intro _) | ((conv => whnf); (first | (with_reducible refine And.intro ?_ ?_) | (intro h0; exact absurd h0 (by decide)) | (intro _) | (refine hW.1 _ _ _ _ _ _ (c_earSize ?_) (by first | decide | omega) (by decide) (Nat.le_of_ble_eq_true rfl)))))); (all_goals (try omega)); (all_goals (try exact xnn (by omega))); (all_goals (try exact Nat.le_of_ble_eq_true rfl)); (all_goals (try ((conv => whnf); (first | (refine hW.2.1 _ _ ?_) | (change X _ _ _ _ _ _) | (change C _ _ _ _ _ _ _))))); (all_goals (try simp only [xup_at, xup_ne, xup_up, ne_eq, Nat.reduceEqDiff, not_false_eq_true, Int.toNat_natCast, x_lcmp] at *)); (all_goals (try omega)))
    all_goals exact h1 (by omega)
  obtain ⟨n, rfl⟩ := Int.eq_ofNat_of_zero_le q
  rw [Int.toNat_natCast] at h2 h3
  (refine xm_of (own := "DrumTongue") rfl (by decide +kernel) tk_X [some (xR (some 1)), some (xI (n : Int)), some (xI v), none] (Nat.le_of_ble_eq_true rfl) rfl ?_; intro D nx X C P hW)
  refine xg hW k_X_slip [] 40 ?_
  ((repeat' (first | (with_reducible refine And.intro ?_ ?_) | (intro h0; exact absurd h0 (by decide)) | (intro _) | ((conv => whnf); (first | (with_reducible refine And.intro ?_ ?_) | (intro h0; exact absurd h0 (by decide)) | (intro _) | (refine hW.1 _ _ _ _ _ _ (c_earSize ?_) (by first | decide | omega) (by decide) (Nat.le_of_ble_eq_true rfl)) | (refine hW.1 _ _ _ _ _ _ (c_earAt ?_) (by first | decide | omega) (by decide) (Nat.le_of_ble_eq_true rfl)) | (refine hW.1 _ _ _ _ _ _ (c_earTake ?_) (by first | decide | omega) (by decide) (Nat.le_of_ble_eq_true rfl)) | (refine hW.1 _ _ _ _ _ _ (c_earChange ?_) (by first | decide | omega) (by decide) (Nat.le_of_ble_eq_true rfl)))))); (all_goals (try omega)); (all_goals (try exact xnn (by omega))); (all_goals (try exact Nat.le_of_ble_eq_true rfl)); (all_goals (try ((conv => whnf); (first | (refine hW.2.1 _ _ ?_) | (change X _ _ _ _ _ _) | (change C _ _ _ _ _ _ _))))); (all_goals (try simp only [xup_at, xup_ne, xup_up, ne_eq, Nat.reduceEqDiff, not_false_eq_true, Int.toNat_natCast, x_lcmp] at *)); (all_goals (try omega)))
  all_goals first | exact h1 (by omega) | exact h2 (by omega) (by omega) (by omega) | exact h3 (by omega) (by omega) (by omega) (by omega) | trace_state
