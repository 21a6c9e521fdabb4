/-! public methods that read -/
/-- readNow with its count and off told by variables -/
theorem c_readNow' {M : xM} (hk : rdOk M) : ∃ (kk : Nat) (v : Int), kk = bK M ∧ v = bV M ∧ kk ≤ 12 ∧ (0 ≤ v ∧ v ≤ 180) ∧ (∀ i, i < kk → hP M (spW M v kk i : Nat)) ∧ ∀ Q : Option xV → xM → Prop, (cntP (M 15) (M 3 2).toNat = 0 → Q (some (xI 0)) M) ∧ (cntP (M 15) (M 3 2).toNat ≠ 0 → ∀ M', (∀ a, a < 25 ∨ a = 26 ∨ a = 28 ∨ a = 43 ∨ 44 < a → M' a = M a) → M' 25 = xup (xup (M 25) 5 (kk : Nat)) 6 v → (∀ i, i < kk → M' 27 i = (spW M v kk i : Int)) → (∀ i, kk ≤ i → M' 27 i = M 27 i) → Q (some (xI 1)) M') → xm 6 m_Reader_readNow [xR (some 25)] M Q :=
  ⟨bK M, bV M, rfl, rfl, bK_le M, bV_rg hk, fun i hi => by
    have h := sp_word hk (show bV M < 1000000 by have := bV_rg hk; omega) rfl hi
    have h2 := hk.2.2
    exact ⟨by omega, by omega, by rw [Int.toNat_natCast]; exact h.1.1⟩, fun Q h => c_readNow hk h.1 h.2⟩
set_option maxRecDepth 100000 in
set_option maxHeartbeats 600000 in
theorem p_read {M : xM} {Q : Option xV → xM → Prop} (hk : rdOk M) (hq0 : cntP (M 15) (M 3 2).toNat = 0 → Q (some (xI (-3))) M) (hq : cntP (M 15) (M 3 2).toNat ≠ 0 → ∀ M', (∀ a, a < 25 ∨ a = 28 ∨ 44 < a → M' a = M a) → M' 25 3 = (bK M : Int) → (∀ j, j ≠ 3 → j ≠ 5 → j ≠ 6 → M' 25 j = M 25 j) → (∀ i, i < bK M → M' 26 i = (spW M (bV M) (bK M) i : Int)) → Q (some (xI (bV M))) M') : xm 7 m_X_read [xR (some 1)] M Q := by
  obtain ⟨kk, v, e1, e2, b1, b2, b3, cr⟩ := c_readNow' hk
  rw [← e1, ← e2] at hq
  clear e1 e2
  (refine xm_of (own := "DrumTongue") rfl (by decide +kernel) tk_X [some (xR (some 1))] (Nat.le_of_ble_eq_true rfl) rfl ?_; intro D nx X C P hW)
  refine xg hW k_X_read [] 40 ?_
  ((repeat' (first | (with_reducible refine And.intro ?_ ?_) | (intro h0; exact absurd h0 (by decide)) | (intro _) | ((conv => whnf); (first | (with_reducible refine And.intro ?_ ?_) | (intro h0; exact absurd h0 (by decide)) | (intro _) | (refine hW.1 _ _ _ _ _ _ (cr _ ?_) (by first | decide | omega) (by decide) (Nat.le_of_ble_eq_true rfl)))))); (all_goals (try omega)); (all_goals (try exact xnn (by omega))); (all_goals (try exact Nat.le_of_ble_eq_true rfl)); (all_goals (try ((conv => whnf); (first | (refine hW.2.1 _ _ ?_) | (change X _ _ _ _ _ _) | (change C _ _ _ _ _ _ _))))); (all_goals (try simp only [xup_at, xup_ne, xup_up, ne_eq, Nat.reduceEqDiff, not_false_eq_true, Int.toNat_natCast, x_lcmp] at *)); (all_goals (try omega)))
  · exact hq0 (by assumption)
  · rename_i hc M1 f1 h25 h27 _ _
    have g5 : M1 25 5 = (kk : Int) := by rw [h25, xup_ne (by omega), xup_at]
    have hx : xrg (M1 25 5) := by rw [g5]; unfold xrg; omega
    ((repeat' (first | (with_reducible refine And.intro ?_ ?_) | (intro h0; exact absurd h0 (by decide)) | (intro _) | ((conv => whnf); (first | (with_reducible refine And.intro ?_ ?_) | (intro h0; exact absurd h0 (by decide)) | (intro _) | (refine hW.1 _ _ _ _ _ _ (c_keepAsLast hx ?_) (by first | decide | omega) (by decide) (Nat.le_of_ble_eq_true rfl)))))); (all_goals (try omega)); (all_goals (try exact xnn (by omega))); (all_goals (try exact Nat.le_of_ble_eq_true rfl)); (all_goals (try ((conv => whnf); (first | (refine hW.2.1 _ _ ?_) | (change X _ _ _ _ _ _) | (change C _ _ _ _ _ _ _))))); (all_goals (try simp only [xup_at, xup_ne, xup_up, ne_eq, Nat.reduceEqDiff, not_false_eq_true, Int.toNat_natCast, x_lcmp] at *)); (all_goals (try omega)))
    rename_i M2 f2 k25 k26
    have g6 : M2 25 6 = v := by rw [k25, xup_ne (by omega), h25, xup_at]
    ((repeat' (first | (with_reducible refine And.intro ?_ ?_) | (intro h0; exact absurd h0 (by decide)) | (intro _) | ((conv => whnf); (first | (with_reducible refine And.intro ?_ ?_) | (intro h0; exact absurd h0 (by decide)) | (intro _) | (rw [g6]) | (refine hW.1 _ _ _ _ _ _ (c_offNow ?_) (by first | decide | omega) (by decide) (Nat.le_of_ble_eq_true rfl)))))); (all_goals (try omega)); (all_goals (try exact xnn (by omega))); (all_goals (try exact Nat.le_of_ble_eq_true rfl)); (all_goals (try ((conv => whnf); (first | (refine hW.2.1 _ _ ?_) | (change X _ _ _ _ _ _) | (change C _ _ _ _ _ _ _))))); (all_goals (try simp only [xup_at, xup_ne, xup_up, ne_eq, Nat.reduceEqDiff, not_false_eq_true, Int.toNat_natCast, x_lcmp] at *)); (all_goals (try omega)))
    refine hq hc M2 (fun a ha => ?_) ?_ (fun j j3 j5 j6 => ?_) (fun i hi => ?_)
    · rw [f2 a (by omega)]; exact f1 a (by omega)
    · rw [k25, xup_at, g5]
    · rw [k25, xup_ne j3, h25, xup_ne j6, xup_ne j5]
    · rw [k26 i (by omega), h27 i hi]
set_option maxRecDepth 100000 in
set_option maxHeartbeats 600000 in
theorem p_most {M : xM} {Q : Option xV → xM → Prop} (hk : rdOk M) (hq0 : cntP (M 15) (M 3 2).toNat = 0 → Q (some (xI (-3))) M) (hq : cntP (M 15) (M 3 2).toNat ≠ 0 → ∀ (s : Nat → Int) M', (∀ i, i < bK M → s i = (spW M (bV M) (bK M) i : Int)) → (∀ a, a < 25 ∨ a = 26 ∨ a = 28 ∨ 44 < a → M' a = M a) → (∀ j, j ≠ 5 → j ≠ 6 → M' 25 j = M 25 j) → Q (some (xI (mid (fun i => dbt M (arF M s i) (arB M s (bK M) (bK M - i - 1)) (bV M) (s i) (M 3 2).toNat) (bK M)).1)) M') : xm 7 m_X_most [xR (some 1)] M Q := by
  obtain ⟨kk, v, e1, e2, b1, b2, b3, cr⟩ := c_readNow' hk
  rw [← e1, ← e2] at hq
  clear e1 e2
  (refine xm_of (own := "DrumTongue") rfl (by decide +kernel) tk_X [some (xR (some 1))] (Nat.le_of_ble_eq_true rfl) rfl ?_; intro D nx X C P hW)
  refine xg hW k_X_most [] 40 ?_
  ((repeat' (first | (with_reducible refine And.intro ?_ ?_) | (intro h0; exact absurd h0 (by decide)) | (intro _) | ((conv => whnf); (first | (with_reducible refine And.intro ?_ ?_) | (intro h0; exact absurd h0 (by decide)) | (intro _) | (refine hW.1 _ _ _ _ _ _ (cr _ ?_) (by first | decide | omega) (by decide) (Nat.le_of_ble_eq_true rfl)))))); (all_goals (try omega)); (all_goals (try exact xnn (by omega))); (all_goals (try exact Nat.le_of_ble_eq_true rfl)); (all_goals (try ((conv => whnf); (first | (refine hW.2.1 _ _ ?_) | (change X _ _ _ _ _ _) | (change C _ _ _ _ _ _ _))))); (all_goals (try simp only [xup_at, xup_ne, xup_up, ne_eq, Nat.reduceEqDiff, not_false_eq_true, Int.toNat_natCast, x_lcmp] at *)); (all_goals (try omega)))
  · exact hq0 (by assumption)
  · rename_i hc M1 f1 h25 h27 _ _
    have fr : frE M M1 := fun a ha => f1 a (by omega)
    have g5 : M1 25 5 = (kk : Int) := by rw [h25, xup_ne (by omega), xup_at]
    have g6 : M1 25 6 = v := by rw [h25, xup_at]
    have ho : 0 ≤ M1 25 6 ∧ M1 25 6 ≤ 1000000 := by rw [g6]; omega
    have hw : ∀ q, q < kk → hP M (M1 27 q) := fun q hq => by rw [h27 q hq]; exact b3 q hq
    ((repeat' (first | (with_reducible refine And.intro ?_ ?_) | (intro h0; exact absurd h0 (by decide)) | (intro _) | ((conv => whnf); (first | (with_reducible refine And.intro ?_ ?_) | (intro h0; exact absurd h0 (by decide)) | (intro _) | (refine hW.1 _ _ _ _ _ _ (c_mostInDoubt fr hk b1 g5 ho hw ?_) (by first | decide | omega) (by decide) (Nat.le_of_ble_eq_true rfl)))))); (all_goals (try omega)); (all_goals (try exact xnn (by omega))); (all_goals (try exact Nat.le_of_ble_eq_true rfl)); (all_goals (try ((conv => whnf); (first | (refine hW.2.1 _ _ ?_) | (change X _ _ _ _ _ _) | (change C _ _ _ _ _ _ _))))); (all_goals (try simp only [xup_at, xup_ne, xup_up, ne_eq, Nat.reduceEqDiff, not_false_eq_true, Int.toNat_natCast, x_lcmp] at *)); (all_goals (try omega)))
    rename_i M2 f2
    rw [g6]
    refine hq hc (M1 27) M2 h27 (fun a ha => ?_) (fun j j5 j6 => ?_)
    · rw [f2 a (by omega)]; exact f1 a (by omega)
    · rw [f2 25 (by decide), h25, xup_ne j6, xup_ne j5]
set_option maxRecDepth 100000 in
set_option maxHeartbeats 600000 in
theorem p_doubt {M : xM} {Q : Option xV → xM → Prop} {i : Int} (hk : rdOk M) (hi : xrg i) (h1 : i < 0 → Q (some (xI (-2))) M) (hq0 : 0 ≤ i → cntP (M 15) (M 3 2).toNat = 0 → Q (some (xI (-3))) M) (h2 : 0 ≤ i → cntP (M 15) (M 3 2).toNat ≠ 0 → (bK M : Int) ≤ i → ∀ M', (∀ a, a < 25 ∨ a = 26 ∨ a = 28 ∨ 44 < a → M' a = M a) → (∀ j, j ≠ 5 → j ≠ 6 → M' 25 j = M 25 j) → Q (some (xI (-2))) M') (hq : cntP (M 15) (M 3 2).toNat ≠ 0 → ∀ (n : Nat) (s : Nat → Int) M', i = (n : Int) → n < bK M → (∀ i, i < bK M → s i = (spW M (bV M) (bK M) i : Int)) → (∀ a, a < 25 ∨ a = 26 ∨ a = 28 ∨ 44 < a → M' a = M a) → (∀ j, j ≠ 5 → j ≠ 6 → M' 25 j = M 25 j) → Q (some (xI (dbt M (arF M s n) (arB M s (bK M) (bK M - n - 1)) (bV M) (s n) (M 3 2).toNat))) M') : xm 7 m_X_doubt [xR (some 1), xI i] M Q := by
  have hi1 := hi.1
  have hi2 := hi.2
  rcases Int.lt_or_le i 0 with q | q
  · (refine xm_of (own := "DrumTongue") rfl (by decide +kernel) tk_X [some (xR (some 1)), some (xI i)] (Nat.le_of_ble_eq_true rfl) rfl ?_; intro D nx X C P hW)
    refine xg hW k_X_doubt [] 40 ?_
    ((repeat' (first | (with_reducible refine And.intro ?_ ?_) | (intro h0; exact absurd h0 (by decide)) | (intro _) | ((conv => whnf); (first | (with_reducible refine And.intro ?_ ?_) | (intro h0; exact absurd h0 (by decide)) | (intro _))))); (all_goals (try omega)); (all_goals (try exact xnn (by omega))); (all_goals (try exact Nat.le_of_ble_eq_true rfl)); (all_goals (try ((conv => whnf); (first | (refine hW.2.1 _ _ ?_) | (change X _ _ _ _ _ _) | (change C _ _ _ _ _ _ _))))); (all_goals (try simp only [xup_at, xup_ne, xup_up, ne_eq, Nat.reduceEqDiff, not_false_eq_true, Int.toNat_natCast, x_lcmp] at *)); (all_goals (try omega)))
    all_goals exact h1 q
  obtain ⟨n, rfl⟩ := Int.eq_ofNat_of_zero_le q
  obtain ⟨kk, v, e1, e2, b1, b2, b3, cr⟩ := c_readNow' hk
  rw [← e1] at h2
  rw [← e1, ← e2] at hq
  clear e1 e2
  (refine xm_of (own := "DrumTongue") rfl (by decide +kernel) tk_X [some (xR (some 1)), some (xI (n : Int))] (Nat.le_of_ble_eq_true rfl) rfl ?_; intro D nx X C P hW)
  refine xg hW k_X_doubt [] 40 ?_
  ((repeat' (first | (with_reducible refine And.intro ?_ ?_) | (intro h0; exact absurd h0 (by decide)) | (intro _) | ((conv => whnf); (first | (with_reducible refine And.intro ?_ ?_) | (intro h0; exact absurd h0 (by decide)) | (intro _) | (refine hW.1 _ _ _ _ _ _ (cr _ ?_) (by first | decide | omega) (by decide) (Nat.le_of_ble_eq_true rfl)))))); (all_goals (try omega)); (all_goals (try exact xnn (by omega))); (all_goals (try exact Nat.le_of_ble_eq_true rfl)); (all_goals (try ((conv => whnf); (first | (refine hW.2.1 _ _ ?_) | (change X _ _ _ _ _ _) | (change C _ _ _ _ _ _ _))))); (all_goals (try simp only [xup_at, xup_ne, xup_up, ne_eq, Nat.reduceEqDiff, not_false_eq_true, Int.toNat_natCast, x_lcmp] at *)); (all_goals (try omega)))
  · exact hq0 q (by assumption)
  · rename_i hc M1 f1 h25 h27 _ _
    have fr : frE M M1 := fun a ha => f1 a (by omega)
    have g5 : M1 25 5 = (kk : Int) := by rw [h25, xup_ne (by omega), xup_at]
    have g6 : M1 25 6 = v := by rw [h25, xup_at]
    have ho : 0 ≤ M1 25 6 ∧ M1 25 6 ≤ 1000000 := by rw [g6]; omega
    have hw : ∀ q, q < kk → hP M (M1 27 q) := fun q hq => by rw [h27 q hq]; exact b3 q hq
    have gr : ∀ j, j ≠ 5 → j ≠ 6 → M1 25 j = M 25 j := fun j j5 j6 => by rw [h25, xup_ne j6, xup_ne j5]
    rcases Nat.lt_or_ge n kk with hn | hn
    · ((repeat' (first | (with_reducible refine And.intro ?_ ?_) | (intro h0; exact absurd h0 (by decide)) | (intro _) | ((conv => whnf); (first | (with_reducible refine And.intro ?_ ?_) | (intro h0; exact absurd h0 (by decide)) | (intro _) | (rw [g5]) | (refine hW.1 _ _ _ _ _ _ (c_sizeNow ?_) (by first | decide | omega) (by decide) (Nat.le_of_ble_eq_true rfl)) | (refine hW.1 _ _ _ _ _ _ (c_doubtAt fr hk b1 hn g5 ho hw ?_) (by first | decide | omega) (by decide) (Nat.le_of_ble_eq_true rfl)))))); (all_goals (try omega)); (all_goals (try exact xnn (by omega))); (all_goals (try exact Nat.le_of_ble_eq_true rfl)); (all_goals (try ((conv => whnf); (first | (refine hW.2.1 _ _ ?_) | (change X _ _ _ _ _ _) | (change C _ _ _ _ _ _ _))))); (all_goals (try simp only [xup_at, xup_ne, xup_up, ne_eq, Nat.reduceEqDiff, not_false_eq_true, Int.toNat_natCast, x_lcmp] at *)); (all_goals (try omega)))
      rename_i M2 f2
      rw [g6]
      refine hq hc n (M1 27) M2 rfl hn h27 (fun a ha => ?_) (fun j j5 j6 => ?_)
      · rw [f2 a (by omega)]; exact f1 a (by omega)
      · rw [f2 25 (by decide)]; exact gr j j5 j6
    · ((repeat' (first | (with_reducible refine And.intro ?_ ?_) | (intro h0; exact absurd h0 (by decide)) | (intro _) | ((conv => whnf); (first | (with_reducible refine And.intro ?_ ?_) | (intro h0; exact absurd h0 (by decide)) | (intro _) | (rw [g5]) | (refine hW.1 _ _ _ _ _ _ (c_sizeNow ?_) (by first | decide | omega) (by decide) (Nat.le_of_ble_eq_true rfl)))))); (all_goals (try omega)); (all_goals (try exact xnn (by omega))); (all_goals (try exact Nat.le_of_ble_eq_true rfl)); (all_goals (try ((conv => whnf); (first | (refine hW.2.1 _ _ ?_) | (change X _ _ _ _ _ _) | (change C _ _ _ _ _ _ _))))); (all_goals (try simp only [xup_at, xup_ne, xup_up, ne_eq, Nat.reduceEqDiff, not_false_eq_true, Int.toNat_natCast, x_lcmp] at *)); (all_goals (try omega)))
      exact h2 q hc (by omega) M1 (fun a ha => f1 a (by omega)) gr
