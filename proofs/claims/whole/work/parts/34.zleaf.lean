/-! the reference: leaves -/
set_option maxRecDepth 100000 in
set_option maxHeartbeats 600000 in
theorem z_in {M : xM} {Q : Option xV → xM → Prop} {v a b : Int} (h : (xrl v ∧ xrl a ∧ xrl b) ∧ (a ≤ v → v ≤ b → Q (some (xI 1)) M) ∧ (v < a ∨ b < v → Q (some (xI 0)) M)) : xm 1 m_M_in [xJ v, xJ a, xJ b] M Q := by
  obtain ⟨⟨⟨a1, a2⟩, ⟨b1, b2⟩, c1, c2⟩, h4, h5⟩ := h
  (refine xm_of (own := "DrumTongueModel") rfl (by decide +kernel) tk_M [some (xJ v), none, some (xJ a), none, some (xJ b), none] (Nat.le_of_ble_eq_true rfl) rfl ?_; intro D nx X C P hW)
  refine xg hW k_M_in [] 40 ?_
  ((repeat' (first | (with_reducible refine And.intro ?_ ?_) | (intro h0; exact absurd h0 (by decide)) | (intro _) | ((conv => whnf); (first | (with_reducible refine And.intro ?_ ?_) | (intro h0; exact absurd h0 (by decide)) | (intro _))))); (all_goals (try omega)); (all_goals (try exact xnn (by omega))); (all_goals (try exact Nat.le_of_ble_eq_true rfl)); (all_goals (try ((conv => whnf); (first | (refine hW.2.1 _ _ ?_) | (change X _ _ _ _ _ _) | (change C _ _ _ _ _ _ _))))); (all_goals (try simp only [xup_at, xup_ne, xup_up, ne_eq, Nat.reduceEqDiff, not_false_eq_true, Int.toNat_natCast, x_lcmp] at *)); (all_goals (try omega)))
  all_goals first | exact h4 (by omega) (by omega) | exact h5 (by omega) | trace_state
set_option maxRecDepth 100000 in
set_option maxHeartbeats 600000 in
theorem z_gone {M : xM} {Q : Option xV → xM → Prop} (h : Q none (xup M 74 (xfill (M 74) 10 (-1)))) : xm 1 m_M_gone [xR (some 64)] M Q := by
  (refine xm_of (own := "DrumTongueModel") rfl (by decide +kernel) tk_M [some (xR (some 64)), none] (Nat.le_of_ble_eq_true rfl) rfl ?_; intro D nx X C P hW)
  have loop : ∀ (m k : Nat), k + m = 10 → X 2 [some (xR (some 64)), some (xI (k : Int))] [] (xup M 74 (xfill (M 74) k (-1)), D, nx) 0 0 := by
    intro m
    induction m with
    | zero =>
      intro k hk
      obtain rfl : k = 10 := by omega
      refine xg hW k_M_gone [2] 40 ?_
      ((repeat' (first | (with_reducible refine And.intro ?_ ?_) | (intro h0; exact absurd h0 (by decide)) | (intro _) | ((conv => whnf); (first | (with_reducible refine And.intro ?_ ?_) | (intro h0; exact absurd h0 (by decide)) | (intro _))))); (all_goals (try omega)); (all_goals (try exact xnn (by omega))); (all_goals (try exact Nat.le_of_ble_eq_true rfl)); (all_goals (try ((conv => whnf); (first | (refine hW.2.1 _ _ ?_) | (change X _ _ _ _ _ _) | (change C _ _ _ _ _ _ _))))); (all_goals (try simp only [xup_at, xup_ne, xup_up, ne_eq, Nat.reduceEqDiff, not_false_eq_true, Int.toNat_natCast, x_lcmp] at *)); (all_goals (try omega)))
      all_goals exact h
    | succ m ih =>
      intro k hk
      have h5 := ih (k + 1) (by omega)
      refine xg hW k_M_gone [2] 40 ?_
      ((repeat' (first | (with_reducible refine And.intro ?_ ?_) | (intro h0; exact absurd h0 (by decide)) | (intro _) | ((conv => whnf); (first | (with_reducible refine And.intro ?_ ?_) | (intro h0; exact absurd h0 (by decide)) | (intro _))))); (all_goals (try omega)); (all_goals (try exact xnn (by omega))); (all_goals (try exact Nat.le_of_ble_eq_true rfl)); (all_goals (try ((conv => whnf); (first | (refine hW.2.1 _ _ ?_) | (change X _ _ _ _ _ _) | (change C _ _ _ _ _ _ _))))); (all_goals (try simp only [xup_at, xup_ne, xup_up, ne_eq, Nat.reduceEqDiff, not_false_eq_true, Int.toNat_natCast, x_lcmp] at *)); (all_goals (try omega)))
      rw [xfill_s]
      exact h5
  have h0 := loop 10 0 (by omega)
  rw [xfill_0, xup_id] at h0
  refine xg hW k_M_gone [2] 40 ?_
  ((repeat' (first | (with_reducible refine And.intro ?_ ?_) | (intro h0; exact absurd h0 (by decide)) | (intro _) | ((conv => whnf); (first | (with_reducible refine And.intro ?_ ?_) | (intro h0; exact absurd h0 (by decide)) | (intro _))))); (all_goals (try omega)); (all_goals (try exact xnn (by omega))); (all_goals (try exact Nat.le_of_ble_eq_true rfl)); (all_goals (try ((conv => whnf); (first | (refine hW.2.1 _ _ ?_) | (change X _ _ _ _ _ _) | (change C _ _ _ _ _ _ _))))); (all_goals (try simp only [xup_at, xup_ne, xup_up, ne_eq, Nat.reduceEqDiff, not_false_eq_true, Int.toNat_natCast, x_lcmp] at *)); (all_goals (try omega)))
  all_goals exact h0
set_option maxRecDepth 100000 in
set_option maxHeartbeats 600000 in
theorem z_isRow {M : xM} {Q : Option xV → xM → Prop} {n b : Int} (h : (xrg n ∧ xrg b) ∧ (isRow n b → Q (some (xI 1)) M) ∧ (¬ isRow n b → Q (some (xI 0)) M)) : xm 2 m_M_isRow [xI n, xI b] M Q := by
  obtain ⟨⟨⟨n1, n2⟩, b1, b2⟩, h4, h5⟩ := h
  unfold isRow at h4 h5
  by_cases q : 1 ≤ n ∧ n ≤ 6
  · obtain ⟨q1, q2⟩ := q
    have e : x_ishl 1 n = 2 ^ n.toNat := xshl1 (by omega) (by omega)
    have r := xpow_rg (n := n) (by omega)
    rw [← e] at r h4 h5
    (refine xm_of (own := "DrumTongueModel") rfl (by decide +kernel) tk_M [some (xI n), some (xI b)] (Nat.le_of_ble_eq_true rfl) rfl ?_; intro D nx X C P hW)
    refine xg hW k_M_isRow [] 40 ?_
    ((repeat' (first | (with_reducible refine And.intro ?_ ?_) | (intro h0; exact absurd h0 (by decide)) | (intro _) | ((conv => whnf); (first | (with_reducible refine And.intro ?_ ?_) | (intro h0; exact absurd h0 (by decide)) | (intro _) | (refine hW.1 _ _ _ _ _ _ (z_in ?_) (by first | decide | omega) (by decide) (Nat.le_of_ble_eq_true rfl)))))); (all_goals (try omega)); (all_goals (try exact xnn (by omega))); (all_goals (try exact Nat.le_of_ble_eq_true rfl)); (all_goals (try ((conv => whnf); (first | (refine hW.2.1 _ _ ?_) | (change X _ _ _ _ _ _) | (change C _ _ _ _ _ _ _))))); (all_goals (try simp only [xup_at, xup_ne, xup_up, ne_eq, Nat.reduceEqDiff, not_false_eq_true, Int.toNat_natCast, x_lcmp] at *)); (all_goals (try omega)))
    all_goals first | exact h4 (by omega) | exact h5 (by omega) | trace_state
  · (refine xm_of (own := "DrumTongueModel") rfl (by decide +kernel) tk_M [some (xI n), some (xI b)] (Nat.le_of_ble_eq_true rfl) rfl ?_; intro D nx X C P hW)
    refine xg hW k_M_isRow [] 40 ?_
    ((repeat' (first | (with_reducible refine And.intro ?_ ?_) | (intro h0; exact absurd h0 (by decide)) | (intro _) | ((conv => whnf); (first | (with_reducible refine And.intro ?_ ?_) | (intro h0; exact absurd h0 (by decide)) | (intro _) | (refine hW.1 _ _ _ _ _ _ (z_in ?_) (by first | decide | omega) (by decide) (Nat.le_of_ble_eq_true rfl)))))); (all_goals (try omega)); (all_goals (try exact xnn (by omega))); (all_goals (try exact Nat.le_of_ble_eq_true rfl)); (all_goals (try ((conv => whnf); (first | (refine hW.2.1 _ _ ?_) | (change X _ _ _ _ _ _) | (change C _ _ _ _ _ _ _))))); (all_goals (try simp only [xup_at, xup_ne, xup_up, ne_eq, Nat.reduceEqDiff, not_false_eq_true, Int.toNat_natCast, x_lcmp] at *)); (all_goals (try omega)))
    all_goals exact h5 (fun p => q ⟨p.1, p.2.1⟩)
