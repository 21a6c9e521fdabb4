/-! the class's public methods -/
set_option maxRecDepth 100000 in
set_option maxHeartbeats 600000 in
theorem p_readAt {M : xM} {Q : Option xV → xM → Prop} {i : Int} (hn : 0 ≤ M 25 3 ∧ M 25 3 ≤ 12) (hi : xrg i) (h1 : 0 ≤ i → i < M 25 3 → Q (some (xI (M 26 i.toNat))) M) (h2 : i < 0 ∨ M 25 3 ≤ i → Q (some (xI (-1))) M) : xm 2 m_X_readAt [xR (some 1), xI i] M Q := by
  (refine xm_of (own := "DrumTongue") rfl (by decide +kernel) tk_X [some (xR (some 1)), some (xI i)] (Nat.le_of_ble_eq_true rfl) rfl ?_; intro D nx X C P hW)
  refine xg hW k_X_readAt [] 40 ?_
  ((repeat' (first | (with_reducible refine And.intro ?_ ?_) | (intro h0; exact absurd h0 (by decide)) | (intro _) | ((conv => whnf); (first | (with_reducible refine And.intro ?_ ?_) | (intro h0; exact absurd h0 (by decide)) | (intro _) | (refine hW.1 _ _ _ _ _ _ (c_lastAt hn ?_) (by first | decide | omega) (by decide) (Nat.le_of_ble_eq_true rfl)))))); (all_goals (try omega)); (all_goals (try exact Nat.le_of_ble_eq_true rfl)); (all_goals (try ((conv => whnf); (first | (refine hW.2.1 _ _ ?_) | (change X _ _ _ _ _ _) | (change C _ _ _ _ _ _ _))))); (all_goals (try simp only [xup_at, xup_ne, xup_up, ne_eq, Nat.reduceEqDiff, not_false_eq_true, Int.toNat_natCast, x_lcmp] at *)); (all_goals (try omega)))
  all_goals first | exact hi | exact h1 (by omega) (by omega) | exact h2 (by omega)
