set_option maxRecDepth 100000 in
theorem c_Ear_at {M : xM} {Q : Option xV → xM → Prop} {i : Int} (hi : xrg i) (hu : 0 ≤ M 23 1 ∧ M 23 1 ≤ 60) (hq : Q (some (xI (if 0 ≤ i ∧ i < M 23 1 then M 24 i.toNat else -1))) M) : xm 1 m_Ear_at [xR (some 23), xI i] M Q := by
  refine xm_of (own := "DrumTongue$Ear") rfl (by decide +kernel) tk_Ear [some (xR (some 23)), some (xI i)] (Nat.le_of_ble_eq_true rfl) rfl ?_
  intro D nx X C P hW
  refine xg hW k_Ear_at [] 40 ?_
  (repeat' (first | (with_reducible refine And.intro ?_ ?_) | (intro _) | ((conv => whnf); (first | (with_reducible refine And.intro ?_ ?_) | (intro _)))))
  all_goals (try omega)
  all_goals (try ((conv => whnf); (first | (refine hW.2.1 _ _ ?_) | (change X _ _ _ _ _ _) | (change C _ _ _ _ _ _ _))))
  all_goals trace_state
  all_goals sorry
set_option maxRecDepth 100000 in
theorem c_Ear_takeOut {M : xM} {Q : Option xV → xM → Prop} {i : Int} (hi : xrg i) (hu : 0 ≤ M 23 1 ∧ M 23 1 ≤ 60) (hq : Q none M) : xm 1 m_Ear_takeOut [xR (some 23), xI i] M Q := by
  refine xm_of (own := "DrumTongue$Ear") rfl (by decide +kernel) tk_Ear [some (xR (some 23)), some (xI i), none] (Nat.le_of_ble_eq_true rfl) rfl ?_
  intro D nx X C P hW
  refine xg hW k_Ear_takeOut [17] 40 ?_
  (repeat' (first | (with_reducible refine And.intro ?_ ?_) | (intro _) | ((conv => whnf); (first | (with_reducible refine And.intro ?_ ?_) | (intro _)))))
  all_goals (try omega)
  all_goals (try ((conv => whnf); (first | (refine hW.2.1 _ _ ?_) | (change X _ _ _ _ _ _) | (change C _ _ _ _ _ _ _))))
  all_goals trace_state
  all_goals sorry
