set_option maxRecDepth 100000 in
theorem c_Ear_at {M : xM} {Q : Option xV → xM → Prop} {i : Int} (hi : xrg i) (hu : 0 ≤ M 23 1 ∧ M 23 1 ≤ 60) (hq : Q (some (xI (if 0 ≤ i ∧ i < M 23 1 then M 24 i.toNat else -1))) M) : xm 1 m_Ear_at [xR (some 23), xI i] M Q := by
  refine xm_of (own := "DrumTongue$Ear") rfl (by decide +kernel) tk_Ear [some (xR (some 23)), some (xI i)] (by decide) rfl ?_
  intro D nx X C P hW
  refine xg hW k_Ear_at [] 20 ?_
  conv => whnf
  sorry
