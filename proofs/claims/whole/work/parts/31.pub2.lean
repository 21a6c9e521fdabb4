/-! public methods that read -/
set_option maxRecDepth 100000 in
set_option maxHeartbeats 600000 in
theorem p_most {M : xM} {Q : Option xV → xM → Prop} (hk : rdOk M) (hq0 : cntP (M 15) (M 3 2).toNat = 0 → Q (some (xI (-3))) M) (hq : cntP (M 15) (M 3 2).toNat ≠ 0 → ∀ M', (∀ a, a < 25 ∨ a = 26 ∨ a = 28 ∨ 44 < a → M' a = M a) → M' 25 = xup (xup (M 25) 5 (bK M : Nat)) 6 (bV M) → Q (some (xI (mid (fun i => dbt M (arF M (fun i => (spW M (bV M) (bK M) i : Int)) i) (arB M (fun i => (spW M (bV M) (bK M) i : Int)) (bK M) (bK M - i - 1)) (bV M) (spW M (bV M) (bK M) i) (M 3 2).toNat) (bK M)).1)) M') : xm 7 m_X_most [xR (some 1)] M Q := by
  sorry
