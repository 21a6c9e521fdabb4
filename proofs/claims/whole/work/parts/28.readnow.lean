/-! readNow, doubt -/
/-- how many words are read, and by how much they are off -/
def bK (M : xM) : Nat := bcK (fun k => rRow M k 0) 12
def bV (M : xM) : Int := rRow M (bK M) 0
theorem bcK_min {r : Nat → Int} : ∀ k, r (bcK r k) ≤ r 0
  | 0 => Int.le_refl _
  | k + 1 => by
    have := bcK_min (r := r) k
    rw [bcK]
    split <;> omega
theorem bV_rg {M : xM} (hk : rdOk M) : 0 ≤ bV M ∧ bV M ≤ 180 := by
  have n1 := hk.1.1
  have n2 := hk.1.2.1
  have h1 := rRow_rg hk (bK M) 0 (by omega)
  have h2 : rRow M (bK M) 0 ≤ rRow M 0 0 := bcK_min (r := fun k => rRow M k 0) 12
  have h3 : rRow M 0 0 = 3 * (M 23 1 - ((0 : Nat) : Int)) := rfl
  unfold bV
  omega
theorem bK_le (M : xM) : bK M ≤ 12 := bcK_le _ 12
set_option maxRecDepth 100000 in
set_option maxHeartbeats 600000 in
theorem c_readNow {M : xM} {Q : Option xV → xM → Prop} (hk : rdOk M) (hq0 : cntP (M 15) (M 3 2).toNat = 0 → Q (some (xI 0)) M) (hq : cntP (M 15) (M 3 2).toNat ≠ 0 → ∀ M', (∀ a, a < 25 ∨ a = 26 ∨ a = 28 ∨ a = 43 ∨ 44 < a → M' a = M a) → M' 25 = xup (xup (M 25) 5 (bK M : Nat)) 6 (bV M) → (∀ i, i < bK M → M' 27 i = (spW M (bV M) (bK M) i : Int)) → (∀ i, bK M ≤ i → M' 27 i = M 27 i) → Q (some (xI 1)) M') : xm 6 m_Reader_readNow [xR (some 25)] M Q := by
  obtain ⟨⟨n1, n2, n3⟩, hp, hw1, hw2⟩ := id hk
  have b1 := bV_rg hk
  have b2 := bK_le M
  have hkv : rRow M (bK M) 0 = bV M := rfl
  have hbk : bK M = bcK (fun k => rRow M k 0) 12 := rfl
  generalize bV M = v at *
  generalize bK M = kk at *
  (refine xm_of (own := "DrumTongue$Reader") rfl (by decide +kernel) tk_Reader [some (xR (some 25)), none] (Nat.le_of_ble_eq_true rfl) rfl ?_; intro D nx X C P hW)
  refine xg hW k_Reader_readNow [] 40 ?_
  ((repeat' (first | (with_reducible refine And.intro ?_ ?_) | (intro h0; exact absurd h0 (by decide)) | (intro _) | ((conv => whnf); (first | (with_reducible refine And.intro ?_ ?_) | (intro h0; exact absurd h0 (by decide)) | (intro _) | (refine hW.1 _ _ _ _ _ _ (c_phraseCount hp hk.2.2 ?_) (by first | decide | omega) (by decide) (Nat.le_of_ble_eq_true rfl)) | (refine hW.1 _ _ _ _ _ _ (c_weighAllCounts hk ?_) (by first | decide | omega) (by decide) (Nat.le_of_ble_eq_true rfl)))))); (all_goals (try omega)); (all_goals (try exact Nat.le_of_ble_eq_true rfl)); (all_goals (try ((conv => whnf); (first | (refine hW.2.1 _ _ ?_) | (change X _ _ _ _ _ _) | (change C _ _ _ _ _ _ _))))); (all_goals (try simp only [xup_at, xup_ne, xup_up, ne_eq, Nat.reduceEqDiff, not_false_eq_true, Int.toNat_natCast, x_lcmp] at *)); (all_goals (try omega)))
  · have := cntP_rg (M 15) (M 3 2).toNat; omega
  · have := cntP_rg (M 15) (M 3 2).toNat; omega
  · rename_i hc M1 f1 r1
    have hr : ∀ k, k ≤ 12 → xrg (M1 (29 + k) 0) := fun k hk12 => by
      rw [r1 k hk12 0 (by omega)]
      have := rRow_rg hk k 0 (by omega)
      unfold xrg
      omega
    have eb : bcK (fun k => M1 (29 + k) 0) 12 = kk := (bcK_congr 12 fun i hi => r1 i hi 0 (by omega)).trans hbk.symm
    have cb : ∀ Q : Option xV → xM → Prop, Q (some (xI (kk : Nat))) M1 → xm 1 m_Reader_bestCount [xR (some 25)] M1 Q := by
      intro Q hQ
      refine c_bestCount hr ?_
      rw [eb]
      exact hQ
    have t1 := (rowA_k kk b2).1
    have t2 : M1 (29 + kk) (Int.toNat 0) = v := (r1 kk b2 0 (by omega)).trans hkv
    clear hbk eb hr
    have t3 : (xup M1 25 (xup (M1 25) 5 (kk : Nat))) (29 + kk) (Int.toNat 0) = v := by rw [xup_ne (by omega)]; exact t2
    have t4 : (xup M1 25 (xup (M1 25) 5 (kk : Nat))) 25 = xup (M1 25) 5 (kk : Nat) := xup_at _ _ _
    ((repeat' (first | (with_reducible refine And.intro ?_ ?_) | (intro h0; exact absurd h0 (by decide)) | (intro _) | ((conv => whnf); (first | (with_reducible refine And.intro ?_ ?_) | (intro h0; exact absurd h0 (by decide)) | (intro _) | (rw [t1]) | (rw [t2]) | (refine hW.1 _ _ _ _ _ _ (cb _ ?_) (by first | decide | omega) (by decide) (Nat.le_of_ble_eq_true rfl)))))); (all_goals (try omega)); (all_goals (try exact Nat.le_of_ble_eq_true rfl)); (all_goals (try ((conv => whnf); (first | (refine hW.2.1 _ _ ?_) | (change X _ _ _ _ _ _) | (change C _ _ _ _ _ _ _))))); (all_goals (try simp only [xup_at, xup_ne, xup_up, ne_eq, Nat.reduceEqDiff, not_false_eq_true, Int.toNat_natCast, x_lcmp] at *)); (all_goals (try omega)))
    ((repeat' (first | (with_reducible refine And.intro ?_ ?_) | (intro h0; exact absurd h0 (by decide)) | (intro _) | ((conv => whnf); (first | (with_reducible refine And.intro ?_ ?_) | (intro h0; exact absurd h0 (by decide)) | (intro _) | (rw [t1]) | (rw [t3]) | (rw [t4]))))); (all_goals (try omega)); (all_goals (try exact Nat.le_of_ble_eq_true rfl)); (all_goals (try ((conv => whnf); (first | (refine hW.2.1 _ _ ?_) | (change X _ _ _ _ _ _) | (change C _ _ _ _ _ _ _))))); (all_goals (try simp only [xup_at, xup_ne, xup_up, ne_eq, Nat.reduceEqDiff, not_false_eq_true, Int.toNat_natCast, x_lcmp] at *)); (all_goals (try omega)))
    all_goals trace_state
    all_goals sorry
  · rename_i h0
    exact hq0 h0
