/-! readNow, doubt -/
/-- how many words are read, and by how much they are off -/
def bK (M : xM) : Nat := bcK (fun k => rRow M k 0) 12
def bV (M : xM) : Int := rRow M (bK M) 0
theorem bcK_min {r : Nat → Int} : ∀ k, r (bcK r k) ≤ r 0
  | 0 => Int.le_refl _
  | k + 1 => by
    have := bcK_min (r := r) k
    rw [bcK]
    split <;> omega
theorem bV_rg {M : xM} (hk : rdOk M) : 0 ≤ bV M ∧ bV M ≤ 180 := by
  have n1 := hk.1.1
  have n2 := hk.1.2.1
  have h1 := rRow_rg hk (bK M) 0 (by omega)
  have h2 : rRow M (bK M) 0 ≤ rRow M 0 0 := bcK_min (r := fun k => rRow M k 0) 12
  have h3 : rRow M 0 0 = 3 * (M 23 1 - ((0 : Nat) : Int)) := rfl
  unfold bV
  omega
theorem bK_le (M : xM) : bK M ≤ 12 := bcK_le _ 12
set_option maxRecDepth 100000 in
set_option maxHeartbeats 600000 in
theorem c_readNow {M : xM} {Q : Option xV → xM → Prop} (hk : rdOk M) (hq0 : cntP (M 15) (M 3 2).toNat = 0 → Q (some (xI 0)) M) (hq : cntP (M 15) (M 3 2).toNat ≠ 0 → ∀ M', (∀ a, a < 25 ∨ a = 26 ∨ a = 28 ∨ a = 43 ∨ 44 < a → M' a = M a) → M' 25 = xup (xup (M 25) 5 (bK M : Nat)) 6 (bV M) → (∀ i, i < bK M → M' 27 i = (spW M (bV M) (bK M) i : Int)) → (∀ i, bK M ≤ i → M' 27 i = M 27 i) → Q (some (xI 1)) M') : xm 6 m_Reader_readNow [xR (some 25)] M Q := by
  obtain ⟨⟨n1, n2, n3⟩, hp, hw1, hw2⟩ := id hk
  have b1 := bV_rg hk
  have b2 := bK_le M
  have hkv : rRow M (bK M) 0 = bV M := rfl
  have hbk : bK M = bcK (fun k => rRow M k 0) 12 := rfl
  generalize bV M = v at *
  generalize bK M = kk at *
  (refine xm_of (own := "DrumTongue$Reader") rfl (by decide +kernel) tk_Reader [some (xR (some 25)), none] (Nat.le_of_ble_eq_true rfl) rfl ?_; intro D nx X C P hW)
  refine xg hW k_Reader_readNow [] 40 ?_
  ((repeat' (first | (with_reducible refine And.intro ?_ ?_) | (intro h0; exact absurd h0 (by decide)) | (intro _) | ((conv => whnf); (first | (with_reducible refine And.intro ?_ ?_) | (intro h0; exact absurd h0 (by decide)) | (intro _) | (refine hW.1 _ _ _ _ _ _ (c_phraseCount hp hk.2.2 ?_) (by first | decide | omega) (by decide) (Nat.le_of_ble_eq_true rfl)) | (refine hW.1 _ _ _ _ _ _ (c_weighAllCounts hk ?_) (by first | decide | omega) (by decide) (Nat.le_of_ble_eq_true rfl)))))); (all_goals (try omega)); (all_goals (try exact Nat.le_of_ble_eq_true rfl)); (all_goals (try ((conv => whnf); (first | (refine hW.2.1 _ _ ?_) | (change X _ _ _ _ _ _) | (change C _ _ _ _ _ _ _))))); (all_goals (try simp only [xup_at, xup_ne, xup_up, ne_eq, Nat.reduceEqDiff, not_false_eq_true, Int.toNat_natCast, x_lcmp] at *)); (all_goals (try omega)))
  · have := cntP_rg (M 15) (M 3 2).toNat; omega
  · have := cntP_rg (M 15) (M 3 2).toNat; omega
  · rename_i hc M1 f1 r1
    have hr : ∀ k, k ≤ 12 → xrg (M1 (29 + k) 0) := fun k hk12 => by
      rw [r1 k hk12 0 (by omega)]
      have := rRow_rg hk k 0 (by omega)
      unfold xrg
      omega
    have eb : bcK (fun k => M1 (29 + k) 0) 12 = kk := (bcK_congr 12 fun i hi => r1 i hi 0 (by omega)).trans hbk.symm
    have cb : ∀ Q : Option xV → xM → Prop, Q (some (xI (kk : Nat))) M1 → xm 1 m_Reader_bestCount [xR (some 25)] M1 Q := by
      intro Q hQ
      refine c_bestCount hr ?_
      rw [eb]
      exact hQ
    have t1 := (rowA_k kk b2).1
    have t2 : M1 (29 + kk) (Int.toNat 0) = v := (r1 kk b2 0 (by omega)).trans hkv
    clear hbk eb hr
    have t3 : (xup M1 25 (xup (M1 25) 5 (kk : Nat))) (29 + kk) (Int.toNat 0) = v := by rw [xup_ne (by omega)]; exact t2
    have t4 : (xup M1 25 (xup (M1 25) 5 (kk : Nat))) 25 = xup (M1 25) 5 (kk : Nat) := xup_at _ _ _
    ((repeat' (first | (with_reducible refine And.intro ?_ ?_) | (intro h0; exact absurd h0 (by decide)) | (intro _) | ((conv => whnf); (first | (with_reducible refine And.intro ?_ ?_) | (intro h0; exact absurd h0 (by decide)) | (intro _) | (rw [t1]) | (rw [t2]) | (refine hW.1 _ _ _ _ _ _ (cb _ ?_) (by first | decide | omega) (by decide) (Nat.le_of_ble_eq_true rfl)))))); (all_goals (try omega)); (all_goals (try exact Nat.le_of_ble_eq_true rfl)); (all_goals (try ((conv => whnf); (first | (refine hW.2.1 _ _ ?_) | (change X _ _ _ _ _ _) | (change C _ _ _ _ _ _ _))))); (all_goals (try simp only [xup_at, xup_ne, xup_up, ne_eq, Nat.reduceEqDiff, not_false_eq_true, Int.toNat_natCast, x_lcmp] at *)); (all_goals (try omega)))
    ((repeat' (first | (with_reducible refine And.intro ?_ ?_) | (intro h0; exact absurd h0 (by decide)) | (intro _) | ((conv => whnf); (first | (with_reducible refine And.intro ?_ ?_) | (intro h0; exact absurd h0 (by decide)) | (intro _) | (rw [t1]) | (rw [t3]) | (rw [t4]))))); (all_goals (try omega)); (all_goals (try exact Nat.le_of_ble_eq_true rfl)); (all_goals (try ((conv => whnf); (first | (refine hW.2.1 _ _ ?_) | (change X _ _ _ _ _ _) | (change C _ _ _ _ _ _ _))))); (all_goals (try simp only [xup_at, xup_ne, xup_up, ne_eq, Nat.reduceEqDiff, not_false_eq_true, Int.toNat_natCast, x_lcmp] at *)); (all_goals (try omega)))
    have fr2 : frE M (xup M1 25 (xup (xup (M1 25) 5 (kk : Nat)) 6 v)) := fun a ha => by rw [xup_ne (by omega)]; exact f1 a (by omega)
    have hx : xrg v := by unfold xrg; omega
    have g5 : (xup M1 25 (xup (xup (M1 25) 5 (kk : Nat)) 6 v)) 25 5 = (kk : Int) := by rw [xup_at, xup_ne (by omega), xup_at]
    have g6 : (xup M1 25 (xup (xup (M1 25) 5 (kk : Nat)) 6 v)) 25 6 = v := by rw [xup_at, xup_at]
    have gr : ∀ i, i ≤ 12 → ∀ j : Nat, (j : Int) ≤ M 23 1 → (xup M1 25 (xup (xup (M1 25) 5 (kk : Nat)) 6 v)) (29 + i) j = rRow M i j := fun i hi j hj => by rw [xup_ne (by omega)]; exact r1 i hi j hj
    have gw : ∀ i, i < kk → ∃ w : Nat, spW M v kk i = w ∧ w < 10 ∧ M 15 w ≠ -1 := fun i hi => by
      have h := sp_word hk (by omega) hkv hi
      exact ⟨_, rfl, by omega, h.1.1⟩
    ((repeat' (first | (with_reducible refine And.intro ?_ ?_) | (intro h0; exact absurd h0 (by decide)) | (intro _) | ((conv => whnf); (first | (with_reducible refine And.intro ?_ ?_) | (intro h0; exact absurd h0 (by decide)) | (intro _) | (refine hW.1 _ _ _ _ _ _ (c_spell fr2 hk b2 hx g5 g6 gr gw ?_) (by first | decide | omega) (by decide) (Nat.le_of_ble_eq_true rfl)))))); (all_goals (try omega)); (all_goals (try exact Nat.le_of_ble_eq_true rfl)); (all_goals (try ((conv => whnf); (first | (refine hW.2.1 _ _ ?_) | (change X _ _ _ _ _ _) | (change C _ _ _ _ _ _ _))))); (all_goals (try simp only [xup_at, xup_ne, xup_up, ne_eq, Nat.reduceEqDiff, not_false_eq_true, Int.toNat_natCast, x_lcmp] at *)); (all_goals (try omega)))
    rename_i M2 h1 h2 h3
    refine hq hc M2 (fun a ha => ?_) ?_ h2 (fun i hi => ?_)
    · rw [h1 a (by omega), xup_ne (by omega)]; exact f1 a (by omega)
    · rw [h1 25 (by omega), xup_at, f1 25 (by omega)]
    · rw [h3 i hi, f1 27 (by omega)]
  · rename_i h0
    exact hq0 h0
set_option maxRecDepth 100000 in
theorem c_keepAsLast {M : xM} {Q : Option xV → xM → Prop} (hn : xrg (M 25 5)) (hq : ∀ M', (∀ a, a ≠ 25 ∧ a ≠ 26 → M' a = M a) → M' 25 = xup (M 25) 3 (M 25 5) → (∀ i, i < 12 → M' 26 i = M 27 i) → Q none M') : xm 1 m_Reader_keepAsLast [xR (some 25)] M Q := by
  (refine xm_of (own := "DrumTongue$Reader") rfl (by decide +kernel) tk_Reader [some (xR (some 25))] (Nat.le_of_ble_eq_true rfl) rfl ?_; intro D nx X C P hW)
  refine xg hW k_Reader_keepAsLast [] 40 ?_
  ((repeat' (first | (with_reducible refine And.intro ?_ ?_) | (intro h0; exact absurd h0 (by decide)) | (intro _) | ((conv => whnf); (first | (with_reducible refine And.intro ?_ ?_) | (intro h0; exact absurd h0 (by decide)) | (intro _))))); (all_goals (try omega)); (all_goals (try exact Nat.le_of_ble_eq_true rfl)); (all_goals (try ((conv => whnf); (first | (refine hW.2.1 _ _ ?_) | (change X _ _ _ _ _ _) | (change C _ _ _ _ _ _ _))))); (all_goals (try simp only [xup_at, xup_ne, xup_up, ne_eq, Nat.reduceEqDiff, not_false_eq_true, Int.toNat_natCast, x_lcmp] at *)); (all_goals (try omega)))
  refine hq _ (fun a ha => ?_) (xup_at _ _ _) (fun i hi => ?_)
  · rw [xup_ne (by omega), xup_ne (by omega)]
  · rw [xup_ne (by omega), xup_at]
    unfold va_cpy
    rw [show Int.toNat 0 = 0 from rfl, show Int.toNat 12 = 12 from rfl]
    simp only [Nat.zero_le, Nat.zero_add, Nat.sub_zero, true_and, hi, if_true]
set_option maxRecDepth 100000 in
theorem c_lastAt {M : xM} {Q : Option xV → xM → Prop} {i : Int} (hn : 0 ≤ M 25 3 ∧ M 25 3 ≤ 12) (hq : xrg i ∧ (0 ≤ i → i < M 25 3 → Q (some (xI (M 26 i.toNat))) M) ∧ (i < 0 ∨ M 25 3 ≤ i → Q (some (xI (-1))) M)) : xm 1 m_Reader_lastAt [xR (some 25), xI i] M Q := by
  obtain ⟨h1, h2, h3⟩ := hq
  (refine xm_of (own := "DrumTongue$Reader") rfl (by decide +kernel) tk_Reader [some (xR (some 25)), some (xI i)] (Nat.le_of_ble_eq_true rfl) rfl ?_; intro D nx X C P hW)
  refine xg hW k_Reader_lastAt [] 40 ?_
  ((repeat' (first | (with_reducible refine And.intro ?_ ?_) | (intro h0; exact absurd h0 (by decide)) | (intro _) | ((conv => whnf); (first | (with_reducible refine And.intro ?_ ?_) | (intro h0; exact absurd h0 (by decide)) | (intro _))))); (all_goals (try omega)); (all_goals (try exact Nat.le_of_ble_eq_true rfl)); (all_goals (try ((conv => whnf); (first | (refine hW.2.1 _ _ ?_) | (change X _ _ _ _ _ _) | (change C _ _ _ _ _ _ _))))); (all_goals (try simp only [xup_at, xup_ne, xup_up, ne_eq, Nat.reduceEqDiff, not_false_eq_true, Int.toNat_natCast, x_lcmp] at *)); (all_goals (try omega)))
  all_goals first | exact h3 (by omega) | exact h2 (by omega) (by omega)
set_option maxRecDepth 100000 in
theorem c_lastSize {M : xM} {Q : Option xV → xM → Prop} (hq : Q (some (xI (M 25 3))) M) : xm 1 m_Reader_lastSize [xR (some 25)] M Q := by
  (refine xm_of (own := "DrumTongue$Reader") rfl (by decide +kernel) tk_Reader [some (xR (some 25))] (Nat.le_of_ble_eq_true rfl) rfl ?_; intro D nx X C P hW)
  refine xg hW k_Reader_lastSize [] 40 ?_
  ((repeat' (first | (with_reducible refine And.intro ?_ ?_) | (intro h0; exact absurd h0 (by decide)) | (intro _) | ((conv => whnf); (first | (with_reducible refine And.intro ?_ ?_) | (intro h0; exact absurd h0 (by decide)) | (intro _))))); (all_goals (try omega)); (all_goals (try exact Nat.le_of_ble_eq_true rfl)); (all_goals (try ((conv => whnf); (first | (refine hW.2.1 _ _ ?_) | (change X _ _ _ _ _ _) | (change C _ _ _ _ _ _ _))))); (all_goals (try simp only [xup_at, xup_ne, xup_up, ne_eq, Nat.reduceEqDiff, not_false_eq_true, Int.toNat_natCast, x_lcmp] at *)); (all_goals (try omega)))
  all_goals exact hq
set_option maxRecDepth 100000 in
theorem c_sizeNow {M : xM} {Q : Option xV → xM → Prop} (hq : Q (some (xI (M 25 5))) M) : xm 1 m_Reader_sizeNow [xR (some 25)] M Q := by
  (refine xm_of (own := "DrumTongue$Reader") rfl (by decide +kernel) tk_Reader [some (xR (some 25))] (Nat.le_of_ble_eq_true rfl) rfl ?_; intro D nx X C P hW)
  refine xg hW k_Reader_sizeNow [] 40 ?_
  ((repeat' (first | (with_reducible refine And.intro ?_ ?_) | (intro h0; exact absurd h0 (by decide)) | (intro _) | ((conv => whnf); (first | (with_reducible refine And.intro ?_ ?_) | (intro h0; exact absurd h0 (by decide)) | (intro _))))); (all_goals (try omega)); (all_goals (try exact Nat.le_of_ble_eq_true rfl)); (all_goals (try ((conv => whnf); (first | (refine hW.2.1 _ _ ?_) | (change X _ _ _ _ _ _) | (change C _ _ _ _ _ _ _))))); (all_goals (try simp only [xup_at, xup_ne, xup_up, ne_eq, Nat.reduceEqDiff, not_false_eq_true, Int.toNat_natCast, x_lcmp] at *)); (all_goals (try omega)))
  all_goals exact hq
set_option maxRecDepth 100000 in
theorem c_offNow {M : xM} {Q : Option xV → xM → Prop} (hq : Q (some (xI (M 25 6))) M) : xm 1 m_Reader_offNow [xR (some 25)] M Q := by
  (refine xm_of (own := "DrumTongue$Reader") rfl (by decide +kernel) tk_Reader [some (xR (some 25))] (Nat.le_of_ble_eq_true rfl) rfl ?_; intro D nx X C P hW)
  refine xg hW k_Reader_offNow [] 40 ?_
  ((repeat' (first | (with_reducible refine And.intro ?_ ?_) | (intro h0; exact absurd h0 (by decide)) | (intro _) | ((conv => whnf); (first | (with_reducible refine And.intro ?_ ?_) | (intro h0; exact absurd h0 (by decide)) | (intro _))))); (all_goals (try omega)); (all_goals (try exact Nat.le_of_ble_eq_true rfl)); (all_goals (try ((conv => whnf); (first | (refine hW.2.1 _ _ ?_) | (change X _ _ _ _ _ _) | (change C _ _ _ _ _ _ _))))); (all_goals (try simp only [xup_at, xup_ne, xup_up, ne_eq, Nat.reduceEqDiff, not_false_eq_true, Int.toNat_natCast, x_lcmp] at *)); (all_goals (try omega)))
  all_goals exact hq
