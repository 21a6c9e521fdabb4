/-! the reference: count, digest -/
/-- what was read last is the same -/
def relL (M : xM) : Prop := M 64 15 = M 25 3 ∧ 0 ≤ M 25 3 ∧ M 25 3 ≤ 12 ∧ ∀ i : Nat, (i : Int) < M 25 3 → M 76 i = M 26 i ∧ xrg (M 26 i)
theorem cntG_congr {f f' : Nat → Int} : ∀ k, (∀ i, i < k → f i = f' i) → cntG f k = cntG f' k
  | 0, _ => rfl
  | k + 1, h => by rw [cntG, cntG, cntG_congr k (fun i hi => h i (by omega)), h k (by omega)]
theorem mixH_congr {f f' : Nat → Int} {h : Int} : ∀ k, (∀ i, i < k → f i = f' i) → mixH f h k = mixH f' h k
  | 0, _ => rfl
  | k + 1, e => by rw [mixH, mixH, mixH_congr k (fun i hi => e i (by omega)), e k (by omega)]
set_option maxRecDepth 100000 in
set_option maxHeartbeats 1000000 in
theorem z_count {M : xM} {Q : Option xV → xM → Prop} {x : Int} (hz : zR M) (hl : relL M) (hx : xrg x) (h : Q (some (xI (cntV M x))) M) : xm 3 m_M_count [xR (some 64), xI x] M Q := by
  obtain ⟨x1, x2⟩ := hx
  have hrd := hz.rd
  obtain ⟨n, hn⟩ := Int.eq_ofNat_of_zero_le hrd.1.1
  obtain ⟨nW, hWn⟩ := Int.eq_ofNat_of_zero_le hrd.2.2.1
  have w10 := hrd.2.2.2
  have n60 := hrd.1.2.1
  have e13 : M 64 13 = (n : Int) := by rw [hz.2.1.1]; exact hn
  have e640 : M 64 0 = (nW : Int) := by rw [hz.1.1.2.2.2.1.1]; exact hWn
  have e643 : M 64 3 = M 6 2 := hz.1.1.2.2.2.1.2.1
  have e646 : M 64 6 = M 2 6 := hz.1.1.2.2.2.1.2.2.1
  have e6415 : M 64 15 = M 25 3 := hl.1
  have cp := z_phrased' hz.1
  have gg : cntG (M 75) n = cntG (M 24) n := cntG_congr n (fun i hi => hz.2.1.2 i (by omega))
  have rg := cntG_rg (M 24) n
  unfold cntV at h
  rw [hWn, hn, Int.toNat_natCast, Int.toNat_natCast, ← gg] at h
  rw [← gg] at rg
  rw [hWn, Int.toNat_natCast] at cp
  rcases Classical.em (¬ (0 ≤ x ∧ x ≤ 7)) with hx | hx
  · rw [if_neg (by omega), if_neg (by omega), if_neg (by omega), if_neg (by omega), if_neg (by omega), if_neg (by omega), if_neg (by omega), if_neg (by omega)] at h
    clear cp hz hrd gg rg
    (refine xm_of (own := "DrumTongueModel") rfl (by decide +kernel) tk_M [some (xR (some 64)), some (xI x), none, none, none] (Nat.le_of_ble_eq_true rfl) rfl ?_; intro D nx X C P hW)
    refine xg hW k_M_count [19] 40 ?_
    ((repeat' (first | (with_reducible refine And.intro ?_ ?_) | (intro h0; exact absurd h0 (by decide)) | (intro h0; exact absurd rfl h0) | (intro h0; exfalso; clear hW; omega) | (intro _) | ((conv => whnf); (first | (with_reducible refine And.intro ?_ ?_) | (intro h0; exact absurd h0 (by decide)) | (intro h0; exact absurd rfl h0) | (intro h0; exfalso; clear hW; omega) | (intro _) | (refine hW.1 _ _ _ _ _ _ (z_in ?_) (by first | decide | omega) (by decide) (Nat.le_of_ble_eq_true rfl)))))); (all_goals (try omega)); (all_goals (try exact xnn (by omega))); (all_goals (try exact Nat.le_of_ble_eq_true rfl)); (all_goals (try ((conv => whnf); (first | (refine hW.2.1 _ _ ?_) | (change X _ _ _ _ _ _) | (change C _ _ _ _ _ _ _))))); (all_goals (try simp only [xup_at, xup_ne, xup_up, ne_eq, Nat.reduceEqDiff, not_false_eq_true, Int.toNat_natCast, x_lcmp] at *)); (all_goals (try omega)))
    all_goals exact h
  obtain ⟨x3, x4⟩ : 0 ≤ x ∧ x ≤ 7 := by omega
  (refine xm_of (own := "DrumTongueModel") rfl (by decide +kernel) tk_M [some (xR (some 64)), some (xI x), none, none, none] (Nat.le_of_ble_eq_true rfl) rfl ?_; intro D nx X C P hW)
  have last : ∀ b g : Int, b = sumP (M 15) (M 16) nW → g = cntG (M 75) n → ∀ x4 : Option xV, X 94 [some (xR (some 64)), some (xI x), some (xI b), some (xI g), x4] [] (M, D, nx) 0 0 := by
    intro b g hb hg x4
    rw [← hb, ← hg] at h
    clear hz hrd gg rg hb hg
    have q : x = 0 ∨ x = 1 ∨ x = 2 ∨ x = 3 ∨ x = 4 ∨ x = 5 ∨ x = 6 ∨ x = 7 := by omega
    rcases q with rfl | rfl | rfl | rfl | rfl | rfl | rfl | rfl <;> simp only [Int.reduceEq, if_true, if_false] at h
    · rw [← hWn, ← e640.trans hWn.symm] at h
      refine xg hW k_M_count [] 40 ?_
      ((repeat' (first | (with_reducible refine And.intro ?_ ?_) | (intro h0; exact absurd h0 (by decide)) | (intro h0; exact absurd rfl h0) | (intro h0; exfalso; clear hW; omega) | (intro _) | ((conv => whnf); (first | (with_reducible refine And.intro ?_ ?_) | (intro h0; exact absurd h0 (by decide)) | (intro h0; exact absurd rfl h0) | (intro h0; exfalso; clear hW; omega) | (intro _) | (refine hW.1 _ _ _ _ _ _ (cp _ ?_) (by first | decide | omega) (by decide) (Nat.le_of_ble_eq_true rfl)))))); (all_goals (try omega)); (all_goals (try exact xnn (by omega))); (all_goals (try exact Nat.le_of_ble_eq_true rfl)); (all_goals (try ((conv => whnf); (first | (refine hW.2.1 _ _ ?_) | (change X _ _ _ _ _ _) | (change C _ _ _ _ _ _ _))))); (all_goals (try simp only [xup_at, xup_ne, xup_up, ne_eq, Nat.reduceEqDiff, not_false_eq_true, Int.toNat_natCast, x_lcmp] at *)); (all_goals (try omega)))
      all_goals exact h
    · rw [← e643] at h
      refine xg hW k_M_count [] 40 ?_
      ((repeat' (first | (with_reducible refine And.intro ?_ ?_) | (intro h0; exact absurd h0 (by decide)) | (intro h0; exact absurd rfl h0) | (intro h0; exfalso; clear hW; omega) | (intro _) | ((conv => whnf); (first | (with_reducible refine And.intro ?_ ?_) | (intro h0; exact absurd h0 (by decide)) | (intro h0; exact absurd rfl h0) | (intro h0; exfalso; clear hW; omega) | (intro _) | (refine hW.1 _ _ _ _ _ _ (cp _ ?_) (by first | decide | omega) (by decide) (Nat.le_of_ble_eq_true rfl)))))); (all_goals (try omega)); (all_goals (try exact xnn (by omega))); (all_goals (try exact Nat.le_of_ble_eq_true rfl)); (all_goals (try ((conv => whnf); (first | (refine hW.2.1 _ _ ?_) | (change X _ _ _ _ _ _) | (change C _ _ _ _ _ _ _))))); (all_goals (try simp only [xup_at, xup_ne, xup_up, ne_eq, Nat.reduceEqDiff, not_false_eq_true, Int.toNat_natCast, x_lcmp] at *)); (all_goals (try omega)))
      all_goals exact h
    · rw [← e646] at h
      refine xg hW k_M_count [] 40 ?_
      ((repeat' (first | (with_reducible refine And.intro ?_ ?_) | (intro h0; exact absurd h0 (by decide)) | (intro h0; exact absurd rfl h0) | (intro h0; exfalso; clear hW; omega) | (intro _) | ((conv => whnf); (first | (with_reducible refine And.intro ?_ ?_) | (intro h0; exact absurd h0 (by decide)) | (intro h0; exact absurd rfl h0) | (intro h0; exfalso; clear hW; omega) | (intro _) | (refine hW.1 _ _ _ _ _ _ (cp _ ?_) (by first | decide | omega) (by decide) (Nat.le_of_ble_eq_true rfl)))))); (all_goals (try omega)); (all_goals (try exact xnn (by omega))); (all_goals (try exact Nat.le_of_ble_eq_true rfl)); (all_goals (try ((conv => whnf); (first | (refine hW.2.1 _ _ ?_) | (change X _ _ _ _ _ _) | (change C _ _ _ _ _ _ _))))); (all_goals (try simp only [xup_at, xup_ne, xup_up, ne_eq, Nat.reduceEqDiff, not_false_eq_true, Int.toNat_natCast, x_lcmp] at *)); (all_goals (try omega)))
      all_goals exact h
    · refine xg hW k_M_count [] 40 ?_
      ((repeat' (first | (with_reducible refine And.intro ?_ ?_) | (intro h0; exact absurd h0 (by decide)) | (intro h0; exact absurd rfl h0) | (intro h0; exfalso; clear hW; omega) | (intro _) | ((conv => whnf); (first | (with_reducible refine And.intro ?_ ?_) | (intro h0; exact absurd h0 (by decide)) | (intro h0; exact absurd rfl h0) | (intro h0; exfalso; clear hW; omega) | (intro _) | (refine hW.1 _ _ _ _ _ _ (cp _ ?_) (by first | decide | omega) (by decide) (Nat.le_of_ble_eq_true rfl)))))); (all_goals (try omega)); (all_goals (try exact xnn (by omega))); (all_goals (try exact Nat.le_of_ble_eq_true rfl)); (all_goals (try ((conv => whnf); (first | (refine hW.2.1 _ _ ?_) | (change X _ _ _ _ _ _) | (change C _ _ _ _ _ _ _))))); (all_goals (try simp only [xup_at, xup_ne, xup_up, ne_eq, Nat.reduceEqDiff, not_false_eq_true, Int.toNat_natCast, x_lcmp] at *)); (all_goals (try omega)))
      all_goals exact h
    · refine xg hW k_M_count [] 40 ?_
      ((repeat' (first | (with_reducible refine And.intro ?_ ?_) | (intro h0; exact absurd h0 (by decide)) | (intro h0; exact absurd rfl h0) | (intro h0; exfalso; clear hW; omega) | (intro _) | ((conv => whnf); (first | (with_reducible refine And.intro ?_ ?_) | (intro h0; exact absurd h0 (by decide)) | (intro h0; exact absurd rfl h0) | (intro h0; exfalso; clear hW; omega) | (intro _) | (refine hW.1 _ _ _ _ _ _ (cp _ ?_) (by first | decide | omega) (by decide) (Nat.le_of_ble_eq_true rfl)))))); (all_goals (try omega)); (all_goals (try exact xnn (by omega))); (all_goals (try exact Nat.le_of_ble_eq_true rfl)); (all_goals (try ((conv => whnf); (first | (refine hW.2.1 _ _ ?_) | (change X _ _ _ _ _ _) | (change C _ _ _ _ _ _ _))))); (all_goals (try simp only [xup_at, xup_ne, xup_up, ne_eq, Nat.reduceEqDiff, not_false_eq_true, Int.toNat_natCast, x_lcmp] at *)); (all_goals (try omega)))
      all_goals exact h
    · rw [← e13] at h
      refine xg hW k_M_count [] 40 ?_
      ((repeat' (first | (with_reducible refine And.intro ?_ ?_) | (intro h0; exact absurd h0 (by decide)) | (intro h0; exact absurd rfl h0) | (intro h0; exfalso; clear hW; omega) | (intro _) | ((conv => whnf); (first | (with_reducible refine And.intro ?_ ?_) | (intro h0; exact absurd h0 (by decide)) | (intro h0; exact absurd rfl h0) | (intro h0; exfalso; clear hW; omega) | (intro _) | (refine hW.1 _ _ _ _ _ _ (cp _ ?_) (by first | decide | omega) (by decide) (Nat.le_of_ble_eq_true rfl)))))); (all_goals (try omega)); (all_goals (try exact xnn (by omega))); (all_goals (try exact Nat.le_of_ble_eq_true rfl)); (all_goals (try ((conv => whnf); (first | (refine hW.2.1 _ _ ?_) | (change X _ _ _ _ _ _) | (change C _ _ _ _ _ _ _))))); (all_goals (try simp only [xup_at, xup_ne, xup_up, ne_eq, Nat.reduceEqDiff, not_false_eq_true, Int.toNat_natCast, x_lcmp] at *)); (all_goals (try omega)))
      all_goals exact h
    · refine xg hW k_M_count [] 40 ?_
      ((repeat' (first | (with_reducible refine And.intro ?_ ?_) | (intro h0; exact absurd h0 (by decide)) | (intro h0; exact absurd rfl h0) | (intro h0; exfalso; clear hW; omega) | (intro _) | ((conv => whnf); (first | (with_reducible refine And.intro ?_ ?_) | (intro h0; exact absurd h0 (by decide)) | (intro h0; exact absurd rfl h0) | (intro h0; exfalso; clear hW; omega) | (intro _) | (refine hW.1 _ _ _ _ _ _ (cp _ ?_) (by first | decide | omega) (by decide) (Nat.le_of_ble_eq_true rfl)))))); (all_goals (try omega)); (all_goals (try exact xnn (by omega))); (all_goals (try exact Nat.le_of_ble_eq_true rfl)); (all_goals (try ((conv => whnf); (first | (refine hW.2.1 _ _ ?_) | (change X _ _ _ _ _ _) | (change C _ _ _ _ _ _ _))))); (all_goals (try simp only [xup_at, xup_ne, xup_up, ne_eq, Nat.reduceEqDiff, not_false_eq_true, Int.toNat_natCast, x_lcmp] at *)); (all_goals (try omega)))
      all_goals exact h
    · rw [← e6415] at h
      refine xg hW k_M_count [] 40 ?_
      ((repeat' (first | (with_reducible refine And.intro ?_ ?_) | (intro h0; exact absurd h0 (by decide)) | (intro h0; exact absurd rfl h0) | (intro h0; exfalso; clear hW; omega) | (intro _) | ((conv => whnf); (first | (with_reducible refine And.intro ?_ ?_) | (intro h0; exact absurd h0 (by decide)) | (intro h0; exact absurd rfl h0) | (intro h0; exfalso; clear hW; omega) | (intro _) | (refine hW.1 _ _ _ _ _ _ (cp _ ?_) (by first | decide | omega) (by decide) (Nat.le_of_ble_eq_true rfl)))))); (all_goals (try omega)); (all_goals (try exact xnn (by omega))); (all_goals (try exact Nat.le_of_ble_eq_true rfl)); (all_goals (try ((conv => whnf); (first | (refine hW.2.1 _ _ ?_) | (change X _ _ _ _ _ _) | (change C _ _ _ _ _ _ _))))); (all_goals (try simp only [xup_at, xup_ne, xup_up, ne_eq, Nat.reduceEqDiff, not_false_eq_true, Int.toNat_natCast, x_lcmp] at *)); (all_goals (try omega)))
      all_goals exact h
  have ear : ∀ (m k : Nat), k + m = n → ∀ b : Int, b = sumP (M 15) (M 16) nW → X 60 [some (xR (some 64)), some (xI x), some (xI b), some (xI (cntG (M 75) k)), some (xI (k : Int))] [] (M, D, nx) 0 0 := by
    intro m
    induction m with
    | zero =>
      intro k hk b hb
      obtain rfl : k = n := by omega
      have h5 := last b (cntG (M 75) k) hb rfl (some (xI (k : Int)))
      clear cp hz hrd gg rg h last hb
      generalize cntG (M 75) k = g at *
      refine xg hW k_M_count [60, 94] 40 ?_
      ((repeat' (first | (with_reducible refine And.intro ?_ ?_) | (intro h0; exact absurd h0 (by decide)) | (intro h0; exact absurd rfl h0) | (intro h0; exfalso; clear hW; omega) | (intro _) | ((conv => whnf); (first | (with_reducible refine And.intro ?_ ?_) | (intro h0; exact absurd h0 (by decide)) | (intro h0; exact absurd rfl h0) | (intro h0; exfalso; clear hW; omega) | (intro _))))); (all_goals (try omega)); (all_goals (try exact xnn (by omega))); (all_goals (try exact Nat.le_of_ble_eq_true rfl)); (all_goals (try ((conv => whnf); (first | (refine hW.2.1 _ _ ?_) | (change X _ _ _ _ _ _) | (change C _ _ _ _ _ _ _))))); (all_goals (try simp only [xup_at, xup_ne, xup_up, ne_eq, Nat.reduceEqDiff, not_false_eq_true, Int.toNat_natCast, x_lcmp] at *)); (all_goals (try omega)))
      all_goals exact h5
    | succ m ih =>
      intro k hk b hb
      have h5 := ih (k + 1) (by omega) b hb
      rw [cntG] at h5
      have g1 : -1 ≤ M 75 k ∧ M 75 k ≤ 1 := by rw [hz.2.1.2 k (by omega)]; exact hrd.1.2.2 k
      clear cp hz hrd gg rg h last hb ih
      generalize cntG (M 75) k = g at *
      by_cases q : M 75 k = -1
      · rw [if_pos q] at h5
        have q' : M 75 ((k : Int).toNat) = -1 := q
        refine xg hW k_M_count [60, 94] 40 ?_
        ((repeat' (first | (with_reducible refine And.intro ?_ ?_) | (intro h0; exact absurd h0 (by decide)) | (intro h0; exact absurd rfl h0) | (intro h0; exfalso; clear hW; omega) | (intro _) | ((conv => whnf); (first | (with_reducible refine And.intro ?_ ?_) | (intro h0; exact absurd h0 (by decide)) | (intro h0; exact absurd rfl h0) | (intro h0; exfalso; clear hW; omega) | (intro _))))); (all_goals (try omega)); (all_goals (try exact xnn (by omega))); (all_goals (try exact Nat.le_of_ble_eq_true rfl)); (all_goals (try ((conv => whnf); (first | (refine hW.2.1 _ _ ?_) | (change X _ _ _ _ _ _) | (change C _ _ _ _ _ _ _))))); (all_goals (try simp only [xup_at, xup_ne, xup_up, ne_eq, Nat.reduceEqDiff, not_false_eq_true, Int.toNat_natCast, x_lcmp] at *)); (all_goals (try omega)))
        all_goals exact h5
      · rw [if_neg q] at h5
        have q' : M 75 ((k : Int).toNat) ≠ -1 := q
        have g1' : -1 ≤ M 75 ((k : Int).toNat) ∧ M 75 ((k : Int).toNat) ≤ 1 := g1
        refine xg hW k_M_count [60, 94] 40 ?_
        ((repeat' (first | (with_reducible refine And.intro ?_ ?_) | (intro h0; exact absurd h0 (by decide)) | (intro h0; exact absurd rfl h0) | (intro h0; exfalso; clear hW; omega) | (intro _) | ((conv => whnf); (first | (with_reducible refine And.intro ?_ ?_) | (intro h0; exact absurd h0 (by decide)) | (intro h0; exact absurd rfl h0) | (intro h0; exfalso; clear hW; omega) | (intro _))))); (all_goals (try omega)); (all_goals (try exact xnn (by omega))); (all_goals (try exact Nat.le_of_ble_eq_true rfl)); (all_goals (try ((conv => whnf); (first | (refine hW.2.1 _ _ ?_) | (change X _ _ _ _ _ _) | (change C _ _ _ _ _ _ _))))); (all_goals (try simp only [xup_at, xup_ne, xup_up, ne_eq, Nat.reduceEqDiff, not_false_eq_true, Int.toNat_natCast, x_lcmp] at *)); (all_goals (try omega)))
        all_goals exact h5
  have wl : ∀ (m w : Nat), w + m = nW → X 19 [some (xR (some 64)), some (xI x), some (xI (sumP (M 15) (M 16) w)), some (xI (w : Int)), none] [] (M, D, nx) 0 0 := by
    intro m
    induction m with
    | zero =>
      intro w hw
      obtain rfl : w = nW := by omega
      have h5 := ear n 0 (by omega) _ rfl
      clear cp hz hrd gg rg h last ear
      generalize sumP (M 15) (M 16) w = b at *
      refine xg hW k_M_count [19, 60] 40 ?_
      ((repeat' (first | (with_reducible refine And.intro ?_ ?_) | (intro h0; exact absurd h0 (by decide)) | (intro h0; exact absurd rfl h0) | (intro h0; exfalso; clear hW; omega) | (intro _) | ((conv => whnf); (first | (with_reducible refine And.intro ?_ ?_) | (intro h0; exact absurd h0 (by decide)) | (intro h0; exact absurd rfl h0) | (intro h0; exfalso; clear hW; omega) | (intro _))))); (all_goals (try omega)); (all_goals (try exact xnn (by omega))); (all_goals (try exact Nat.le_of_ble_eq_true rfl)); (all_goals (try ((conv => whnf); (first | (refine hW.2.1 _ _ ?_) | (change X _ _ _ _ _ _) | (change C _ _ _ _ _ _ _))))); (all_goals (try simp only [xup_at, xup_ne, xup_up, ne_eq, Nat.reduceEqDiff, not_false_eq_true, Int.toNat_natCast, x_lcmp] at *)); (all_goals (try omega)))
      all_goals exact h5
    | succ m ih =>
      intro w hw
      have h5 := ih (w + 1) (by omega)
      rw [sumP] at h5
      have g74 : M 74 w = M 15 w := hz.1.2.2.1 w (by omega)
      have g15 := hrd.2.1 w (by omega)
      have cl : ∀ Q' : Option xV → xM → Prop, M 15 w ≠ -1 ∧ Q' (some (xI (M 16 w))) M → xm 1 m_M_lengthOf [xR (some 64), xI (w : Int)] M Q' := fun Q' h => z_lengthOfY hz.1 ⟨⟨by omega, h.1⟩, h.2⟩
      have g74' : M 74 ((w : Int).toNat) = M 15 w := g74
      obtain ⟨g1, g2, g3⟩ := g15
      clear cp hz hrd gg rg h last ear ih
      generalize sumP (M 15) (M 16) w = b at *
      by_cases q : M 15 w = -1
      · simp only [q, if_true] at h5
        refine xg hW k_M_count [19, 60] 40 ?_
        ((repeat' (first | (with_reducible refine And.intro ?_ ?_) | (intro h0; exact absurd h0 (by decide)) | (intro h0; exact absurd rfl h0) | (intro h0; exfalso; clear hW; omega) | (intro _) | ((conv => whnf); (first | (with_reducible refine And.intro ?_ ?_) | (intro h0; exact absurd h0 (by decide)) | (intro h0; exact absurd rfl h0) | (intro h0; exfalso; clear hW; omega) | (intro _) | (refine hW.1 _ _ _ _ _ _ (cl _ ?_) (by first | decide | omega) (by decide) (Nat.le_of_ble_eq_true rfl)))))); (all_goals (try omega)); (all_goals (try exact xnn (by omega))); (all_goals (try exact Nat.le_of_ble_eq_true rfl)); (all_goals (try ((conv => whnf); (first | (refine hW.2.1 _ _ ?_) | (change X _ _ _ _ _ _) | (change C _ _ _ _ _ _ _))))); (all_goals (try simp only [xup_at, xup_ne, xup_up, ne_eq, Nat.reduceEqDiff, not_false_eq_true, Int.toNat_natCast, x_lcmp] at *)); (all_goals (try omega)))
        all_goals exact h5
      · simp only [q, if_false] at h5
        obtain ⟨g4, -⟩ := g3 q
        refine xg hW k_M_count [19, 60] 40 ?_
        ((repeat' (first | (with_reducible refine And.intro ?_ ?_) | (intro h0; exact absurd h0 (by decide)) | (intro h0; exact absurd rfl h0) | (intro h0; exfalso; clear hW; omega) | (intro _) | ((conv => whnf); (first | (with_reducible refine And.intro ?_ ?_) | (intro h0; exact absurd h0 (by decide)) | (intro h0; exact absurd rfl h0) | (intro h0; exfalso; clear hW; omega) | (intro _) | (refine hW.1 _ _ _ _ _ _ (cl _ ?_) (by first | decide | omega) (by decide) (Nat.le_of_ble_eq_true rfl)))))); (all_goals (try omega)); (all_goals (try exact xnn (by omega))); (all_goals (try exact Nat.le_of_ble_eq_true rfl)); (all_goals (try ((conv => whnf); (first | (refine hW.2.1 _ _ ?_) | (change X _ _ _ _ _ _) | (change C _ _ _ _ _ _ _))))); (all_goals (try simp only [xup_at, xup_ne, xup_up, ne_eq, Nat.reduceEqDiff, not_false_eq_true, Int.toNat_natCast, x_lcmp] at *)); (all_goals (try omega)))
        all_goals exact h5
  have h5 := wl nW 0 (by omega)
  clear cp hz hrd gg rg h last ear wl
  refine xg hW k_M_count [19] 40 ?_
  ((repeat' (first | (with_reducible refine And.intro ?_ ?_) | (intro h0; exact absurd h0 (by decide)) | (intro h0; exact absurd rfl h0) | (intro h0; exfalso; clear hW; omega) | (intro _) | ((conv => whnf); (first | (with_reducible refine And.intro ?_ ?_) | (intro h0; exact absurd h0 (by decide)) | (intro h0; exact absurd rfl h0) | (intro h0; exfalso; clear hW; omega) | (intro _) | (refine hW.1 _ _ _ _ _ _ (z_in ?_) (by first | decide | omega) (by decide) (Nat.le_of_ble_eq_true rfl)))))); (all_goals (try omega)); (all_goals (try exact xnn (by omega))); (all_goals (try exact Nat.le_of_ble_eq_true rfl)); (all_goals (try ((conv => whnf); (first | (refine hW.2.1 _ _ ?_) | (change X _ _ _ _ _ _) | (change C _ _ _ _ _ _ _))))); (all_goals (try simp only [xup_at, xup_ne, xup_up, ne_eq, Nat.reduceEqDiff, not_false_eq_true, Int.toNat_natCast, x_lcmp] at *)); (all_goals (try omega)))
  all_goals exact h5
theorem z_endingAt' {M : xM} (hz : zG M) {w : Nat} (hw : (w : Int) < M 3 2) {i : Int} (hi : i = 0 ∨ i = 1) : ∀ Q : Option xV → xM → Prop, Q (some (xI (if M 15 w = -1 then -1 else if i = 0 then M 13 (M 15 w).toNat else M 14 (M 15 w).toNat))) M → xm 3 m_M_endingAt [xR (some 64), xI (w : Int), xI i] M Q := fun Q h => by
  have w10 := hz.1.1.2.1
  refine z_endingAt hz ⟨by omega, by omega⟩ ⟨by omega, by omega⟩ (fun q => by omega) (fun _ _ q => ?_) (fun _ _ q r => ?_) (fun _ _ q r => ?_)
  · rw [Int.toNat_natCast] at q
    rw [if_pos (by omega)] at h
    exact h
  · rw [Int.toNat_natCast] at q ⊢
    rw [if_neg q, if_pos r] at h
    exact h
  · rw [Int.toNat_natCast] at q ⊢
    rw [if_neg q, if_neg (by omega)] at h
    exact h
theorem fsn_rg {M : xM} (hz : zG M) {w : Nat} (hw : (w : Int) < M 3 2) (hc : M 15 w ≠ -1) : (-1 ≤ M 13 (M 15 w).toNat ∧ M 13 (M 15 w).toNat ≤ 5) ∧ -1 ≤ M 14 (M 15 w).toNat ∧ M 14 (M 15 w).toNat ≤ 5 := by
  obtain ⟨t, x, ht, t31, e15, -, -, -, -, -, -, -, -, s1, s2, hx, -⟩ := ch_at hz hw hc
  have e5 := hz.1.2.1.2.1
  rw [e15, Int.toNat_natCast, s1, s2]
  rcases hx with rfl | ⟨i, rfl, hi⟩ | ⟨i, j, rfl, hi, hj⟩ <;> simp only [fsT, snT] <;> omega
theorem tmod7 {k : Nat} : ((k : Int)).tmod 7 = ((k % 7 : Nat) : Int) := by
  rw [Int.tmod_eq_emod_of_nonneg (by omega)]
  omega
def dgX (X : xS) (D : Nat → Option xE) (nx pc : Nat) (h : Int) (r : xLs) (M : xM) : Prop := X pc (some (xR (some 64)) :: some (xJ h) :: none :: r) [] (M, D, nx) 0 0
set_option maxRecDepth 100000 in
set_option maxHeartbeats 1000000 in
theorem z_dgG {M : xM} {Q : Option xV → xM → Prop} {dd : Nat} {D : Nat → Option xE} {nx : Nat} {X : xS} {C : xC} {P : xP} (hW : xWk dd m_M_digest tb_M Q D nx X C P) (hh : hillOk M) (hg : relG M) {h : Int} {x4 : Option xV} (hq : Q (some (xJ (mixG (cM M) (hM M) h 6))) M) : dgX X D nx 184 h [some (xI 0), x4] M := by
  have hch := hh.ch
  have row : ∀ (fm f : Nat), f + fm = 6 → ∀ (m t : Nat), t + m = 6 → f < 6 → (f + 1 + (fm - 1) = 6 → dgX X D nx 184 (mixG (cM M) (hM M) h (f + 1)) [some (xI ((6 * (f + 1) : Nat) : Int)), x4] M) → dgX X D nx 184 (mixR (cM M f) (hM M f) f (mixG (cM M) (hM M) h f) t) [some (xI ((6 * f + t : Nat) : Int)), x4] M := by
    intro fm f hf m
    induction m with
    | zero =>
      intro t ht hf6 next
      obtain rfl : t = 6 := by omega
      have h5 := next (by omega)
      rw [mixG] at h5
      rw [show 6 * (f + 1) = 6 * f + 6 by omega] at h5
      exact h5
    | succ m ih =>
      intro t ht hf6 next
      have h5 := ih (t + 1) (by omega) hf6 next
      obtain ⟨g1, g2⟩ := hg f t hf6 (by omega)
      obtain ⟨c1, c2⟩ := hch f t hf6 (by omega)
      rw [mixR] at h5
      have e7 := tmod7 (k := 6 * f + t)
      have g1' : M 77 (((6 * f + t : Nat) : Int).toNat) = cM M f t := g1
      have g2' : M 78 (((6 * f + t : Nat) : Int).toNat) = hM M f t := g2
      rw [← g1] at h5 c1
      rw [← g2] at h5 c2
      clear ih hq hch next hh hg
      generalize mixR (cM M f) (hM M f) f (mixG (cM M) (hM M) h f) t = v at *
      unfold dgX at *
      by_cases q : f = t
      · rw [if_pos q] at h5
        have e0 : ((6 * f + t : Nat) : Int).tmod 7 = 0 := by rw [e7]; omega
        clear g1 g2 g1' g2' e7
        refine xg hW k_M_digest [184] 40 ?_
        ((repeat' (first | (with_reducible refine And.intro ?_ ?_) | (intro h0; exact absurd h0 (by decide)) | (intro h0; exact absurd rfl h0) | (intro h0; exfalso; clear hW; omega) | (intro _) | ((conv => whnf); (first | (with_reducible refine And.intro ?_ ?_) | (intro h0; exact absurd h0 (by decide)) | (intro h0; exact absurd rfl h0) | (intro h0; exfalso; clear hW; omega) | (intro _))))); (all_goals (try omega)); (all_goals (try exact xnn (by omega))); (all_goals (try exact Nat.le_of_ble_eq_true rfl)); (all_goals (try ((conv => whnf); (first | (refine hW.2.1 _ _ ?_) | (change X _ _ _ _ _ _) | (change C _ _ _ _ _ _ _))))); (all_goals (try simp only [xup_at, xup_ne, xup_up, ne_eq, Nat.reduceEqDiff, not_false_eq_true, Int.toNat_natCast, x_lcmp] at *)); (all_goals (try omega)))
        all_goals exact h5
      · rw [if_neg q] at h5
        have e0 : ((6 * f + t : Nat) : Int).tmod 7 ≠ 0 := by rw [e7]; omega
        have e1 : 0 ≤ ((6 * f + t : Nat) : Int).tmod 7 ∧ ((6 * f + t : Nat) : Int).tmod 7 < 7 := by rw [e7]; omega
        clear g1 g2 g1' g2' e7
        refine xg hW k_M_digest [184] 40 ?_
        ((repeat' (first | (with_reducible refine And.intro ?_ ?_) | (intro h0; exact absurd h0 (by decide)) | (intro h0; exact absurd rfl h0) | (intro h0; exfalso; clear hW; omega) | (intro _) | ((conv => whnf); (first | (with_reducible refine And.intro ?_ ?_) | (intro h0; exact absurd h0 (by decide)) | (intro h0; exact absurd rfl h0) | (intro h0; exfalso; clear hW; omega) | (intro _))))); (all_goals (try omega)); (all_goals (try exact xnn (by omega))); (all_goals (try exact Nat.le_of_ble_eq_true rfl)); (all_goals (try ((conv => whnf); (first | (refine hW.2.1 _ _ ?_) | (change X _ _ _ _ _ _) | (change C _ _ _ _ _ _ _))))); (all_goals (try simp only [xup_at, xup_ne, xup_up, ne_eq, Nat.reduceEqDiff, not_false_eq_true, Int.toNat_natCast, x_lcmp] at *)); (all_goals (try omega)))
        all_goals exact h5
  have all : ∀ (fm f : Nat), f + fm = 6 → dgX X D nx 184 (mixG (cM M) (hM M) h f) [some (xI ((6 * f : Nat) : Int)), x4] M := by
    intro fm
    induction fm with
    | zero =>
      intro f hf
      obtain rfl : f = 6 := by omega
      clear row hch hh hg
      generalize mixG (cM M) (hM M) h 6 = v at *
      unfold dgX
      refine xg hW k_M_digest [184] 40 ?_
      ((repeat' (first | (with_reducible refine And.intro ?_ ?_) | (intro h0; exact absurd h0 (by decide)) | (intro h0; exact absurd rfl h0) | (intro h0; exfalso; clear hW; omega) | (intro _) | ((conv => whnf); (first | (with_reducible refine And.intro ?_ ?_) | (intro h0; exact absurd h0 (by decide)) | (intro h0; exact absurd rfl h0) | (intro h0; exfalso; clear hW; omega) | (intro _))))); (all_goals (try omega)); (all_goals (try exact xnn (by omega))); (all_goals (try exact Nat.le_of_ble_eq_true rfl)); (all_goals (try ((conv => whnf); (first | (refine hW.2.1 _ _ ?_) | (change X _ _ _ _ _ _) | (change C _ _ _ _ _ _ _))))); (all_goals (try simp only [xup_at, xup_ne, xup_up, ne_eq, Nat.reduceEqDiff, not_false_eq_true, Int.toNat_natCast, x_lcmp] at *)); (all_goals (try omega)))
      all_goals exact hq
    | succ fm ih =>
      intro f hf
      have h5 := ih (f + 1) (by omega)
      have h6 := row (fm + 1) f hf 6 0 rfl (by omega) (fun _ => h5)
      exact h6
  exact all 6 0 rfl
set_option maxRecDepth 100000 in
set_option maxHeartbeats 1000000 in
theorem z_dgL {M : xM} {Q : Option xV → xM → Prop} {dd n : Nat} {D : Nat → Option xE} {nx : Nat} {X : xS} {C : xC} {P : xP} (hW : xWk dd m_M_digest tb_M Q D nx X C P) (hn : M 64 15 = (n : Int)) (hn12 : n ≤ 12) (hr : ∀ i, i < n → xrg (M 76 i)) {h : Int} {x4 : Option xV} (hq : dgX X D nx 184 (mixH (M 76) h n) [some (xI 0), x4] M) : dgX X D nx 154 h [some (xI 0), x4] M := by
  have loop : ∀ (m k : Nat), k + m = n → dgX X D nx 154 (mixH (M 76) h k) [some (xI (k : Int)), x4] M := by
    intro m
    induction m with
    | zero =>
      intro k hk
      obtain rfl : k = n := by omega
      generalize mixH (M 76) h k = v at *
      unfold dgX at *
      refine xg hW k_M_digest [154, 184] 40 ?_
      ((repeat' (first | (with_reducible refine And.intro ?_ ?_) | (intro h0; exact absurd h0 (by decide)) | (intro h0; exact absurd rfl h0) | (intro h0; exfalso; clear hW; omega) | (intro _) | ((conv => whnf); (first | (with_reducible refine And.intro ?_ ?_) | (intro h0; exact absurd h0 (by decide)) | (intro h0; exact absurd rfl h0) | (intro h0; exfalso; clear hW; omega) | (intro _))))); (all_goals (try omega)); (all_goals (try exact xnn (by omega))); (all_goals (try exact Nat.le_of_ble_eq_true rfl)); (all_goals (try ((conv => whnf); (first | (refine hW.2.1 _ _ ?_) | (change X _ _ _ _ _ _) | (change C _ _ _ _ _ _ _))))); (all_goals (try simp only [xup_at, xup_ne, xup_up, ne_eq, Nat.reduceEqDiff, not_false_eq_true, Int.toNat_natCast, x_lcmp] at *)); (all_goals (try omega)))
      all_goals exact hq
    | succ m ih =>
      intro k hk
      have h5 := ih (k + 1) (by omega)
      rw [mixH] at h5
      obtain ⟨r1, r2⟩ := hr k (by omega)
      have r1' : -2147483648 ≤ M 76 ((k : Int).toNat) := r1
      have r2' : M 76 ((k : Int).toNat) < 2147483648 := r2
      clear ih hq hr
      generalize mixH (M 76) h k = v at *
      unfold dgX at *
      refine xg hW k_M_digest [154, 184] 40 ?_
      ((repeat' (first | (with_reducible refine And.intro ?_ ?_) | (intro h0; exact absurd h0 (by decide)) | (intro h0; exact absurd rfl h0) | (intro h0; exfalso; clear hW; omega) | (intro _) | ((conv => whnf); (first | (with_reducible refine And.intro ?_ ?_) | (intro h0; exact absurd h0 (by decide)) | (intro h0; exact absurd rfl h0) | (intro h0; exfalso; clear hW; omega) | (intro _))))); (all_goals (try omega)); (all_goals (try exact xnn (by omega))); (all_goals (try exact Nat.le_of_ble_eq_true rfl)); (all_goals (try ((conv => whnf); (first | (refine hW.2.1 _ _ ?_) | (change X _ _ _ _ _ _) | (change C _ _ _ _ _ _ _))))); (all_goals (try simp only [xup_at, xup_ne, xup_up, ne_eq, Nat.reduceEqDiff, not_false_eq_true, Int.toNat_natCast, x_lcmp] at *)); (all_goals (try omega)))
      all_goals exact h5
  exact loop n 0 (by omega)
set_option maxRecDepth 100000 in
set_option maxHeartbeats 1000000 in
theorem z_dgE {M : xM} {Q : Option xV → xM → Prop} {dd n : Nat} {D : Nat → Option xE} {nx : Nat} {X : xS} {C : xC} {P : xP} (hW : xWk dd m_M_digest tb_M Q D nx X C P) (hn : M 64 13 = (n : Int)) (hn60 : n ≤ 60) (hr : ∀ i, i < n → xrg (M 75 i)) {h : Int} {x4 : Option xV} (hq : dgX X D nx 154 (mixH (M 75) h n) [some (xI 0), x4] M) : dgX X D nx 124 h [some (xI 0), x4] M := by
  have loop : ∀ (m k : Nat), k + m = n → dgX X D nx 124 (mixH (M 75) h k) [some (xI (k : Int)), x4] M := by
    intro m
    induction m with
    | zero =>
      intro k hk
      obtain rfl : k = n := by omega
      generalize mixH (M 75) h k = v at *
      unfold dgX at *
      refine xg hW k_M_digest [124, 154] 40 ?_
      ((repeat' (first | (with_reducible refine And.intro ?_ ?_) | (intro h0; exact absurd h0 (by decide)) | (intro h0; exact absurd rfl h0) | (intro h0; exfalso; clear hW; omega) | (intro _) | ((conv => whnf); (first | (with_reducible refine And.intro ?_ ?_) | (intro h0; exact absurd h0 (by decide)) | (intro h0; exact absurd rfl h0) | (intro h0; exfalso; clear hW; omega) | (intro _))))); (all_goals (try omega)); (all_goals (try exact xnn (by omega))); (all_goals (try exact Nat.le_of_ble_eq_true rfl)); (all_goals (try ((conv => whnf); (first | (refine hW.2.1 _ _ ?_) | (change X _ _ _ _ _ _) | (change C _ _ _ _ _ _ _))))); (all_goals (try simp only [xup_at, xup_ne, xup_up, ne_eq, Nat.reduceEqDiff, not_false_eq_true, Int.toNat_natCast, x_lcmp] at *)); (all_goals (try omega)))
      all_goals exact hq
    | succ m ih =>
      intro k hk
      have h5 := ih (k + 1) (by omega)
      rw [mixH] at h5
      obtain ⟨r1, r2⟩ := hr k (by omega)
      have r1' : -2147483648 ≤ M 75 ((k : Int).toNat) := r1
      have r2' : M 75 ((k : Int).toNat) < 2147483648 := r2
      clear ih hq hr
      generalize mixH (M 75) h k = v at *
      unfold dgX at *
      refine xg hW k_M_digest [124, 154] 40 ?_
      ((repeat' (first | (with_reducible refine And.intro ?_ ?_) | (intro h0; exact absurd h0 (by decide)) | (intro h0; exact absurd rfl h0) | (intro h0; exfalso; clear hW; omega) | (intro _) | ((conv => whnf); (first | (with_reducible refine And.intro ?_ ?_) | (intro h0; exact absurd h0 (by decide)) | (intro h0; exact absurd rfl h0) | (intro h0; exfalso; clear hW; omega) | (intro _))))); (all_goals (try omega)); (all_goals (try exact xnn (by omega))); (all_goals (try exact Nat.le_of_ble_eq_true rfl)); (all_goals (try ((conv => whnf); (first | (refine hW.2.1 _ _ ?_) | (change X _ _ _ _ _ _) | (change C _ _ _ _ _ _ _))))); (all_goals (try simp only [xup_at, xup_ne, xup_up, ne_eq, Nat.reduceEqDiff, not_false_eq_true, Int.toNat_natCast, x_lcmp] at *)); (all_goals (try omega)))
      all_goals exact h5
  exact loop n 0 (by omega)
set_option maxRecDepth 100000 in
set_option maxHeartbeats 1000000 in
theorem z_dgB {M : xM} {Q : Option xV → xM → Prop} {dd w : Nat} {D : Nat → Option xE} {nx : Nat} {X : xS} {C : xC} {P : xP} (hd : 3 < dd) (hW : xWk dd m_M_digest tb_M Q D nx X C P) (hz : zG M) (hw : (w : Int) < M 3 2) (hc : M 15 w ≠ -1) {h : Int} (hq : ∀ z : Int, dgX X D nx 88 (mixB (M 16 w) (M 17 w) h (M 16 w).toNat) [some (xI (w : Int)), some (xI z)] M) : dgX X D nx 57 h [some (xI (w : Int)), some (xI 0)] M := by
  obtain ⟨-, -, -, -, -, -, -, -, -, -, -, -, -, -, -, -, b1, b2, b3, b4⟩ := ch_at hz hw hc
  have w10 := hz.1.1.2.1
  obtain ⟨s, es⟩ := Int.eq_ofNat_of_zero_le (show 0 ≤ M 16 w by omega)
  have cl : ∀ Q' : Option xV → xM → Prop, Q' (some (xI (s : Int))) M → xm 1 m_M_lengthOf [xR (some 64), xI (w : Int)] M Q' := fun Q' h => z_lengthOfY hz ⟨⟨hw, hc⟩, by rw [es]; exact h⟩
  have cb : ∀ k : Nat, k < s → ∀ Q' : Option xV → xM → Prop, Q' (some (xI (btOf (M 16 w) (M 17 w) k))) M → xm 2 m_M_beatOf [xR (some 64), xI (w : Int), xI (k : Int)] M Q' := fun k hk Q' h => z_beatOf hz ⟨⟨hw, hc, by rw [es]; omega⟩, h⟩
  have hs : (M 16 w).toNat = s := by omega
  have loop : ∀ (m k : Nat), k + m = s → dgX X D nx 57 (mixB (M 16 w) (M 17 w) h k) [some (xI (w : Int)), some (xI (k : Int))] M := by
    intro m
    induction m with
    | zero =>
      intro k hk
      obtain rfl : k = s := by omega
      have h5 := hq k
      rw [hs] at h5
      clear hq cb hz
      generalize mixB (M 16 w) (M 17 w) h k = v at *
      unfold dgX at *
      refine xg hW k_M_digest [57, 88] 40 ?_
      ((repeat' (first | (with_reducible refine And.intro ?_ ?_) | (intro h0; exact absurd h0 (by decide)) | (intro h0; exact absurd rfl h0) | (intro h0; exfalso; clear hW; omega) | (intro _) | ((conv => whnf); (first | (with_reducible refine And.intro ?_ ?_) | (intro h0; exact absurd h0 (by decide)) | (intro h0; exact absurd rfl h0) | (intro h0; exfalso; clear hW; omega) | (intro _) | (refine hW.1 _ _ _ _ _ _ (cl _ ?_) (by first | decide | omega) (by decide) (Nat.le_of_ble_eq_true rfl)))))); (all_goals (try omega)); (all_goals (try exact xnn (by omega))); (all_goals (try exact Nat.le_of_ble_eq_true rfl)); (all_goals (try ((conv => whnf); (first | (refine hW.2.1 _ _ ?_) | (change X _ _ _ _ _ _) | (change C _ _ _ _ _ _ _))))); (all_goals (try simp only [xup_at, xup_ne, xup_up, ne_eq, Nat.reduceEqDiff, not_false_eq_true, Int.toNat_natCast, x_lcmp] at *)); (all_goals (try omega)))
      all_goals exact h5
    | succ m ih =>
      intro k hk
      have h5 := ih (k + 1) (by omega)
      rw [mixB] at h5
      have rb := btOf_rg (M 16 w) (M 17 w) k
      have cb' := cb k (by omega)
      clear hq cb hz ih
      generalize btOf (M 16 w) (M 17 w) k = b at *
      generalize mixB (M 16 w) (M 17 w) h k = v at *
      unfold dgX at *
      refine xg hW k_M_digest [57, 88] 40 ?_
      ((repeat' (first | (with_reducible refine And.intro ?_ ?_) | (intro h0; exact absurd h0 (by decide)) | (intro h0; exact absurd rfl h0) | (intro h0; exfalso; clear hW; omega) | (intro _) | ((conv => whnf); (first | (with_reducible refine And.intro ?_ ?_) | (intro h0; exact absurd h0 (by decide)) | (intro h0; exact absurd rfl h0) | (intro h0; exfalso; clear hW; omega) | (intro _) | (refine hW.1 _ _ _ _ _ _ (cl _ ?_) (by first | decide | omega) (by decide) (Nat.le_of_ble_eq_true rfl)) | (refine hW.1 _ _ _ _ _ _ (cb' _ ?_) (by first | decide | omega) (by decide) (Nat.le_of_ble_eq_true rfl)))))); (all_goals (try omega)); (all_goals (try exact xnn (by omega))); (all_goals (try exact Nat.le_of_ble_eq_true rfl)); (all_goals (try ((conv => whnf); (first | (refine hW.2.1 _ _ ?_) | (change X _ _ _ _ _ _) | (change C _ _ _ _ _ _ _))))); (all_goals (try simp only [xup_at, xup_ne, xup_up, ne_eq, Nat.reduceEqDiff, not_false_eq_true, Int.toNat_natCast, x_lcmp] at *)); (all_goals (try omega)))
      all_goals exact h5
  exact loop s 0 (by omega)
set_option maxRecDepth 100000 in
set_option maxHeartbeats 1000000 in
theorem z_dgW {M : xM} {Q : Option xV → xM → Prop} {dd nW : Nat} {D : Nat → Option xE} {nx : Nat} {X : xS} {C : xC} {P : xP} (hd : 3 < dd) (hW : xWk dd m_M_digest tb_M Q D nx X C P) (hz : zG M) (hn : M 3 2 = (nW : Int)) {h : Int} {x4 : Option xV} (hq : ∀ x4, dgX X D nx 124 (mixWs (M 15) (M 16) (M 17) (M 13) (M 14) h nW) [some (xI 0), x4] M) : dgX X D nx 33 h [some (xI 0), x4] M := by
  have e640 : M 64 0 = (nW : Int) := by rw [hz.1.2.2.2.1.1]; exact hn
  have w10 := hz.1.1.2.1
  have loop : ∀ (m w : Nat), w + m = nW → ∀ x4, dgX X D nx 33 (mixWs (M 15) (M 16) (M 17) (M 13) (M 14) h w) [some (xI (w : Int)), x4] M := by
    intro m
    induction m with
    | zero =>
      intro w hw x4
      obtain rfl : w = nW := by omega
      have h5 := hq x4
      clear hq hz
      generalize mixWs (M 15) (M 16) (M 17) (M 13) (M 14) h w = v at *
      unfold dgX at *
      refine xg hW k_M_digest [33, 124] 40 ?_
      ((repeat' (first | (with_reducible refine And.intro ?_ ?_) | (intro h0; exact absurd h0 (by decide)) | (intro h0; exact absurd rfl h0) | (intro h0; exfalso; clear hW; omega) | (intro _) | ((conv => whnf); (first | (with_reducible refine And.intro ?_ ?_) | (intro h0; exact absurd h0 (by decide)) | (intro h0; exact absurd rfl h0) | (intro h0; exfalso; clear hW; omega) | (intro _))))); (all_goals (try omega)); (all_goals (try exact xnn (by omega))); (all_goals (try exact Nat.le_of_ble_eq_true rfl)); (all_goals (try ((conv => whnf); (first | (refine hW.2.1 _ _ ?_) | (change X _ _ _ _ _ _) | (change C _ _ _ _ _ _ _))))); (all_goals (try simp only [xup_at, xup_ne, xup_up, ne_eq, Nat.reduceEqDiff, not_false_eq_true, Int.toNat_natCast, x_lcmp] at *)); (all_goals (try omega)))
      all_goals exact h5
    | succ m ih =>
      intro w hw x4
      have h5 := fun x4 => ih (w + 1) (by omega) x4
      have hw' : (w : Int) < M 3 2 := by omega
      rw [mixWs] at h5
      have ce0 := z_endingAt' hz hw' (i := 0) (Or.inl rfl)
      have ce1 := z_endingAt' hz hw' (i := 1) (Or.inr rfl)
      by_cases c : M 15 w = -1
      · have cl : ∀ Q' : Option xV → xM → Prop, Q' (some (xI (-1))) M → xm 1 m_M_lengthOf [xR (some 64), xI (w : Int)] M Q' := fun Q' h => z_lengthOf hz ⟨hw', fun _ => h, fun q => absurd c q⟩
        rw [if_pos c] at ce0 ce1
        unfold mixW at h5
        simp only [c, if_true] at h5
        clear hq hz ih
        generalize mixWs (M 15) (M 16) (M 17) (M 13) (M 14) h w = v at *
        unfold dgX at *
        refine xg hW k_M_digest [33] 40 ?_
        ((repeat' (first | (with_reducible refine And.intro ?_ ?_) | (intro h0; exact absurd h0 (by decide)) | (intro h0; exact absurd rfl h0) | (intro h0; exfalso; clear hW; omega) | (intro _) | ((conv => whnf); (first | (with_reducible refine And.intro ?_ ?_) | (intro h0; exact absurd h0 (by decide)) | (intro h0; exact absurd rfl h0) | (intro h0; exfalso; clear hW; omega) | (intro _) | (refine hW.1 _ _ _ _ _ _ (cl _ ?_) (by first | decide | omega) (by decide) (Nat.le_of_ble_eq_true rfl)) | (refine hW.1 _ _ _ _ _ _ (ce0 _ ?_) (by first | decide | omega) (by decide) (Nat.le_of_ble_eq_true rfl)) | (refine hW.1 _ _ _ _ _ _ (ce1 _ ?_) (by first | decide | omega) (by decide) (Nat.le_of_ble_eq_true rfl)))))); (all_goals (try omega)); (all_goals (try exact xnn (by omega))); (all_goals (try exact Nat.le_of_ble_eq_true rfl)); (all_goals (try ((conv => whnf); (first | (refine hW.2.1 _ _ ?_) | (change X _ _ _ _ _ _) | (change C _ _ _ _ _ _ _))))); (all_goals (try simp only [xup_at, xup_ne, xup_up, ne_eq, Nat.reduceEqDiff, not_false_eq_true, Int.toNat_natCast, x_lcmp] at *)); (all_goals (try omega)))
        all_goals exact h5 _
      · obtain ⟨-, -, -, -, -, -, -, -, -, -, -, -, -, -, -, -, b1, b2, b3, b4⟩ := ch_at hz hw' c
        have fr := fsn_rg hz hw' c
        have cl : ∀ Q' : Option xV → xM → Prop, Q' (some (xI (M 16 w))) M → xm 1 m_M_lengthOf [xR (some 64), xI (w : Int)] M Q' := fun Q' h => z_lengthOfY hz ⟨⟨hw', c⟩, h⟩
        rw [if_neg c, if_pos rfl] at ce0
        rw [if_neg c, if_neg (by decide)] at ce1
        unfold mixW at h5
        rw [if_neg c] at h5
        have p88 : ∀ z : Int, dgX X D nx 88 (mixB (M 16 w) (M 17 w) (31 * mixWs (M 15) (M 16) (M 17) (M 13) (M 14) h w + M 16 w) (M 16 w).toNat) [some (xI (w : Int)), some (xI z)] M := fun z => by
          clear hq hz ih cl
          generalize mixB (M 16 w) (M 17 w) (31 * mixWs (M 15) (M 16) (M 17) (M 13) (M 14) h w + M 16 w) (M 16 w).toNat = v at *
          generalize M 13 (M 15 w).toNat = a at *
          generalize M 14 (M 15 w).toNat = b at *
          unfold dgX at *
          refine xg hW k_M_digest [33] 40 ?_
          ((repeat' (first | (with_reducible refine And.intro ?_ ?_) | (intro h0; exact absurd h0 (by decide)) | (intro h0; exact absurd rfl h0) | (intro h0; exfalso; clear hW; omega) | (intro _) | ((conv => whnf); (first | (with_reducible refine And.intro ?_ ?_) | (intro h0; exact absurd h0 (by decide)) | (intro h0; exact absurd rfl h0) | (intro h0; exfalso; clear hW; omega) | (intro _) | (refine hW.1 _ _ _ _ _ _ (ce0 _ ?_) (by first | decide | omega) (by decide) (Nat.le_of_ble_eq_true rfl)) | (refine hW.1 _ _ _ _ _ _ (ce1 _ ?_) (by first | decide | omega) (by decide) (Nat.le_of_ble_eq_true rfl)))))); (all_goals (try omega)); (all_goals (try exact xnn (by omega))); (all_goals (try exact Nat.le_of_ble_eq_true rfl)); (all_goals (try ((conv => whnf); (first | (refine hW.2.1 _ _ ?_) | (change X _ _ _ _ _ _) | (change C _ _ _ _ _ _ _))))); (all_goals (try simp only [xup_at, xup_ne, xup_up, ne_eq, Nat.reduceEqDiff, not_false_eq_true, Int.toNat_natCast, x_lcmp] at *)); (all_goals (try omega)))
          all_goals exact h5 _
        have h6 := z_dgB hd hW hz hw' c p88
        clear hq hz ih h5 p88 ce0 ce1
        generalize mixWs (M 15) (M 16) (M 17) (M 13) (M 14) h w = v at *
        unfold dgX at *
        refine xg hW k_M_digest [33, 57] 40 ?_
        ((repeat' (first | (with_reducible refine And.intro ?_ ?_) | (intro h0; exact absurd h0 (by decide)) | (intro h0; exact absurd rfl h0) | (intro h0; exfalso; clear hW; omega) | (intro _) | ((conv => whnf); (first | (with_reducible refine And.intro ?_ ?_) | (intro h0; exact absurd h0 (by decide)) | (intro h0; exact absurd rfl h0) | (intro h0; exfalso; clear hW; omega) | (intro _) | (refine hW.1 _ _ _ _ _ _ (cl _ ?_) (by first | decide | omega) (by decide) (Nat.le_of_ble_eq_true rfl)))))); (all_goals (try omega)); (all_goals (try exact xnn (by omega))); (all_goals (try exact Nat.le_of_ble_eq_true rfl)); (all_goals (try ((conv => whnf); (first | (refine hW.2.1 _ _ ?_) | (change X _ _ _ _ _ _) | (change C _ _ _ _ _ _ _))))); (all_goals (try simp only [xup_at, xup_ne, xup_up, ne_eq, Nat.reduceEqDiff, not_false_eq_true, Int.toNat_natCast, x_lcmp] at *)); (all_goals (try omega)))
        all_goals exact h6
  exact loop nW 0 (by omega) x4
set_option maxRecDepth 100000 in
set_option maxHeartbeats 1000000 in
theorem z_digest {M : xM} {Q : Option xV → xM → Prop} (hz : zR M) (hl : relL M) (hh : hillOk M) (hg : relG M) (h : Q (some (xJ (digV M))) M) : xm 4 m_M_digest [xR (some 64)] M Q := by
  have hrd := hz.rd
  obtain ⟨n, hn⟩ := Int.eq_ofNat_of_zero_le hrd.1.1
  obtain ⟨nW, hWn⟩ := Int.eq_ofNat_of_zero_le hrd.2.2.1
  obtain ⟨nL, hL⟩ := Int.eq_ofNat_of_zero_le hl.2.1
  have w10 := hrd.2.2.2
  have n60 := hrd.1.2.1
  have e13 : M 64 13 = (n : Int) := by rw [hz.2.1.1]; exact hn
  have e15 : M 64 15 = (nL : Int) := by rw [hl.1]; exact hL
  have l12 := hl.2.2.1
  have hx := cntV_rg (M := M) hrd.2.1 hrd.2.2 hrd.1 ⟨hz.1.1.2.1.1, hz.1.1.2.1.2.1⟩ hz.1.1.2.2.2.2 ⟨hl.2.1, hl.2.2.1⟩
  have cc : ∀ (k : Nat) (Q' : Option xV → xM → Prop), k < 8 → Q' (some (xI (cntV M k))) M → xm 3 m_M_count [xR (some 64), xI (k : Int)] M Q' := fun k Q' hk q => z_count hz hl ⟨by omega, by omega⟩ q
  have eH : ∀ v, mixH (M 75) v n = mixH (M 24) v n := fun v => mixH_congr n (fun i hi => hz.2.1.2 i (by omega))
  have eL : ∀ v, mixH (M 76) v nL = mixH (M 26) v nL := fun v => mixH_congr nL (fun i hi => (hl.2.2.2 i (by omega)).1)
  unfold digV at h
  rw [hn, hWn, hL, Int.toNat_natCast, Int.toNat_natCast, Int.toNat_natCast, ← eL, ← eH] at h
  (refine xm_of (own := "DrumTongueModel") rfl (by decide +kernel) tk_M [some (xR (some 64)), none, none, none, none] (Nat.le_of_ble_eq_true rfl) rfl ?_; intro D nx X C P hW)
  have p33 : ∀ x4, dgX X D nx 33 (mixC M 8) [some (xI 0), x4] M := fun x4 => z_dgW (by decide) hW hz.1 hWn (fun x4 => z_dgE hW e13 (by omega) (fun i hi => by
    have := hrd.1.2.2 i
    rw [hz.2.1.2 i (by omega)]
    unfold xrg
    omega) (z_dgL hW e15 (by omega) (fun i hi => by
    rw [(hl.2.2.2 i (by omega)).1]
    exact (hl.2.2.2 i (by omega)).2) (z_dgG hW hh hg h)))
  have loop : ∀ (m k : Nat), k + m = 8 → X 6 [some (xR (some 64)), some (xJ (mixC M k)), none, some (xI (k : Int)), none] [] (M, D, nx) 0 0 := by
    intro m
    induction m with
    | zero =>
      intro k hk
      obtain rfl : k = 8 := by omega
      have h5 := p33 none
      clear h p33 cc hx hz hl hrd eH eL hh hg
      generalize mixC M 8 = v at *
      unfold dgX at *
      refine xg hW k_M_digest [6, 33] 40 ?_
      ((repeat' (first | (with_reducible refine And.intro ?_ ?_) | (intro h0; exact absurd h0 (by decide)) | (intro h0; exact absurd rfl h0) | (intro h0; exfalso; clear hW; omega) | (intro _) | ((conv => whnf); (first | (with_reducible refine And.intro ?_ ?_) | (intro h0; exact absurd h0 (by decide)) | (intro h0; exact absurd rfl h0) | (intro h0; exfalso; clear hW; omega) | (intro _))))); (all_goals (try omega)); (all_goals (try exact xnn (by omega))); (all_goals (try exact Nat.le_of_ble_eq_true rfl)); (all_goals (try ((conv => whnf); (first | (refine hW.2.1 _ _ ?_) | (change X _ _ _ _ _ _) | (change C _ _ _ _ _ _ _))))); (all_goals (try simp only [xup_at, xup_ne, xup_up, ne_eq, Nat.reduceEqDiff, not_false_eq_true, Int.toNat_natCast, x_lcmp] at *)); (all_goals (try omega)))
      all_goals exact h5
    | succ m ih =>
      intro k hk
      have h5 := ih (k + 1) (by omega)
      rw [mixC] at h5
      obtain ⟨r1, r2⟩ := hx k
      have c1 := fun Q' => cc k Q' (by omega)
      clear h p33 cc hx hz hl hrd eH eL hh hg ih
      generalize mixC M k = v at *
      generalize cntV M k = cv at *
      refine xg hW k_M_digest [6, 33] 40 ?_
      ((repeat' (first | (with_reducible refine And.intro ?_ ?_) | (intro h0; exact absurd h0 (by decide)) | (intro h0; exact absurd rfl h0) | (intro h0; exfalso; clear hW; omega) | (intro _) | ((conv => whnf); (first | (with_reducible refine And.intro ?_ ?_) | (intro h0; exact absurd h0 (by decide)) | (intro h0; exact absurd rfl h0) | (intro h0; exfalso; clear hW; omega) | (intro _) | (refine hW.1 _ _ _ _ _ _ (c1 _ ?_) (by first | decide | omega) (by decide) (Nat.le_of_ble_eq_true rfl)))))); (all_goals (try omega)); (all_goals (try exact xnn (by omega))); (all_goals (try exact Nat.le_of_ble_eq_true rfl)); (all_goals (try ((conv => whnf); (first | (refine hW.2.1 _ _ ?_) | (change X _ _ _ _ _ _) | (change C _ _ _ _ _ _ _))))); (all_goals (try simp only [xup_at, xup_ne, xup_up, ne_eq, Nat.reduceEqDiff, not_false_eq_true, Int.toNat_natCast, x_lcmp] at *)); (all_goals (try omega)))
      all_goals exact h5
  have h5 := loop 8 0 (by omega)
  clear h p33 cc hx hz hl hrd eH eL hh hg loop
  refine xg hW k_M_digest [6] 40 ?_
  ((repeat' (first | (with_reducible refine And.intro ?_ ?_) | (intro h0; exact absurd h0 (by decide)) | (intro h0; exact absurd rfl h0) | (intro h0; exfalso; clear hW; omega) | (intro _) | ((conv => whnf); (first | (with_reducible refine And.intro ?_ ?_) | (intro h0; exact absurd h0 (by decide)) | (intro h0; exact absurd rfl h0) | (intro h0; exfalso; clear hW; omega) | (intro _))))); (all_goals (try omega)); (all_goals (try exact xnn (by omega))); (all_goals (try exact Nat.le_of_ble_eq_true rfl)); (all_goals (try ((conv => whnf); (first | (refine hW.2.1 _ _ ?_) | (change X _ _ _ _ _ _) | (change C _ _ _ _ _ _ _))))); (all_goals (try simp only [xup_at, xup_ne, xup_up, ne_eq, Nat.reduceEqDiff, not_false_eq_true, Int.toNat_natCast, x_lcmp] at *)); (all_goals (try omega)))
  all_goals exact h5
