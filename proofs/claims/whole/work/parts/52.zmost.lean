/-! the reference: doubt, most -/
theorem arB_fr {M M' : xM} (h : frE M M') (s : Nat → Int) (K : Nat) : ∀ q, arB M' s K q = arB M s K q
  | 0 => by
    funext j
    show 3 * (M' 23 1 - (j : Int)) = 3 * (M 23 1 - (j : Int))
    rw [h 23 (by decide)]
  | q + 1 => by rw [arB, arB, wB_fr h, arB_fr h s K q]
theorem dbt_fr {M M' : xM} (h : frE M M') (f g : Nat → Int) (off x : Int) : ∀ w, dbt M' f g off x w = dbt M f g off x w
  | 0 => rfl
  | w + 1 => by rw [dbt_s, dbt_s, dbt_fr h f g off x w, wF_fr h, h 15 (by decide), h 23 (by decide)]
/-- a doubt as the reference finds it -/
theorem z_doubtOf' {M M2 : xM} {s : Nat → Int} (hz : zR M) (hs : ∀ q, q < bK M → s q = (spW M (bV M) (bK M) q : Int)) (f : rdF M M2) (h26 : M2 64 26 = (bK M : Int)) (h86 : ∀ q, q < bK M → M2 86 q = s q) {n : Nat} (hn : n < bK M) : (-1 ≤ dbt M (arF M s n) (arB M s (bK M) (bK M - n - 1)) (bV M) (s n) (M 3 2).toNat ∧ dbt M (arF M s n) (arB M s (bK M) (bK M - n - 1)) (bV M) (s n) (M 3 2).toNat < 1000000 → True) ∧ ∀ Q : Option xV → xM → Prop, (∀ M', (∀ a, a ≠ 84 → a ≠ 85 → M' a = M2 a) → -1 ≤ dbt M (arF M s n) (arB M s (bK M) (bK M - n - 1)) (bV M) (s n) (M 3 2).toNat → dbt M (arF M s n) (arB M s (bK M) (bK M - n - 1)) (bV M) (s n) (M 3 2).toNat ≤ 1000 → Q (some (xI (dbt M (arF M s n) (arB M s (bK M) (bK M - n - 1)) (bV M) (s n) (M 3 2).toNat))) M') → xm 5 m_M_doubtOf [xR (some 64), xI (n : Int), xI (bV M)] M2 Q := by
  refine ⟨fun _ => trivial, fun Q h => ?_⟩
  have hrd := hz.rd
  have frE2 : frE M M2 := fun a ha => f.1 a (by omega)
  have hv := bV_rg hrd
  have hw10 := hrd.2.2.2
  refine z_doubtOf (s := s) (zR_fr f hz) (bK_le M) h26 hn (fun q hq => ?_) h86 (by rw [rRow_fr frE2]; rfl) hv (fun M' f2 hJ => ?_)
  · have h1 := sp_word hrd (show bV M < 1000000 by omega) rfl hq
    have h2 : hP M (s q) := by rw [hs q hq]; exact ⟨by omega, by omega, by rw [Int.toNat_natCast]; exact h1.1.1⟩
    refine ⟨hP_fr frE2 h2, ?_⟩
    rw [frE2 3 (by decide), hs q hq]
    omega
  · rw [arF_fr frE2, arB_fr frE2, dbt_fr frE2, frE2 3 (by decide)] at hJ ⊢
    refine h M' f2 ?_ ?_ <;> (unfold dbJ at hJ; omega)
set_option maxRecDepth 100000 in
set_option maxHeartbeats 1000000 in
theorem z_doubt {M : xM} {Q : Option xV → xM → Prop} {s : Nat → Int} {i : Int} (hz : zR M) (hs : ∀ q, q < bK M → s q = (spW M (bV M) (bK M) q : Int)) (hi : xrg i) (h1 : i < 0 → Q (some (xI (-2))) M) (hq0 : 0 ≤ i → cntP (M 15) (M 3 2).toNat = 0 → Q (some (xI (-3))) M) (h2 : 0 ≤ i → cntP (M 15) (M 3 2).toNat ≠ 0 → (bK M : Int) ≤ i → ∀ M', rdF M M' → Q (some (xI (-2))) M') (hq : cntP (M 15) (M 3 2).toNat ≠ 0 → ∀ n : Nat, i = (n : Int) → n < bK M → ∀ M', rdF M M' → Q (some (xI (dbt M (arF M s n) (arB M s (bK M) (bK M - n - 1)) (bV M) (s n) (M 3 2).toNat))) M') : xm 6 m_M_doubt [xR (some 64), xI i] M Q := by
  have i1 := hi.1
  have i2 := hi.2
  rcases Int.lt_or_le i 0 with q | q
  · have h5 := h1 q
    clear h1 h2 hq0 hq hs hz
    (refine xm_of (own := "DrumTongueModel") rfl (by decide +kernel) tk_M [some (xR (some 64)), some (xI i), none] (Nat.le_of_ble_eq_true rfl) rfl ?_; intro D nx X C P hW)
    refine xg hW k_M_doubt [] 40 ?_
    ((repeat' (first | (with_reducible refine And.intro ?_ ?_) | (intro h0; exact absurd h0 (by decide)) | (intro h0; exact absurd rfl h0) | (intro h0; exfalso; clear hW; omega) | (intro _) | ((conv => whnf); (first | (with_reducible refine And.intro ?_ ?_) | (intro h0; exact absurd h0 (by decide)) | (intro h0; exact absurd rfl h0) | (intro h0; exfalso; clear hW; omega) | (intro _))))); (all_goals (try omega)); (all_goals (try exact xnn (by omega))); (all_goals (try exact Nat.le_of_ble_eq_true rfl)); (all_goals (try ((conv => whnf); (first | (refine hW.2.1 _ _ ?_) | (change X _ _ _ _ _ _) | (change C _ _ _ _ _ _ _))))); (all_goals (try simp only [xup_at, xup_ne, xup_up, ne_eq, Nat.reduceEqDiff, not_false_eq_true, Int.toNat_natCast, x_lcmp] at *)); (all_goals (try omega)))
    all_goals exact h5
  obtain ⟨n, rfl⟩ := Int.eq_ofNat_of_zero_le q
  have hcr := cntP_rg (M 15) (M 3 2).toNat
  have w10 := hz.rd.2.2.2
  have hbK := bK_le M
  have cp := z_phrased' hz.1
  have cr : ∀ Q' : Option xV → xM → Prop, (∀ M', rdF M M' → M' 64 26 = (bK M : Int) → (∀ q, q < bK M → M' 86 q = s q) → Q' (some (xI (bV M))) M') → xm 5 m_M_reading [xR (some 64)] M Q' := fun Q' h => z_reading hz (fun M' a b c => h M' a b (fun q hq => by rw [c q hq, hs q hq]))
  have cd := fun (M2 : xM) (f : rdF M M2) (h26 : M2 64 26 = (bK M : Int)) (h86 : ∀ q, q < bK M → M2 86 q = s q) (hn : n < bK M) => (z_doubtOf' hz hs f h26 h86 hn).2
  replace hq0 := hq0 q
  replace h2 := h2 q
  have hq' := fun c (hn : n < bK M) => hq c n rfl hn
  clear hq h1
  generalize dbt M (arF M s n) (arB M s (bK M) (bK M - n - 1)) (bV M) (s n) (M 3 2).toNat = dv at *
  generalize bV M = v at *
  generalize bK M = K at *
  generalize cntP (M 15) (M 3 2).toNat = c at *
  (refine xm_of (own := "DrumTongueModel") rfl (by decide +kernel) tk_M [some (xR (some 64)), some (xI (n : Int)), none] (Nat.le_of_ble_eq_true rfl) rfl ?_; intro D nx X C P hW)
  refine xg hW k_M_doubt [] 40 ?_
  ((repeat' (first | (with_reducible refine And.intro ?_ ?_) | (intro h0; exact absurd h0 (by decide)) | (intro h0; exact absurd rfl h0) | (intro h0; exfalso; clear hW; omega) | (intro _) | ((conv => whnf); (first | (with_reducible refine And.intro ?_ ?_) | (intro h0; exact absurd h0 (by decide)) | (intro h0; exact absurd rfl h0) | (intro h0; exfalso; clear hW; omega) | (intro _) | (refine hW.1 _ _ _ _ _ _ (cp _ ?_) (by first | decide | omega) (by decide) (Nat.le_of_ble_eq_true rfl)))))); (all_goals (try omega)); (all_goals (try exact xnn (by omega))); (all_goals (try exact Nat.le_of_ble_eq_true rfl)); (all_goals (try ((conv => whnf); (first | (refine hW.2.1 _ _ ?_) | (change X _ _ _ _ _ _) | (change C _ _ _ _ _ _ _))))); (all_goals (try simp only [xup_at, xup_ne, xup_up, ne_eq, Nat.reduceEqDiff, not_false_eq_true, Int.toNat_natCast, x_lcmp] at *)); (all_goals (try omega)))
  · refine hW.1 _ _ _ _ _ _ (cr _ (fun M2 g1 g2 g3 => ?_)) (by decide) (by decide) (Nat.le_of_ble_eq_true rfl)
    have hc : c ≠ 0 := by omega
    rcases Nat.lt_or_ge n K with hn | hn
    · have cd' := cd M2 g1 g2 g3 hn
      have h5 := hq' hc hn
      clear cr cp hq0 h2 hq' cd hz hs g3
      ((repeat' (first | (with_reducible refine And.intro ?_ ?_) | (intro h0; exact absurd h0 (by decide)) | (intro h0; exact absurd rfl h0) | (intro h0; exfalso; clear hW; omega) | (intro _) | ((conv => whnf); (first | (with_reducible refine And.intro ?_ ?_) | (intro h0; exact absurd h0 (by decide)) | (intro h0; exact absurd rfl h0) | (intro h0; exfalso; clear hW; omega) | (intro _))))); (all_goals (try omega)); (all_goals (try exact xnn (by omega))); (all_goals (try exact Nat.le_of_ble_eq_true rfl)); (all_goals (try ((conv => whnf); (first | (refine hW.2.1 _ _ ?_) | (change X _ _ _ _ _ _) | (change C _ _ _ _ _ _ _))))); (all_goals (try simp only [xup_at, xup_ne, xup_up, ne_eq, Nat.reduceEqDiff, not_false_eq_true, Int.toNat_natCast, x_lcmp] at *)); (all_goals (try omega)))
      refine hW.1 _ _ _ _ _ _ (cd' _ (fun M3 f2 _ _ => ?_)) (by decide) (by decide) (Nat.le_of_ble_eq_true rfl)
      have h6 := h5 M3 ⟨fun a ha => by rw [f2 a (by omega) (by omega)]; exact g1.1 a ha, fun j hj => by rw [f2 64 (by decide) (by decide)]; exact g1.2 j hj⟩
      clear cd' h5 f2 g1
      ((repeat' (first | (with_reducible refine And.intro ?_ ?_) | (intro h0; exact absurd h0 (by decide)) | (intro h0; exact absurd rfl h0) | (intro h0; exfalso; clear hW; omega) | (intro _) | ((conv => whnf); (first | (with_reducible refine And.intro ?_ ?_) | (intro h0; exact absurd h0 (by decide)) | (intro h0; exact absurd rfl h0) | (intro h0; exfalso; clear hW; omega) | (intro _))))); (all_goals (try omega)); (all_goals (try exact xnn (by omega))); (all_goals (try exact Nat.le_of_ble_eq_true rfl)); (all_goals (try ((conv => whnf); (first | (refine hW.2.1 _ _ ?_) | (change X _ _ _ _ _ _) | (change C _ _ _ _ _ _ _))))); (all_goals (try simp only [xup_at, xup_ne, xup_up, ne_eq, Nat.reduceEqDiff, not_false_eq_true, Int.toNat_natCast, x_lcmp] at *)); (all_goals (try omega)))
      all_goals exact h6
    · have h5 := h2 hc (by omega) M2 g1
      clear cr cp hq0 h2 hq' cd hz hs g3 g1
      ((repeat' (first | (with_reducible refine And.intro ?_ ?_) | (intro h0; exact absurd h0 (by decide)) | (intro h0; exact absurd rfl h0) | (intro h0; exfalso; clear hW; omega) | (intro _) | ((conv => whnf); (first | (with_reducible refine And.intro ?_ ?_) | (intro h0; exact absurd h0 (by decide)) | (intro h0; exact absurd rfl h0) | (intro h0; exfalso; clear hW; omega) | (intro _))))); (all_goals (try omega)); (all_goals (try exact xnn (by omega))); (all_goals (try exact Nat.le_of_ble_eq_true rfl)); (all_goals (try ((conv => whnf); (first | (refine hW.2.1 _ _ ?_) | (change X _ _ _ _ _ _) | (change C _ _ _ _ _ _ _))))); (all_goals (try simp only [xup_at, xup_ne, xup_up, ne_eq, Nat.reduceEqDiff, not_false_eq_true, Int.toNat_natCast, x_lcmp] at *)); (all_goals (try omega)))
      all_goals exact h5
  · exact hq0 (by omega)
set_option maxRecDepth 100000 in
set_option maxHeartbeats 1000000 in
theorem z_most {M : xM} {Q : Option xV → xM → Prop} {s : Nat → Int} (hz : zR M) (hs : ∀ q, q < bK M → s q = (spW M (bV M) (bK M) q : Int)) (hq0 : cntP (M 15) (M 3 2).toNat = 0 → Q (some (xI (-3))) M) (hq : cntP (M 15) (M 3 2).toNat ≠ 0 → ∀ M', rdF M M' → Q (some (xI (mid (fun i => dbt M (arF M s i) (arB M s (bK M) (bK M - i - 1)) (bV M) (s i) (M 3 2).toNat) (bK M)).1)) M') : xm 6 m_M_most [xR (some 64)] M Q := by
  have hcr := cntP_rg (M 15) (M 3 2).toNat
  have w10 := hz.rd.2.2.2
  have hbK := bK_le M
  have cp := z_phrased' hz.1
  have cr : ∀ Q' : Option xV → xM → Prop, (∀ M', rdF M M' → M' 64 26 = (bK M : Int) → (∀ q, q < bK M → M' 86 q = s q) → Q' (some (xI (bV M))) M') → xm 5 m_M_reading [xR (some 64)] M Q' := fun Q' h => z_reading hz (fun M' a b c => h M' a b (fun q hq => by rw [c q hq, hs q hq]))
  have cd := fun (M2 : xM) (f : rdF M M2) (h26 : M2 64 26 = (bK M : Int)) (h86 : ∀ q, q < bK M → M2 86 q = s q) (n : Nat) (hn : n < bK M) => (z_doubtOf' hz hs f h26 h86 hn).2
  obtain ⟨dv, hdv⟩ : ∃ dv : Nat → Int, dv = fun i => dbt M (arF M s i) (arB M s (bK M) (bK M - i - 1)) (bV M) (s i) (M 3 2).toNat := ⟨_, rfl⟩
  rw [← hdv] at hq
  replace cd : ∀ (M2 : xM), rdF M M2 → M2 64 26 = (bK M : Int) → (∀ q, q < bK M → M2 86 q = s q) → ∀ n : Nat, n < bK M → ∀ Q : Option xV → xM → Prop, (∀ M', (∀ a, a ≠ 84 → a ≠ 85 → M' a = M2 a) → -1 ≤ dv n → dv n ≤ 1000 → Q (some (xI (dv n))) M') → xm 5 m_M_doubtOf [xR (some 64), xI (n : Int), xI (bV M)] M2 Q := by rw [hdv]; exact cd
  clear hdv hs
  generalize bV M = v at *
  generalize bK M = K at *
  generalize cntP (M 15) (M 3 2).toNat = c at *
  (refine xm_of (own := "DrumTongueModel") rfl (by decide +kernel) tk_M [some (xR (some 64)), none, none, none, none, none] (Nat.le_of_ble_eq_true rfl) rfl ?_; intro D nx X C P hW)
  have loop : c ≠ 0 → ∀ (m k : Nat) (M' : xM) (least : Int), k + m = K → rdF M M' → M' 64 26 = (K : Int) → (∀ q, q < K → M' 86 q = s q) → ((mid dv k).1 = -1 ∧ least = 1000000 ∨ 0 ≤ (mid dv k).1 ∧ least = (mid dv k).2 ∧ -1 ≤ least ∧ least ≤ 1000) → ∀ x5, X 23 [some (xR (some 64)), some (xI v), some (xI (mid dv k).1), some (xI least), some (xI (k : Int)), x5] [] (M', D, nx) 0 0 := by
    intro hc m
    induction m with
    | zero =>
      intro k M' least hk fr h26 h86 hJ x5
      obtain rfl : k = K := by omega
      have h5 := hq hc M' fr
      clear hq hq0 hz cp cr cd fr h86 hJ
      generalize (mid dv k).1 = a at *
      refine xg hW k_M_most [23] 40 ?_
      ((repeat' (first | (with_reducible refine And.intro ?_ ?_) | (intro h0; exact absurd h0 (by decide)) | (intro h0; exact absurd rfl h0) | (intro h0; exfalso; clear hW; omega) | (intro _) | ((conv => whnf); (first | (with_reducible refine And.intro ?_ ?_) | (intro h0; exact absurd h0 (by decide)) | (intro h0; exact absurd rfl h0) | (intro h0; exfalso; clear hW; omega) | (intro _))))); (all_goals (try omega)); (all_goals (try exact xnn (by omega))); (all_goals (try exact Nat.le_of_ble_eq_true rfl)); (all_goals (try ((conv => whnf); (first | (refine hW.2.1 _ _ ?_) | (change X _ _ _ _ _ _) | (change C _ _ _ _ _ _ _))))); (all_goals (try simp only [xup_at, xup_ne, xup_up, ne_eq, Nat.reduceEqDiff, not_false_eq_true, Int.toNat_natCast, x_lcmp] at *)); (all_goals (try omega)))
      all_goals exact h5
    | succ m ih =>
      intro k M' least hk fr h26 h86 hJ x5
      have cd' := cd M' fr h26 h86 k (by omega)
      have hms : mid dv (k + 1) = if dv k ≠ -1 ∧ ((mid dv k).1 = -1 ∨ dv k < (mid dv k).2) then ((k : Int), dv k) else mid dv k := rfl
      have fr2 : ∀ M3, (∀ a, a ≠ 84 → a ≠ 85 → M3 a = M' a) → rdF M M3 ∧ M3 64 26 = (K : Int) ∧ ∀ q, q < K → M3 86 q = s q := fun M3 f2 => ⟨⟨fun a ha => by rw [f2 a (by omega) (by omega)]; exact fr.1 a ha, fun j hj => by rw [f2 64 (by decide) (by decide)]; exact fr.2 j hj⟩, by rw [f2 64 (by decide) (by decide)]; exact h26, fun q hq => by rw [f2 86 (by decide) (by decide)]; exact h86 q hq⟩
      have yes : ∀ M3, (∀ a, a ≠ 84 → a ≠ 85 → M3 a = M' a) → -1 ≤ dv k → dv k ≤ 1000 → dv k ≠ -1 → dv k < least → ∀ x5, X 23 [some (xR (some 64)), some (xI v), some (xI (k : Int)), some (xI (dv k)), some (xI ((k + 1 : Nat) : Int)), x5] [] (M3, D, nx) 0 0 := fun M3 f2 d1 d2 d3 d4 x5 => by
        obtain ⟨r1, r2, r3⟩ := fr2 M3 f2
        have e : mid dv (k + 1) = ((k : Int), dv k) := by rw [hms, if_pos ⟨d3, by omega⟩]
        have := ih (k + 1) M3 (dv k) (by omega) r1 r2 r3 (by rw [e]; exact Or.inr ⟨by simp only; omega, rfl, d1, d2⟩) x5
        rw [e] at this
        exact this
      have no : ∀ M3, (∀ a, a ≠ 84 → a ≠ 85 → M3 a = M' a) → -1 ≤ dv k → dv k ≤ 1000 → ¬ (dv k ≠ -1 ∧ dv k < least) → ∀ x5, X 23 [some (xR (some 64)), some (xI v), some (xI (mid dv k).1), some (xI least), some (xI ((k + 1 : Nat) : Int)), x5] [] (M3, D, nx) 0 0 := fun M3 f2 d1 d2 d3 x5 => by
        obtain ⟨r1, r2, r3⟩ := fr2 M3 f2
        have e : mid dv (k + 1) = mid dv k := by rw [hms, if_neg (by omega)]
        have := ih (k + 1) M3 least (by omega) r1 r2 r3 (by rw [e]; exact hJ) x5
        rw [e] at this
        exact this
      have hl : -1 ≤ least ∧ least ≤ 1000000 := by omega
      clear hq hq0 hz cp cr cd fr h86 hJ ih fr2 hms
      generalize (mid dv k).1 = a at *
      refine xg hW k_M_most [23] 40 ?_
      ((repeat' (first | (with_reducible refine And.intro ?_ ?_) | (intro h0; exact absurd h0 (by decide)) | (intro h0; exact absurd rfl h0) | (intro h0; exfalso; clear hW; omega) | (intro _) | ((conv => whnf); (first | (with_reducible refine And.intro ?_ ?_) | (intro h0; exact absurd h0 (by decide)) | (intro h0; exact absurd rfl h0) | (intro h0; exfalso; clear hW; omega) | (intro _))))); (all_goals (try omega)); (all_goals (try exact xnn (by omega))); (all_goals (try exact Nat.le_of_ble_eq_true rfl)); (all_goals (try ((conv => whnf); (first | (refine hW.2.1 _ _ ?_) | (change X _ _ _ _ _ _) | (change C _ _ _ _ _ _ _))))); (all_goals (try simp only [xup_at, xup_ne, xup_up, ne_eq, Nat.reduceEqDiff, not_false_eq_true, Int.toNat_natCast, x_lcmp] at *)); (all_goals (try omega)))
      refine hW.1 _ _ _ _ _ _ (cd' _ (fun M3 f2 d1 d2 => ?_)) (by decide) (by decide) (Nat.le_of_ble_eq_true rfl)
      replace yes := yes M3 f2 d1 d2
      replace no := no M3 f2 d1 d2
      clear f2 cd'
      generalize dv k = dk at *
      ((repeat' (first | (with_reducible refine And.intro ?_ ?_) | (intro h0; exact absurd h0 (by decide)) | (intro h0; exact absurd rfl h0) | (intro h0; exfalso; clear hW; omega) | (intro _) | ((conv => whnf); (first | (with_reducible refine And.intro ?_ ?_) | (intro h0; exact absurd h0 (by decide)) | (intro h0; exact absurd rfl h0) | (intro h0; exfalso; clear hW; omega) | (intro _))))); (all_goals (try omega)); (all_goals (try exact xnn (by omega))); (all_goals (try exact Nat.le_of_ble_eq_true rfl)); (all_goals (try ((conv => whnf); (first | (refine hW.2.1 _ _ ?_) | (change X _ _ _ _ _ _) | (change C _ _ _ _ _ _ _))))); (all_goals (try simp only [xup_at, xup_ne, xup_up, ne_eq, Nat.reduceEqDiff, not_false_eq_true, Int.toNat_natCast, x_lcmp] at *)); (all_goals (try omega)))
      all_goals first | exact yes (by omega) (by omega) _ | exact no (by omega) _ | trace_state
  refine xg hW k_M_most [23] 40 ?_
  ((repeat' (first | (with_reducible refine And.intro ?_ ?_) | (intro h0; exact absurd h0 (by decide)) | (intro h0; exact absurd rfl h0) | (intro h0; exfalso; clear hW; omega) | (intro _) | ((conv => whnf); (first | (with_reducible refine And.intro ?_ ?_) | (intro h0; exact absurd h0 (by decide)) | (intro h0; exact absurd rfl h0) | (intro h0; exfalso; clear hW; omega) | (intro _) | (refine hW.1 _ _ _ _ _ _ (cp _ ?_) (by first | decide | omega) (by decide) (Nat.le_of_ble_eq_true rfl)))))); (all_goals (try omega)); (all_goals (try exact xnn (by omega))); (all_goals (try exact Nat.le_of_ble_eq_true rfl)); (all_goals (try ((conv => whnf); (first | (refine hW.2.1 _ _ ?_) | (change X _ _ _ _ _ _) | (change C _ _ _ _ _ _ _))))); (all_goals (try simp only [xup_at, xup_ne, xup_up, ne_eq, Nat.reduceEqDiff, not_false_eq_true, Int.toNat_natCast, x_lcmp] at *)); (all_goals (try omega)))
  · refine hW.1 _ _ _ _ _ _ (cr _ (fun M2 g1 g2 g3 => ?_)) (by decide) (by decide) (Nat.le_of_ble_eq_true rfl)
    have h5 := loop (by omega) K 0 M2 1000000 (by omega) g1 g2 g3 (Or.inl ⟨rfl, rfl⟩) none
    clear cr cp hq0 hq cd hz g3 g1 loop
    ((repeat' (first | (with_reducible refine And.intro ?_ ?_) | (intro h0; exact absurd h0 (by decide)) | (intro h0; exact absurd rfl h0) | (intro h0; exfalso; clear hW; omega) | (intro _) | ((conv => whnf); (first | (with_reducible refine And.intro ?_ ?_) | (intro h0; exact absurd h0 (by decide)) | (intro h0; exact absurd rfl h0) | (intro h0; exfalso; clear hW; omega) | (intro _))))); (all_goals (try omega)); (all_goals (try exact xnn (by omega))); (all_goals (try exact Nat.le_of_ble_eq_true rfl)); (all_goals (try ((conv => whnf); (first | (refine hW.2.1 _ _ ?_) | (change X _ _ _ _ _ _) | (change C _ _ _ _ _ _ _))))); (all_goals (try simp only [xup_at, xup_ne, xup_up, ne_eq, Nat.reduceEqDiff, not_false_eq_true, Int.toNat_natCast, x_lcmp] at *)); (all_goals (try omega)))
    all_goals exact h5
  · exact hq0 (by omega)
