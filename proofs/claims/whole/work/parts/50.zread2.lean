/-! the reference: read, doubt, most -/
theorem z_phrased' {M : xM} (hz : zG M) : ∀ Q : Option xV → xM → Prop, Q (some (xI (cntP (M 15) (M 3 2).toNat))) M → xm 1 m_M_phrased [xR (some 64)] M Q := fun Q h => by
  have e := hz.1.2.2.2.1.1
  have w0 := hz.1.1.1
  have w10 := hz.1.1.2.1
  have hp := hz.ph
  refine z_phrased (by omega) (fun w hw => ?_) ?_
  · rw [e] at hw
    rw [hz.2.2.1 w hw]
    have := hp w (by omega)
    unfold xrg
    omega
  · rw [e, cntP_congr (c := M 74) (c' := M 15) (fun u hu => hz.2.2.1 u (by omega))]
    exact h
set_option maxRecDepth 100000 in
set_option maxHeartbeats 1000000 in
theorem z_read {M : xM} {Q : Option xV → xM → Prop} (hz : zR M) (hq0 : cntP (M 15) (M 3 2).toNat = 0 → Q (some (xI (-3))) M) (hq : cntP (M 15) (M 3 2).toNat ≠ 0 → ∀ M', (∀ a, a < 64 ∨ 64 < a ∧ a < 76 ∨ 76 < a ∧ a < 83 ∨ 87 < a → M' a = M a) → (∀ j, j ≠ 15 → j ≠ 26 → M' 64 j = M 64 j) → M' 64 15 = (bK M : Int) → (∀ i, i < bK M → M' 76 i = (spW M (bV M) (bK M) i : Int)) → Q (some (xI (bV M))) M') : xm 6 m_M_read [xR (some 64)] M Q := by
  have hcr := cntP_rg (M 15) (M 3 2).toNat
  have w10 := hz.rd.2.2.2
  have hbK := bK_le M
  have cp := z_phrased' hz.1
  have cr : ∃ (K : Nat) (v : Int) (s : Nat → Int), K = bK M ∧ v = bV M ∧ (∀ i, i < K → s i = (spW M v K i : Int)) ∧ ∀ Q' : Option xV → xM → Prop, (∀ M', rdF M M' → M' 64 26 = (K : Int) → (∀ i, i < K → M' 86 i = s i) → Q' (some (xI v)) M') → xm 5 m_M_reading [xR (some 64)] M Q' := ⟨bK M, bV M, fun i => (spW M (bV M) (bK M) i : Int), rfl, rfl, fun _ _ => rfl, fun Q' h => z_reading hz h⟩
  obtain ⟨K, v, s, e1, e2, e3, cr⟩ := cr
  rw [← e1, ← e2] at hq
  rw [← e1] at hbK
  generalize cntP (M 15) (M 3 2).toNat = c at *
  (refine xm_of (own := "DrumTongueModel") rfl (by decide +kernel) tk_M [some (xR (some 64)), none, none] (Nat.le_of_ble_eq_true rfl) rfl ?_; intro D nx X C P hW)
  have loop : c ≠ 0 → ∀ (m k : Nat) (M' : xM), k + m = K → (∀ a, a < 64 ∨ 64 < a ∧ a < 76 ∨ 76 < a ∧ a < 83 ∨ 87 < a → M' a = M a) → (∀ j, j ≠ 15 → j ≠ 26 → M' 64 j = M 64 j) → M' 64 15 = (K : Int) → M' 64 26 = (K : Int) → (∀ i, i < K → M' 86 i = s i) → (∀ i, i < k → M' 76 i = s i) → X 25 [some (xR (some 64)), some (xI v), some (xI (k : Int))] [] (M', D, nx) 0 0 := by
    intro hc m
    induction m with
    | zero =>
      intro k M' hk f1 f2 f3 f4 f5 f6
      obtain rfl : k = K := by omega
      have h5 := hq hc M' f1 f2 f3 (fun i hi => by rw [f6 i hi, e3 i hi])
      clear hq hq0 e1 e2 e3 cr cp hz f1 f2 f5 f6
      refine xg hW k_M_read [25] 40 ?_
      ((repeat' (first | (with_reducible refine And.intro ?_ ?_) | (intro h0; exact absurd h0 (by decide)) | (intro h0; exact absurd rfl h0) | (intro h0; exfalso; clear hW; omega) | (intro _) | ((conv => whnf); (first | (with_reducible refine And.intro ?_ ?_) | (intro h0; exact absurd h0 (by decide)) | (intro h0; exact absurd rfl h0) | (intro h0; exfalso; clear hW; omega) | (intro _))))); (all_goals (try omega)); (all_goals (try exact xnn (by omega))); (all_goals (try exact Nat.le_of_ble_eq_true rfl)); (all_goals (try ((conv => whnf); (first | (refine hW.2.1 _ _ ?_) | (change X _ _ _ _ _ _) | (change C _ _ _ _ _ _ _))))); (all_goals (try simp only [xup_at, xup_ne, xup_up, ne_eq, Nat.reduceEqDiff, not_false_eq_true, Int.toNat_natCast, x_lcmp] at *)); (all_goals (try omega)))
      all_goals exact h5
    | succ m ih =>
      intro k M' hk f1 f2 f3 f4 f5 f6
      have h5 := ih (k + 1) (xup M' 76 (xup (M' 76) k (M' 86 k))) (by omega) (fun a ha => by rw [xup_ne (by omega)]; exact f1 a ha) (fun j j1 j2 => by rw [xup_ne (by decide)]; exact f2 j j1 j2) (by rw [xup_ne (by decide)]; exact f3) (by rw [xup_ne (by decide)]; exact f4) (fun i hi => by rw [xup_ne (by decide)]; exact f5 i hi) (fun i hi => by
        rw [xup_at]
        by_cases q : i = k
        · rw [q, xup_at]; exact f5 k (by omega)
        · rw [xup_ne q]; exact f6 i (by omega))
      clear hq hq0 e1 e2 e3 cr cp hz f1 f2 f5 f6 ih
      refine xg hW k_M_read [25] 40 ?_
      ((repeat' (first | (with_reducible refine And.intro ?_ ?_) | (intro h0; exact absurd h0 (by decide)) | (intro h0; exact absurd rfl h0) | (intro h0; exfalso; clear hW; omega) | (intro _) | ((conv => whnf); (first | (with_reducible refine And.intro ?_ ?_) | (intro h0; exact absurd h0 (by decide)) | (intro h0; exact absurd rfl h0) | (intro h0; exfalso; clear hW; omega) | (intro _))))); (all_goals (try omega)); (all_goals (try exact xnn (by omega))); (all_goals (try exact Nat.le_of_ble_eq_true rfl)); (all_goals (try ((conv => whnf); (first | (refine hW.2.1 _ _ ?_) | (change X _ _ _ _ _ _) | (change C _ _ _ _ _ _ _))))); (all_goals (try simp only [xup_at, xup_ne, xup_up, ne_eq, Nat.reduceEqDiff, not_false_eq_true, Int.toNat_natCast, x_lcmp] at *)); (all_goals (try omega)))
      all_goals exact h5
  refine xg hW k_M_read [25] 40 ?_
  ((repeat' (first | (with_reducible refine And.intro ?_ ?_) | (intro h0; exact absurd h0 (by decide)) | (intro h0; exact absurd rfl h0) | (intro h0; exfalso; clear hW; omega) | (intro _) | ((conv => whnf); (first | (with_reducible refine And.intro ?_ ?_) | (intro h0; exact absurd h0 (by decide)) | (intro h0; exact absurd rfl h0) | (intro h0; exfalso; clear hW; omega) | (intro _) | (refine hW.1 _ _ _ _ _ _ (cp _ ?_) (by first | decide | omega) (by decide) (Nat.le_of_ble_eq_true rfl)))))); (all_goals (try omega)); (all_goals (try exact xnn (by omega))); (all_goals (try exact Nat.le_of_ble_eq_true rfl)); (all_goals (try ((conv => whnf); (first | (refine hW.2.1 _ _ ?_) | (change X _ _ _ _ _ _) | (change C _ _ _ _ _ _ _))))); (all_goals (try simp only [xup_at, xup_ne, xup_up, ne_eq, Nat.reduceEqDiff, not_false_eq_true, Int.toNat_natCast, x_lcmp] at *)); (all_goals (try omega)))
  · refine hW.1 _ _ _ _ _ _ (cr _ (fun M2 g1 g2 g3 => ?_)) (by decide) (by decide) (Nat.le_of_ble_eq_true rfl)
    have h5 := loop (by omega) K 0 (xup M2 64 (xup (M2 64) 15 (K : Int))) (by omega) (fun a ha => by rw [xup_ne (by omega)]; exact g1.1 a (by omega)) (fun j j1 j2 => by rw [xup_at, xup_ne j1]; exact g1.2 j j2) (by rw [xup_at, xup_at]) (by rw [xup_at, xup_ne (by decide)]; exact g2) (fun i hi => by rw [xup_ne (by decide)]; exact g3 i hi) (fun i hi => absurd hi (by omega))
    rw [← g2] at h5
    clear hq hq0 e1 e2 e3 cr cp hz loop g1 g3
    ((repeat' (first | (with_reducible refine And.intro ?_ ?_) | (intro h0; exact absurd h0 (by decide)) | (intro h0; exact absurd rfl h0) | (intro h0; exfalso; clear hW; omega) | (intro _) | ((conv => whnf); (first | (with_reducible refine And.intro ?_ ?_) | (intro h0; exact absurd h0 (by decide)) | (intro h0; exact absurd rfl h0) | (intro h0; exfalso; clear hW; omega) | (intro _))))); (all_goals (try omega)); (all_goals (try exact xnn (by omega))); (all_goals (try exact Nat.le_of_ble_eq_true rfl)); (all_goals (try ((conv => whnf); (first | (refine hW.2.1 _ _ ?_) | (change X _ _ _ _ _ _) | (change C _ _ _ _ _ _ _))))); (all_goals (try simp only [xup_at, xup_ne, xup_up, ne_eq, Nat.reduceEqDiff, not_false_eq_true, Int.toNat_natCast, x_lcmp] at *)); (all_goals (try omega)))
    all_goals exact h5
  · exact hq0 (by omega)
set_option maxRecDepth 100000 in
set_option maxHeartbeats 600000 in
theorem z_readAt {M : xM} {Q : Option xV → xM → Prop} {i : Int} (hn : 0 ≤ M 64 15 ∧ M 64 15 ≤ 12) (hi : xrg i) (h1 : 0 ≤ i → i < M 64 15 → Q (some (xI (M 76 i.toNat))) M) (h2 : i < 0 ∨ M 64 15 ≤ i → Q (some (xI (-1))) M) : xm 2 m_M_readAt [xR (some 64), xI i] M Q := by
  have i1 := hi.1
  have i2 := hi.2
  (refine xm_of (own := "DrumTongueModel") rfl (by decide +kernel) tk_M [some (xR (some 64)), some (xI i)] (Nat.le_of_ble_eq_true rfl) rfl ?_; intro D nx X C P hW)
  refine xg hW k_M_readAt [] 40 ?_
  ((repeat' (first | (with_reducible refine And.intro ?_ ?_) | (intro h0; exact absurd h0 (by decide)) | (intro h0; exact absurd rfl h0) | (intro h0; exfalso; clear hW; omega) | (intro _) | ((conv => whnf); (first | (with_reducible refine And.intro ?_ ?_) | (intro h0; exact absurd h0 (by decide)) | (intro h0; exact absurd rfl h0) | (intro h0; exfalso; clear hW; omega) | (intro _) | (refine hW.1 _ _ _ _ _ _ (z_in ?_) (by first | decide | omega) (by decide) (Nat.le_of_ble_eq_true rfl)))))); (all_goals (try omega)); (all_goals (try exact xnn (by omega))); (all_goals (try exact Nat.le_of_ble_eq_true rfl)); (all_goals (try ((conv => whnf); (first | (refine hW.2.1 _ _ ?_) | (change X _ _ _ _ _ _) | (change C _ _ _ _ _ _ _))))); (all_goals (try simp only [xup_at, xup_ne, xup_up, ne_eq, Nat.reduceEqDiff, not_false_eq_true, Int.toNat_natCast, x_lcmp] at *)); (all_goals (try omega)))
  all_goals first | exact h1 (by omega) (by omega) | exact h2 (by omega) | trace_state
set_option maxRecDepth 100000 in
set_option maxHeartbeats 1000000 in
theorem z_offWith {M : xM} {Q : Option xV → xM → Prop} {K i o : Nat} {s : Nat → Int} (hz : zR M) (hK : K ≤ 12) (h26 : M 64 26 = (K : Int)) (hi : i < K) (hs : ∀ q, q < K → hP M (s q) ∧ s q < M 3 2) (ho : hP M (o : Int) ∧ (o : Int) < M 3 2) (h86 : ∀ q, q < K → M 86 q = s q) (hq : ∀ M', (∀ a, a ≠ 84 → a ≠ 85 → M' a = M a) → Q (some (xI (arF M (xup s i (o : Int)) K (M 23 1).toNat))) M') : xm 4 m_M_offWith [xR (some 64), xI (i : Int), xI (o : Int)] M Q := by
  have hrd := hz.rd
  obtain ⟨n, hn⟩ := Int.eq_ofNat_of_zero_le hrd.1.1
  have n60 := hrd.1.2.1
  have w10 := hrd.2.2.2
  have e13 : M 64 13 = (n : Int) := by rw [hz.2.1.1]; exact hn
  have hs' : ∀ q, q < K → hP M (xup s i (o : Int) q) ∧ xup s i (o : Int) q < M 3 2 := fun q hq => by
    by_cases c : q = i
    · rw [c, xup_at]; exact ho
    · rw [xup_ne c]; exact hs q hq
  have hrg := arF_rg (s := xup s i (o : Int)) (n := K) hrd (fun q hq => (hs' q hq).1)
  have hsi : ∀ q, q < K → xup s i (o : Int) q = if q = i then (o : Int) else M 86 q := fun q hq => by
    by_cases c : q = i
    · rw [c, xup_at, if_pos rfl]
    · rw [xup_ne c, if_neg c, h86 q hq]
  have hstep : ∀ q, arF M (xup s i (o : Int)) (q + 1) = wF M (xup s i (o : Int) q).toNat (arF M (xup s i (o : Int)) q) := fun q => rfl
  have hcl := fun q => arF_cl (M := M) (s := xup s i (o : Int)) n q
  have h00 : ∀ j : Nat, arF M (xup s i (o : Int)) 0 j = 3 * (j : Int) := fun j => rfl
  obtain ⟨ho1, ho2⟩ := ho
  have ho3 : (o : Int) < 10 := ho1.2.1
  rw [hn, Int.toNat_natCast] at hq
  generalize xup s i (o : Int) = s' at *
  generalize arF M s' = F at *
  (refine xm_of (own := "DrumTongueModel") rfl (by decide +kernel) tk_M [some (xR (some 64)), some (xI (i : Int)), some (xI (o : Int)), none] (Nat.le_of_ble_eq_true rfl) rfl ?_; intro D nx X C P hW)
  have loop : ∀ (m k : Nat) (M' : xM), k + m = K → (∀ a, a ≠ 84 → a ≠ 85 → M' a = M a) → (∀ j, j ≤ n → M' 84 j = F k j) → X 27 [some (xR (some 64)), some (xI (i : Int)), some (xI (o : Int)), some (xI (k : Int))] [] (M', D, nx) 0 0 := by
    intro m
    induction m with
    | zero =>
      intro k M' hk fr h84
      obtain rfl : k = K := by omega
      have h5 := hq M' fr
      have g26 : M' 64 26 = (k : Int) := by rw [fr 64 (by decide) (by decide)]; exact h26
      have g13 : M' 64 13 = (n : Int) := by rw [fr 64 (by decide) (by decide)]; exact e13
      have ev : M' 84 n = F k n := h84 n (Nat.le_refl _)
      rw [← ev] at h5
      clear hq hz hrd hs hs' hrg hsi hstep hcl h00 h84 ho1 ho2
      refine xg hW k_M_offWith [27] 40 ?_
      ((repeat' (first | (with_reducible refine And.intro ?_ ?_) | (intro h0; exact absurd h0 (by decide)) | (intro h0; exact absurd rfl h0) | (intro h0; exfalso; clear hW; omega) | (intro _) | ((conv => whnf); (first | (with_reducible refine And.intro ?_ ?_) | (intro h0; exact absurd h0 (by decide)) | (intro h0; exact absurd rfl h0) | (intro h0; exfalso; clear hW; omega) | (intro _))))); (all_goals (try omega)); (all_goals (try exact xnn (by omega))); (all_goals (try exact Nat.le_of_ble_eq_true rfl)); (all_goals (try ((conv => whnf); (first | (refine hW.2.1 _ _ ?_) | (change X _ _ _ _ _ _) | (change C _ _ _ _ _ _ _))))); (all_goals (try simp only [xup_at, xup_ne, xup_up, ne_eq, Nat.reduceEqDiff, not_false_eq_true, Int.toNat_natCast, x_lcmp] at *)); (all_goals (try omega)))
      rw [g13, Int.toNat_natCast]
      exact h5
    | succ m ih =>
      intro k M' hk fr h84
      have g26 : M' 64 26 = (K : Int) := by rw [fr 64 (by decide) (by decide)]; exact h26
      have g13 : M' 64 13 = (n : Int) := by rw [fr 64 (by decide) (by decide)]; exact e13
      have frE2 : frE M M' := fun a ha => fr a (by omega) (by omega)
      have hz2 : zR M' := zR_fr ⟨fun a ha => fr a (by omega) (by omega), fun j _ => by rw [fr 64 (by decide) (by decide)]⟩ hz
      have e23 : M' 23 1 = (n : Int) := by rw [frE2 23 (by decide)]; exact hn
      obtain ⟨⟨p1, p2, p3⟩, p4⟩ := hs' k (by omega)
      obtain ⟨x, hx⟩ := Int.eq_ofNat_of_zero_le p1
      have hx10 : x < 10 := by omega
      have cb : ∀ Q' : Option xV → xM → Prop, (∀ M3, (∀ a, a ≠ 84 → a ≠ 85 → M3 a = M a) → (∀ j : Nat, j ≤ n → M3 84 j = F (k + 1) j) → Q' none M3) → xm 3 m_M_behind [xR (some 64), xI (x : Int)] M' Q' := fun Q' h => by
        rw [hx, Int.toNat_natCast] at p3
        refine z_behind hz2.1 hz2.2.1 hz2.2.2 (by rw [frE2 3 (by decide)]; omega) (by rw [frE2 15 (by decide)]; exact p3) ?_ (fun j hj => ?_) (fun M3 a b => h M3 (fun y y1 y2 => by rw [a y y1 y2]; exact fr y y1 y2) (fun j hj => ?_))
        · rw [e23, Int.toNat_natCast]
          intro j hj
          rw [h84 j (by omega), h84 (j + 1) (by omega)]
          exact hcl k j hj
        · rw [h84 j (by omega)]
          have := hrg k (by omega) j (by omega)
          omega
        · rw [b j (by omega), wF_fr frE2, hstep, hx, Int.toNat_natCast]
          exact wF_congr x (by omega) (fun j hj => h84 j (by omega)) j (by omega)
      have h5 := fun M3 a b => ih (k + 1) M3 (by omega) a b
      have hxk := hsi k (by omega)
      rw [hx] at hxk
      have g86 : M' 86 = M 86 := fr 86 (by decide) (by decide)
      by_cases c : k = i
      · rw [if_pos c] at hxk
        obtain rfl : x = o := by omega
        clear hq hz hrd hs hs' hrg hsi hstep hcl h00 h84 ho1 ho2 ih hz2 frE2 fr h86
        refine xg hW k_M_offWith [27] 40 ?_
        ((repeat' (first | (with_reducible refine And.intro ?_ ?_) | (intro h0; exact absurd h0 (by decide)) | (intro h0; exact absurd rfl h0) | (intro h0; exfalso; clear hW; omega) | (intro _) | ((conv => whnf); (first | (with_reducible refine And.intro ?_ ?_) | (intro h0; exact absurd h0 (by decide)) | (intro h0; exact absurd rfl h0) | (intro h0; exfalso; clear hW; omega) | (intro _))))); (all_goals (try omega)); (all_goals (try exact xnn (by omega))); (all_goals (try exact Nat.le_of_ble_eq_true rfl)); (all_goals (try ((conv => whnf); (first | (refine hW.2.1 _ _ ?_) | (change X _ _ _ _ _ _) | (change C _ _ _ _ _ _ _))))); (all_goals (try simp only [xup_at, xup_ne, xup_up, ne_eq, Nat.reduceEqDiff, not_false_eq_true, Int.toNat_natCast, x_lcmp] at *)); (all_goals (try omega)))
        refine hW.1 _ _ _ _ _ _ (cb _ (fun M3 a b => ?_)) (by decide) (by decide) (Nat.le_of_ble_eq_true rfl)
        replace h5 := h5 M3 a b
        clear cb a b
        ((repeat' (first | (with_reducible refine And.intro ?_ ?_) | (intro h0; exact absurd h0 (by decide)) | (intro h0; exact absurd rfl h0) | (intro h0; exfalso; clear hW; omega) | (intro _) | ((conv => whnf); (first | (with_reducible refine And.intro ?_ ?_) | (intro h0; exact absurd h0 (by decide)) | (intro h0; exact absurd rfl h0) | (intro h0; exfalso; clear hW; omega) | (intro _))))); (all_goals (try omega)); (all_goals (try exact xnn (by omega))); (all_goals (try exact Nat.le_of_ble_eq_true rfl)); (all_goals (try ((conv => whnf); (first | (refine hW.2.1 _ _ ?_) | (change X _ _ _ _ _ _) | (change C _ _ _ _ _ _ _))))); (all_goals (try simp only [xup_at, xup_ne, xup_up, ne_eq, Nat.reduceEqDiff, not_false_eq_true, Int.toNat_natCast, x_lcmp] at *)); (all_goals (try omega)))
        all_goals exact h5
      · rw [if_neg c, ← g86] at hxk
        clear hq hz hrd hs hs' hrg hsi hstep hcl h00 h84 ho1 ho2 ih hz2 frE2 fr h86
        refine xg hW k_M_offWith [27] 40 ?_
        ((repeat' (first | (with_reducible refine And.intro ?_ ?_) | (intro h0; exact absurd h0 (by decide)) | (intro h0; exact absurd rfl h0) | (intro h0; exfalso; clear hW; omega) | (intro _) | ((conv => whnf); (first | (with_reducible refine And.intro ?_ ?_) | (intro h0; exact absurd h0 (by decide)) | (intro h0; exact absurd rfl h0) | (intro h0; exfalso; clear hW; omega) | (intro _))))); (all_goals (try omega)); (all_goals (try exact xnn (by omega))); (all_goals (try exact Nat.le_of_ble_eq_true rfl)); (all_goals (try ((conv => whnf); (first | (refine hW.2.1 _ _ ?_) | (change X _ _ _ _ _ _) | (change C _ _ _ _ _ _ _))))); (all_goals (try simp only [xup_at, xup_ne, xup_up, ne_eq, Nat.reduceEqDiff, not_false_eq_true, Int.toNat_natCast, x_lcmp] at *)); (all_goals (try omega)))
        rw [← hxk]
        refine hW.1 _ _ _ _ _ _ (cb _ (fun M3 a b => ?_)) (by decide) (by decide) (Nat.le_of_ble_eq_true rfl)
        replace h5 := h5 M3 a b
        clear cb a b
        ((repeat' (first | (with_reducible refine And.intro ?_ ?_) | (intro h0; exact absurd h0 (by decide)) | (intro h0; exact absurd rfl h0) | (intro h0; exfalso; clear hW; omega) | (intro _) | ((conv => whnf); (first | (with_reducible refine And.intro ?_ ?_) | (intro h0; exact absurd h0 (by decide)) | (intro h0; exact absurd rfl h0) | (intro h0; exfalso; clear hW; omega) | (intro _))))); (all_goals (try omega)); (all_goals (try exact xnn (by omega))); (all_goals (try exact Nat.le_of_ble_eq_true rfl)); (all_goals (try ((conv => whnf); (first | (refine hW.2.1 _ _ ?_) | (change X _ _ _ _ _ _) | (change C _ _ _ _ _ _ _))))); (all_goals (try simp only [xup_at, xup_ne, xup_up, ne_eq, Nat.reduceEqDiff, not_false_eq_true, Int.toNat_natCast, x_lcmp] at *)); (all_goals (try omega)))
        all_goals exact h5
  have init : ∀ (m t : Nat) (f : Nat → Int), t + m = n + 1 → (∀ j, j < t → f j = 3 * (j : Int)) → X 2 [some (xR (some 64)), some (xI (i : Int)), some (xI (o : Int)), some (xI (t : Int))] [] (xup M 84 f, D, nx) 0 0 := by
    intro m
    induction m with
    | zero =>
      intro t f ht hf
      have h5 := loop K 0 (xup M 84 f) (by omega) (fun a a1 _ => by rw [xup_ne a1]) (fun j hj => by rw [xup_at, h00]; exact hf j (by omega))
      clear hq hz hrd hs hs' hrg hsi hstep hcl h00 ho1 ho2 loop hf
      refine xg hW k_M_offWith [2, 27] 40 ?_
      ((repeat' (first | (with_reducible refine And.intro ?_ ?_) | (intro h0; exact absurd h0 (by decide)) | (intro h0; exact absurd rfl h0) | (intro h0; exfalso; clear hW; omega) | (intro _) | ((conv => whnf); (first | (with_reducible refine And.intro ?_ ?_) | (intro h0; exact absurd h0 (by decide)) | (intro h0; exact absurd rfl h0) | (intro h0; exfalso; clear hW; omega) | (intro _))))); (all_goals (try omega)); (all_goals (try exact xnn (by omega))); (all_goals (try exact Nat.le_of_ble_eq_true rfl)); (all_goals (try ((conv => whnf); (first | (refine hW.2.1 _ _ ?_) | (change X _ _ _ _ _ _) | (change C _ _ _ _ _ _ _))))); (all_goals (try simp only [xup_at, xup_ne, xup_up, ne_eq, Nat.reduceEqDiff, not_false_eq_true, Int.toNat_natCast, x_lcmp] at *)); (all_goals (try omega)))
      all_goals exact h5
    | succ m ih =>
      intro t f ht hf
      have h5 := ih (t + 1) (xup f t (3 * (t : Int))) (by omega) (fun j hj => by
        by_cases q : j = t
        · rw [q, xup_at]
        · rw [xup_ne q]; exact hf j (by omega))
      clear hq hz hrd hs hs' hrg hsi hstep hcl h00 ho1 ho2 loop hf ih
      refine xg hW k_M_offWith [2, 27] 40 ?_
      ((repeat' (first | (with_reducible refine And.intro ?_ ?_) | (intro h0; exact absurd h0 (by decide)) | (intro h0; exact absurd rfl h0) | (intro h0; exfalso; clear hW; omega) | (intro _) | ((conv => whnf); (first | (with_reducible refine And.intro ?_ ?_) | (intro h0; exact absurd h0 (by decide)) | (intro h0; exact absurd rfl h0) | (intro h0; exfalso; clear hW; omega) | (intro _))))); (all_goals (try omega)); (all_goals (try exact xnn (by omega))); (all_goals (try exact Nat.le_of_ble_eq_true rfl)); (all_goals (try ((conv => whnf); (first | (refine hW.2.1 _ _ ?_) | (change X _ _ _ _ _ _) | (change C _ _ _ _ _ _ _))))); (all_goals (try simp only [xup_at, xup_ne, xup_up, ne_eq, Nat.reduceEqDiff, not_false_eq_true, Int.toNat_natCast, x_lcmp] at *)); (all_goals (try omega)))
      all_goals exact h5
  have h5 := init (n + 1) 0 (M 84) (by omega) (fun j hj => absurd hj (by omega))
  rw [xup_id] at h5
  clear hq hz hrd hs hs' hrg hsi hstep hcl h00 ho1 ho2 loop init
  refine xg hW k_M_offWith [2] 40 ?_
  ((repeat' (first | (with_reducible refine And.intro ?_ ?_) | (intro h0; exact absurd h0 (by decide)) | (intro h0; exact absurd rfl h0) | (intro h0; exfalso; clear hW; omega) | (intro _) | ((conv => whnf); (first | (with_reducible refine And.intro ?_ ?_) | (intro h0; exact absurd h0 (by decide)) | (intro h0; exact absurd rfl h0) | (intro h0; exfalso; clear hW; omega) | (intro _))))); (all_goals (try omega)); (all_goals (try exact xnn (by omega))); (all_goals (try exact Nat.le_of_ble_eq_true rfl)); (all_goals (try ((conv => whnf); (first | (refine hW.2.1 _ _ ?_) | (change X _ _ _ _ _ _) | (change C _ _ _ _ _ _ _))))); (all_goals (try simp only [xup_at, xup_ne, xup_up, ne_eq, Nat.reduceEqDiff, not_false_eq_true, Int.toNat_natCast, x_lcmp] at *)); (all_goals (try omega)))
  all_goals exact h5
