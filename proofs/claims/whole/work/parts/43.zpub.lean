/-! the reference: what is told of phrases -/
/-- what was chosen is the same; the tables hold wherever something was chosen -/
def relC (M : xM) : Prop := (∀ w : Nat, (w : Int) < M 3 2 → M 74 w = M 15 w) ∧ ∀ w : Nat, (w : Int) < M 3 2 → M 15 w ≠ -1 → tabZ M
def zG (M : xM) : Prop := zPre M ∧ gvOk M ∧ relC M
theorem zG_fr {M M' : xM} (h : ∀ a, a < 18 ∨ (64 < a ∧ a < 75) → M' a = M a) (h0 : M' 64 0 = M 64 0) (h3 : M' 64 3 = M 64 3) (h6 : M' 64 6 = M 64 6) (hz : zG M) : zG M' := by
  obtain ⟨a, b, c, d⟩ := hz
  refine ⟨zPre_fr (fun x hx => h x (by omega)) h0 h3 h6 a, gvOk_of (fun x hx => h x (by omega)) b, ?_, ?_⟩
  · rw [h 3 (by omega), h 74 (by omega), h 15 (by omega)]
    exact c
  · rw [h 3 (by omega), h 15 (by omega)]
    exact fun w hw hne => tabZ_fr (fun x hx => h x (by omega)) (d w hw hne)
theorem zG.ph {M : xM} (hz : zG M) : phOk M := gvOk.ph hz.1.1 (tbOk_tl hz.1.2.1 hz.1.2.2.1) hz.2.1
theorem ch_at {M : xM} (hz : zG M) {w : Nat} (hw : (w : Int) < M 3 2) (h : M 15 w ≠ -1) : ∃ (t : Nat) (x : xTl), (t : Int) < M 10 2 ∧ t < 31 ∧ M 15 w = (t : Int) ∧ M 74 w = (t : Int) ∧ M 16 w = pS M w t ∧ M 17 w = pN M w t ∧ zOk M ∧ M 70 (31 * w + t) = M 16 w ∧ M 71 (31 * w + t) = (x.1 : Int) ∧ M 72 (31 * w + t) = (x.2.1 : Int) ∧ M 73 (31 * w + t) = (x.2.2 : Int) ∧ M 13 t = fsT x ∧ M 14 t = snT x ∧ (x = (0, 0, 0) ∨ (∃ i, x = (1, i, 0) ∧ (i : Int) < M 6 2) ∨ ∃ i j, x = (2, i, j) ∧ (i : Int) < M 6 2 ∧ (j : Int) < M 6 2) ∧ (1 ≤ M 16 w ∧ M 16 w ≤ 18 ∧ 0 ≤ M 17 w ∧ M 17 w < 262144) := by
  obtain ⟨hp, hg, hc1, hc2⟩ := hz
  have ht := hc2 w hw h
  have hzo := zOk_pre hp ht
  have w10 := hp.1.2.1
  rcases hg w (by omega) with q | ⟨_, t, q1, q2, q3, q4⟩
  · exact absurd q h
  · obtain ⟨x, a1, a2, a3, a4, a5, a6, -, -, a9, a10, a11⟩ := tab_at hp.2.1 hp.2.2.1 ht hw q1
    obtain ⟨p1, p2, p3, p4, p5⟩ := pB hp.1 hzo.2.2.1 hw q1
    exact ⟨t, x, q1, a2, q2, by rw [hc1 w hw, q2], q3, q4, hzo, by rw [a3, q3], a4, a5, a6, a9, a10, a11, by rw [q3, q4]; exact ⟨p1, p3, p4, p5⟩⟩
theorem z_isWord' {M : xM} (hz : zPre M) {w : Int} (hw : xrg w) : ∀ Q : Option xV → xM → Prop, (0 ≤ w → w < M 3 2 → Q (some (xI 1)) M) ∧ (w < 0 ∨ M 3 2 ≤ w → Q (some (xI 0)) M) → xm 2 m_M_isWord [xR (some 64), xI w] M Q := fun Q h => by
  have e := hz.2.2.2.1.1
  have w0 := hz.1.1
  have w10 := hz.1.2.1
  rw [← e] at h
  exact z_isWord ⟨⟨hw, by omega, by omega⟩, h⟩
set_option maxRecDepth 100000 in
set_option maxHeartbeats 600000 in
theorem z_lengthOf {M : xM} {Q : Option xV → xM → Prop} {w : Nat} (hz : zG M) (h : (w : Int) < M 3 2 ∧ (M 15 w = -1 → Q (some (xI (-1))) M) ∧ (M 15 w ≠ -1 → Q (some (xI (M 16 w))) M)) : xm 1 m_M_lengthOf [xR (some 64), xI (w : Int)] M Q := by
  obtain ⟨hw, h1, h2⟩ := h
  have w10 := hz.1.1.2.1
  have ec := hz.2.2.1 w hw
  by_cases c : M 15 w = -1
  · have h5 := h1 c
    rw [c] at ec
    clear h1 h2 hz
    (refine xm_of (own := "DrumTongueModel") rfl (by decide +kernel) tk_M [some (xR (some 64)), some (xI (w : Int))] (Nat.le_of_ble_eq_true rfl) rfl ?_; intro D nx X C P hW)
    refine xg hW k_M_lengthOf [] 40 ?_
    ((repeat' (first | (with_reducible refine And.intro ?_ ?_) | (intro h0; exact absurd h0 (by decide)) | (intro h0; exact absurd rfl h0) | (intro h0; exfalso; clear hW; omega) | (intro _) | ((conv => whnf); (first | (with_reducible refine And.intro ?_ ?_) | (intro h0; exact absurd h0 (by decide)) | (intro h0; exact absurd rfl h0) | (intro h0; exfalso; clear hW; omega) | (intro _))))); (all_goals (try omega)); (all_goals (try exact xnn (by omega))); (all_goals (try exact Nat.le_of_ble_eq_true rfl)); (all_goals (try ((conv => whnf); (first | (refine hW.2.1 _ _ ?_) | (change X _ _ _ _ _ _) | (change C _ _ _ _ _ _ _))))); (all_goals (try simp only [xup_at, xup_ne, xup_up, ne_eq, Nat.reduceEqDiff, not_false_eq_true, Int.toNat_natCast, x_lcmp] at *)); (all_goals (try omega)))
    all_goals exact h5
  · have h5 := h2 c
    obtain ⟨t, x, ht, t31, e15, e74, -, -, -, e70, -⟩ := ch_at hz hw c
    rw [show 31 * w + t = (31 * (w : Int) + M 74 w).toNat by omega] at e70
    rw [← e70] at h5
    clear h1 h2 hz
    (refine xm_of (own := "DrumTongueModel") rfl (by decide +kernel) tk_M [some (xR (some 64)), some (xI (w : Int))] (Nat.le_of_ble_eq_true rfl) rfl ?_; intro D nx X C P hW)
    refine xg hW k_M_lengthOf [] 40 ?_
    ((repeat' (first | (with_reducible refine And.intro ?_ ?_) | (intro h0; exact absurd h0 (by decide)) | (intro h0; exact absurd rfl h0) | (intro h0; exfalso; clear hW; omega) | (intro _) | ((conv => whnf); (first | (with_reducible refine And.intro ?_ ?_) | (intro h0; exact absurd h0 (by decide)) | (intro h0; exact absurd rfl h0) | (intro h0; exfalso; clear hW; omega) | (intro _))))); (all_goals (try omega)); (all_goals (try exact xnn (by omega))); (all_goals (try exact Nat.le_of_ble_eq_true rfl)); (all_goals (try ((conv => whnf); (first | (refine hW.2.1 _ _ ?_) | (change X _ _ _ _ _ _) | (change C _ _ _ _ _ _ _))))); (all_goals (try simp only [xup_at, xup_ne, xup_up, ne_eq, Nat.reduceEqDiff, not_false_eq_true, Int.toNat_natCast, x_lcmp] at *)); (all_goals (try omega)))
    all_goals exact h5
theorem z_lengthOfY {M : xM} {Q : Option xV → xM → Prop} {w : Nat} (hz : zG M) (h : ((w : Int) < M 3 2 ∧ M 15 w ≠ -1) ∧ Q (some (xI (M 16 w))) M) : xm 1 m_M_lengthOf [xR (some 64), xI (w : Int)] M Q := z_lengthOf hz ⟨h.1.1, fun q => absurd q h.1.2, fun _ => h.2⟩
set_option maxRecDepth 100000 in
set_option maxHeartbeats 600000 in
theorem z_beatOf {M : xM} {Q : Option xV → xM → Prop} {w i : Nat} (hz : zG M) (h : ((w : Int) < M 3 2 ∧ M 15 w ≠ -1 ∧ (i : Int) < M 16 w) ∧ Q (some (xI (btOf (M 16 w) (M 17 w) i))) M) : xm 2 m_M_beatOf [xR (some 64), xI (w : Int), xI (i : Int)] M Q := by
  obtain ⟨⟨hw, c, hi⟩, hq⟩ := h
  have w10 := hz.1.1.2.1
  obtain ⟨t, x, ht, t31, e15, e74, e16, e17, hzo, -, -, -, -, -, -, -, b1, b2, b3, b4⟩ := ch_at hz hw c
  have cb : ∀ Q' : Option xV → xM → Prop, Q' (some (xI (M 17 w))) M → xm 1 m_M_bitsOf [xR (some 64), xI (w : Int), xI (M 74 w)] M Q' := fun Q' h => by
    rw [e74]
    exact z_bitsOf hzo ⟨⟨hw, ht⟩, by rw [← e17]; exact h⟩
  have cl : ∀ Q' : Option xV → xM → Prop, Q' (some (xI (M 16 w))) M → xm 1 m_M_lengthOf [xR (some 64), xI (w : Int)] M Q' := fun Q' h => z_lengthOfY hz ⟨⟨hw, c⟩, h⟩
  have e := xbit (n := M 17 w) (k := M 16 w - 1 - i) b3 (by omega) (by omega) (by omega)
  unfold btOf at hq
  rw [show (M 16 w).toNat - 1 - i = (M 16 w - 1 - i).toNat by omega, ← e] at hq
  clear hz e hzo
  (refine xm_of (own := "DrumTongueModel") rfl (by decide +kernel) tk_M [some (xR (some 64)), some (xI (w : Int)), some (xI (i : Int))] (Nat.le_of_ble_eq_true rfl) rfl ?_; intro D nx X C P hW)
  refine xg hW k_M_beatOf [] 40 ?_
  ((repeat' (first | (with_reducible refine And.intro ?_ ?_) | (intro h0; exact absurd h0 (by decide)) | (intro h0; exact absurd rfl h0) | (intro h0; exfalso; clear hW; omega) | (intro _) | ((conv => whnf); (first | (with_reducible refine And.intro ?_ ?_) | (intro h0; exact absurd h0 (by decide)) | (intro h0; exact absurd rfl h0) | (intro h0; exfalso; clear hW; omega) | (intro _) | (refine hW.1 _ _ _ _ _ _ (cb _ ?_) (by first | decide | omega) (by decide) (Nat.le_of_ble_eq_true rfl)) | (refine hW.1 _ _ _ _ _ _ (cl _ ?_) (by first | decide | omega) (by decide) (Nat.le_of_ble_eq_true rfl)))))); (all_goals (try omega)); (all_goals (try exact xnn (by omega))); (all_goals (try exact Nat.le_of_ble_eq_true rfl)); (all_goals (try ((conv => whnf); (first | (refine hW.2.1 _ _ ?_) | (change X _ _ _ _ _ _) | (change C _ _ _ _ _ _ _))))); (all_goals (try simp only [xup_at, xup_ne, xup_up, ne_eq, Nat.reduceEqDiff, not_false_eq_true, Int.toNat_natCast, x_lcmp] at *)); (all_goals (try omega)))
  all_goals exact hq
set_option maxRecDepth 100000 in
set_option maxHeartbeats 600000 in
theorem z_length {M : xM} {Q : Option xV → xM → Prop} {w : Int} (hz : zG M) (hw : xrg w) (h1 : w < 0 ∨ M 3 2 ≤ w → Q (some (xI (-2))) M) (h2 : 0 ≤ w → w < M 3 2 → M 15 w.toNat = -1 → Q (some (xI (-1))) M) (h3 : 0 ≤ w → w < M 3 2 → M 15 w.toNat ≠ -1 → Q (some (xI (M 16 w.toNat))) M) : xm 3 m_M_length [xR (some 64), xI w] M Q := by
  have zw := z_isWord' hz.1 hw
  by_cases r : 0 ≤ w ∧ w < M 3 2
  · obtain ⟨n, rfl⟩ := Int.eq_ofNat_of_zero_le r.1
    have cl : ∀ Q' : Option xV → xM → Prop, (M 15 n = -1 → Q' (some (xI (-1))) M) ∧ (M 15 n ≠ -1 → Q' (some (xI (M 16 n))) M) → xm 1 m_M_lengthOf [xR (some 64), xI (n : Int)] M Q' := fun Q' h => z_lengthOf hz ⟨r.2, h⟩
    clear hz
    (refine xm_of (own := "DrumTongueModel") rfl (by decide +kernel) tk_M [some (xR (some 64)), some (xI (n : Int))] (Nat.le_of_ble_eq_true rfl) rfl ?_; intro D nx X C P hW)
    refine xg hW k_M_length [] 40 ?_
    ((repeat' (first | (with_reducible refine And.intro ?_ ?_) | (intro h0; exact absurd h0 (by decide)) | (intro h0; exact absurd rfl h0) | (intro h0; exfalso; clear hW; omega) | (intro _) | ((conv => whnf); (first | (with_reducible refine And.intro ?_ ?_) | (intro h0; exact absurd h0 (by decide)) | (intro h0; exact absurd rfl h0) | (intro h0; exfalso; clear hW; omega) | (intro _) | (refine hW.1 _ _ _ _ _ _ (zw _ ?_) (by first | decide | omega) (by decide) (Nat.le_of_ble_eq_true rfl)) | (refine hW.1 _ _ _ _ _ _ (cl _ ?_) (by first | decide | omega) (by decide) (Nat.le_of_ble_eq_true rfl)))))); (all_goals (try omega)); (all_goals (try exact xnn (by omega))); (all_goals (try exact Nat.le_of_ble_eq_true rfl)); (all_goals (try ((conv => whnf); (first | (refine hW.2.1 _ _ ?_) | (change X _ _ _ _ _ _) | (change C _ _ _ _ _ _ _))))); (all_goals (try simp only [xup_at, xup_ne, xup_up, ne_eq, Nat.reduceEqDiff, not_false_eq_true, Int.toNat_natCast, x_lcmp] at *)); (all_goals (try omega)))
    all_goals first | exact h2 r.1 r.2 (by assumption) | exact h3 r.1 r.2 (by assumption) | omega
  · clear hz
    (refine xm_of (own := "DrumTongueModel") rfl (by decide +kernel) tk_M [some (xR (some 64)), some (xI w)] (Nat.le_of_ble_eq_true rfl) rfl ?_; intro D nx X C P hW)
    refine xg hW k_M_length [] 40 ?_
    ((repeat' (first | (with_reducible refine And.intro ?_ ?_) | (intro h0; exact absurd h0 (by decide)) | (intro h0; exact absurd rfl h0) | (intro h0; exfalso; clear hW; omega) | (intro _) | ((conv => whnf); (first | (with_reducible refine And.intro ?_ ?_) | (intro h0; exact absurd h0 (by decide)) | (intro h0; exact absurd rfl h0) | (intro h0; exfalso; clear hW; omega) | (intro _) | (refine hW.1 _ _ _ _ _ _ (zw _ ?_) (by first | decide | omega) (by decide) (Nat.le_of_ble_eq_true rfl)))))); (all_goals (try omega)); (all_goals (try exact xnn (by omega))); (all_goals (try exact Nat.le_of_ble_eq_true rfl)); (all_goals (try ((conv => whnf); (first | (refine hW.2.1 _ _ ?_) | (change X _ _ _ _ _ _) | (change C _ _ _ _ _ _ _))))); (all_goals (try simp only [xup_at, xup_ne, xup_up, ne_eq, Nat.reduceEqDiff, not_false_eq_true, Int.toNat_natCast, x_lcmp] at *)); (all_goals (try omega)))
    all_goals exact h1 (by omega)
set_option maxRecDepth 100000 in
set_option maxHeartbeats 600000 in
theorem z_beat {M : xM} {Q : Option xV → xM → Prop} {w i : Int} (hz : zG M) (hw : xrg w) (hi : xrg i) (h1 : w < 0 ∨ M 3 2 ≤ w → Q (some (xI (-2))) M) (h2 : 0 ≤ w → w < M 3 2 → M 15 w.toNat = -1 ∨ i < 0 ∨ M 16 w.toNat ≤ i → Q (some (xI (-1))) M) (h3 : 0 ≤ w → w < M 3 2 → M 15 w.toNat ≠ -1 → 0 ≤ i → i < M 16 w.toNat → Q (some (xI (btOf (M 16 w.toNat) (M 17 w.toNat) i.toNat))) M) : xm 3 m_M_beat [xR (some 64), xI w, xI i] M Q := by
  have zw := z_isWord' hz.1 hw
  have i1 := hi.1
  have i2 := hi.2
  have w10 := hz.1.1.2.1
  by_cases r : 0 ≤ w ∧ w < M 3 2
  · obtain ⟨n, rfl⟩ := Int.eq_ofNat_of_zero_le r.1
    have r2 := r.2
    have ec := hz.2.2.1 n r2
    rw [Int.toNat_natCast] at h2 h3
    by_cases c : M 15 n = -1
    · have h5 := h2 r.1 r2 (Or.inl c)
      rw [c] at ec
      clear hz h1 h2 h3
      (refine xm_of (own := "DrumTongueModel") rfl (by decide +kernel) tk_M [some (xR (some 64)), some (xI (n : Int)), some (xI i)] (Nat.le_of_ble_eq_true rfl) rfl ?_; intro D nx X C P hW)
      refine xg hW k_M_beat [] 40 ?_
      ((repeat' (first | (with_reducible refine And.intro ?_ ?_) | (intro h0; exact absurd h0 (by decide)) | (intro h0; exact absurd rfl h0) | (intro h0; exfalso; clear hW; omega) | (intro _) | ((conv => whnf); (first | (with_reducible refine And.intro ?_ ?_) | (intro h0; exact absurd h0 (by decide)) | (intro h0; exact absurd rfl h0) | (intro h0; exfalso; clear hW; omega) | (intro _) | (refine hW.1 _ _ _ _ _ _ (zw _ ?_) (by first | decide | omega) (by decide) (Nat.le_of_ble_eq_true rfl)))))); (all_goals (try omega)); (all_goals (try exact xnn (by omega))); (all_goals (try exact Nat.le_of_ble_eq_true rfl)); (all_goals (try ((conv => whnf); (first | (refine hW.2.1 _ _ ?_) | (change X _ _ _ _ _ _) | (change C _ _ _ _ _ _ _))))); (all_goals (try simp only [xup_at, xup_ne, xup_up, ne_eq, Nat.reduceEqDiff, not_false_eq_true, Int.toNat_natCast, x_lcmp] at *)); (all_goals (try omega)))
      all_goals exact h5
    · obtain ⟨t, x, ht, t31, e15, e74, e16, e17, hzo, -, -, -, -, -, -, -, b1, b2, b3, b4⟩ := ch_at hz r2 c
      have cl : ∀ Q' : Option xV → xM → Prop, Q' (some (xI (M 16 n))) M → xm 1 m_M_lengthOf [xR (some 64), xI (n : Int)] M Q' := fun Q' h => z_lengthOfY hz ⟨⟨r2, c⟩, h⟩
      rcases Int.lt_or_le i 0 with q | q
      · have h5 := h2 r.1 r2 (Or.inr (Or.inl q))
        clear hz h1 h2 h3 hzo
        (refine xm_of (own := "DrumTongueModel") rfl (by decide +kernel) tk_M [some (xR (some 64)), some (xI (n : Int)), some (xI i)] (Nat.le_of_ble_eq_true rfl) rfl ?_; intro D nx X C P hW)
        refine xg hW k_M_beat [] 40 ?_
        ((repeat' (first | (with_reducible refine And.intro ?_ ?_) | (intro h0; exact absurd h0 (by decide)) | (intro h0; exact absurd rfl h0) | (intro h0; exfalso; clear hW; omega) | (intro _) | ((conv => whnf); (first | (with_reducible refine And.intro ?_ ?_) | (intro h0; exact absurd h0 (by decide)) | (intro h0; exact absurd rfl h0) | (intro h0; exfalso; clear hW; omega) | (intro _) | (refine hW.1 _ _ _ _ _ _ (zw _ ?_) (by first | decide | omega) (by decide) (Nat.le_of_ble_eq_true rfl)) | (refine hW.1 _ _ _ _ _ _ (cl _ ?_) (by first | decide | omega) (by decide) (Nat.le_of_ble_eq_true rfl)) | (refine hW.1 _ _ _ _ _ _ (z_in ?_) (by first | decide | omega) (by decide) (Nat.le_of_ble_eq_true rfl)))))); (all_goals (try omega)); (all_goals (try exact xnn (by omega))); (all_goals (try exact Nat.le_of_ble_eq_true rfl)); (all_goals (try ((conv => whnf); (first | (refine hW.2.1 _ _ ?_) | (change X _ _ _ _ _ _) | (change C _ _ _ _ _ _ _))))); (all_goals (try simp only [xup_at, xup_ne, xup_up, ne_eq, Nat.reduceEqDiff, not_false_eq_true, Int.toNat_natCast, x_lcmp] at *)); (all_goals (try omega)))
        all_goals exact h5
      · obtain ⟨k, rfl⟩ := Int.eq_ofNat_of_zero_le q
        have cb : ∀ Q' : Option xV → xM → Prop, (k : Int) < M 16 n ∧ Q' (some (xI (btOf (M 16 n) (M 17 n) k))) M → xm 2 m_M_beatOf [xR (some 64), xI (n : Int), xI (k : Int)] M Q' := fun Q' h => z_beatOf hz ⟨⟨r2, c, h.1⟩, h.2⟩
        clear hz hzo
        (refine xm_of (own := "DrumTongueModel") rfl (by decide +kernel) tk_M [some (xR (some 64)), some (xI (n : Int)), some (xI (k : Int))] (Nat.le_of_ble_eq_true rfl) rfl ?_; intro D nx X C P hW)
        refine xg hW k_M_beat [] 40 ?_
        ((repeat' (first | (with_reducible refine And.intro ?_ ?_) | (intro h0; exact absurd h0 (by decide)) | (intro h0; exact absurd rfl h0) | (intro h0; exfalso; clear hW; omega) | (intro _) | ((conv => whnf); (first | (with_reducible refine And.intro ?_ ?_) | (intro h0; exact absurd h0 (by decide)) | (intro h0; exact absurd rfl h0) | (intro h0; exfalso; clear hW; omega) | (intro _) | (refine hW.1 _ _ _ _ _ _ (zw _ ?_) (by first | decide | omega) (by decide) (Nat.le_of_ble_eq_true rfl)) | (refine hW.1 _ _ _ _ _ _ (cl _ ?_) (by first | decide | omega) (by decide) (Nat.le_of_ble_eq_true rfl)) | (refine hW.1 _ _ _ _ _ _ (z_in ?_) (by first | decide | omega) (by decide) (Nat.le_of_ble_eq_true rfl)) | (refine hW.1 _ _ _ _ _ _ (cb _ ?_) (by first | decide | omega) (by decide) (Nat.le_of_ble_eq_true rfl)))))); (all_goals (try omega)); (all_goals (try exact xnn (by omega))); (all_goals (try exact Nat.le_of_ble_eq_true rfl)); (all_goals (try ((conv => whnf); (first | (refine hW.2.1 _ _ ?_) | (change X _ _ _ _ _ _) | (change C _ _ _ _ _ _ _))))); (all_goals (try simp only [xup_at, xup_ne, xup_up, ne_eq, Nat.reduceEqDiff, not_false_eq_true, Int.toNat_natCast, x_lcmp] at *)); (all_goals (try omega)))
        all_goals first | exact h2 r.1 r2 (by omega) | exact h3 r.1 r2 c (by omega) (by omega) | omega
  · clear hz
    (refine xm_of (own := "DrumTongueModel") rfl (by decide +kernel) tk_M [some (xR (some 64)), some (xI w), some (xI i)] (Nat.le_of_ble_eq_true rfl) rfl ?_; intro D nx X C P hW)
    refine xg hW k_M_beat [] 40 ?_
    ((repeat' (first | (with_reducible refine And.intro ?_ ?_) | (intro h0; exact absurd h0 (by decide)) | (intro h0; exact absurd rfl h0) | (intro h0; exfalso; clear hW; omega) | (intro _) | ((conv => whnf); (first | (with_reducible refine And.intro ?_ ?_) | (intro h0; exact absurd h0 (by decide)) | (intro h0; exact absurd rfl h0) | (intro h0; exfalso; clear hW; omega) | (intro _) | (refine hW.1 _ _ _ _ _ _ (zw _ ?_) (by first | decide | omega) (by decide) (Nat.le_of_ble_eq_true rfl)))))); (all_goals (try omega)); (all_goals (try exact xnn (by omega))); (all_goals (try exact Nat.le_of_ble_eq_true rfl)); (all_goals (try ((conv => whnf); (first | (refine hW.2.1 _ _ ?_) | (change X _ _ _ _ _ _) | (change C _ _ _ _ _ _ _))))); (all_goals (try simp only [xup_at, xup_ne, xup_up, ne_eq, Nat.reduceEqDiff, not_false_eq_true, Int.toNat_natCast, x_lcmp] at *)); (all_goals (try omega)))
    all_goals exact h1 (by omega)
