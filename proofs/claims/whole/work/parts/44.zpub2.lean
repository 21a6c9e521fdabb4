/-! the reference: endingAt, far; what is heard -/
set_option maxRecDepth 100000 in
set_option maxHeartbeats 600000 in
theorem z_endingAt {M : xM} {Q : Option xV → xM → Prop} {w i : Int} (hz : zG M) (hw : xrg w) (hi : xrg i) (h1 : w < 0 ∨ M 3 2 ≤ w → Q (some (xI (-2))) M) (h2 : 0 ≤ w → w < M 3 2 → M 15 w.toNat = -1 ∨ i ≠ 0 ∧ i ≠ 1 → Q (some (xI (-1))) M) (h3 : 0 ≤ w → w < M 3 2 → M 15 w.toNat ≠ -1 → i = 0 → Q (some (xI (M 13 (M 15 w.toNat).toNat))) M) (h4 : 0 ≤ w → w < M 3 2 → M 15 w.toNat ≠ -1 → i = 1 → Q (some (xI (M 14 (M 15 w.toNat).toNat))) M) : xm 3 m_M_endingAt [xR (some 64), xI w, xI i] M Q := by
  have zw := z_isWord' hz.1 hw
  have i1 := hi.1
  have i2 := hi.2
  have w10 := hz.1.1.2.1
  by_cases r : 0 ≤ w ∧ w < M 3 2
  · obtain ⟨n, rfl⟩ := Int.eq_ofNat_of_zero_le r.1
    have r2 := r.2
    have ec := hz.2.2.1 n r2
    rw [Int.toNat_natCast] at h2 h3 h4
    by_cases c : M 15 n = -1
    · have h5 := h2 r.1 r2 (Or.inl c)
      rw [c] at ec
      clear hz h1 h2 h3 h4
      (refine xm_of (own := "DrumTongueModel") rfl (by decide +kernel) tk_M [some (xR (some 64)), some (xI (n : Int)), some (xI i), none] (Nat.le_of_ble_eq_true rfl) rfl ?_; intro D nx X C P hW)
      refine xg hW k_M_endingAt [] 40 ?_
      ((repeat' (first | (with_reducible refine And.intro ?_ ?_) | (intro h0; exact absurd h0 (by decide)) | (intro h0; exact absurd rfl h0) | (intro h0; exfalso; clear hW; omega) | (intro _) | ((conv => whnf); (first | (with_reducible refine And.intro ?_ ?_) | (intro h0; exact absurd h0 (by decide)) | (intro h0; exact absurd rfl h0) | (intro h0; exfalso; clear hW; omega) | (intro _) | (refine hW.1 _ _ _ _ _ _ (zw _ ?_) (by first | decide | omega) (by decide) (Nat.le_of_ble_eq_true rfl)))))); (all_goals (try omega)); (all_goals (try exact xnn (by omega))); (all_goals (try exact Nat.le_of_ble_eq_true rfl)); (all_goals (try ((conv => whnf); (first | (refine hW.2.1 _ _ ?_) | (change X _ _ _ _ _ _) | (change C _ _ _ _ _ _ _))))); (all_goals (try simp only [xup_at, xup_ne, xup_up, ne_eq, Nat.reduceEqDiff, not_false_eq_true, Int.toNat_natCast, x_lcmp] at *)); (all_goals (try omega)))
      all_goals exact h5
    · obtain ⟨t, x, ht, t31, e15, e74, -, -, -, -, e71, e72, e73, s1, s2, hx, -⟩ := ch_at hz r2 c
      have f2 : ¬ (i = 0 ∨ i = 1) → Q (some (xI (-1))) M := fun q => h2 r.1 r2 (Or.inr ⟨fun z => q (Or.inl z), fun z => q (Or.inr z)⟩)
      have f3 := h3 r.1 r2 c
      have f4 := h4 r.1 r2 c
      rw [e15, Int.toNat_natCast, s1] at f3
      rw [e15, Int.toNat_natCast, s2] at f4
      rw [show 31 * n + t = (31 * (n : Int) + M 74 n).toNat by omega] at e71 e72 e73
      clear hz h1 h2 h3 h4
      rcases hx with rfl | ⟨a, rfl, ha⟩ | ⟨a, b, rfl, ha, hb⟩
      · simp only [fsT] at f3
        simp only [snT] at f4
        simp only at e71 e72 e73
        (refine xm_of (own := "DrumTongueModel") rfl (by decide +kernel) tk_M [some (xR (some 64)), some (xI (n : Int)), some (xI i), none] (Nat.le_of_ble_eq_true rfl) rfl ?_; intro D nx X C P hW)
        refine xg hW k_M_endingAt [] 40 ?_
        ((repeat' (first | (with_reducible refine And.intro ?_ ?_) | (intro h0; exact absurd h0 (by decide)) | (intro h0; exact absurd rfl h0) | (intro h0; exfalso; clear hW; omega) | (intro _) | ((conv => whnf); (first | (with_reducible refine And.intro ?_ ?_) | (intro h0; exact absurd h0 (by decide)) | (intro h0; exact absurd rfl h0) | (intro h0; exfalso; clear hW; omega) | (intro _) | (refine hW.1 _ _ _ _ _ _ (zw _ ?_) (by first | decide | omega) (by decide) (Nat.le_of_ble_eq_true rfl)) | (refine hW.1 _ _ _ _ _ _ (z_in ?_) (by first | decide | omega) (by decide) (Nat.le_of_ble_eq_true rfl)))))); (all_goals (try omega)); (all_goals (try exact xnn (by omega))); (all_goals (try exact Nat.le_of_ble_eq_true rfl)); (all_goals (try ((conv => whnf); (first | (refine hW.2.1 _ _ ?_) | (change X _ _ _ _ _ _) | (change C _ _ _ _ _ _ _))))); (all_goals (try simp only [xup_at, xup_ne, xup_up, ne_eq, Nat.reduceEqDiff, not_false_eq_true, Int.toNat_natCast, x_lcmp] at *)); (all_goals (try omega)))
        by_cases q0 : i = 0
        · exact f3 q0
        · by_cases q1 : i = 1
          · exact f4 q1
          · exact f2 (by omega)
      · simp only [fsT] at f3
        simp only [snT] at f4
        simp only at e71 e72 e73
        rw [← e72] at f3
        (refine xm_of (own := "DrumTongueModel") rfl (by decide +kernel) tk_M [some (xR (some 64)), some (xI (n : Int)), some (xI i), none] (Nat.le_of_ble_eq_true rfl) rfl ?_; intro D nx X C P hW)
        refine xg hW k_M_endingAt [] 40 ?_
        ((repeat' (first | (with_reducible refine And.intro ?_ ?_) | (intro h0; exact absurd h0 (by decide)) | (intro h0; exact absurd rfl h0) | (intro h0; exfalso; clear hW; omega) | (intro _) | ((conv => whnf); (first | (with_reducible refine And.intro ?_ ?_) | (intro h0; exact absurd h0 (by decide)) | (intro h0; exact absurd rfl h0) | (intro h0; exfalso; clear hW; omega) | (intro _) | (refine hW.1 _ _ _ _ _ _ (zw _ ?_) (by first | decide | omega) (by decide) (Nat.le_of_ble_eq_true rfl)) | (refine hW.1 _ _ _ _ _ _ (z_in ?_) (by first | decide | omega) (by decide) (Nat.le_of_ble_eq_true rfl)))))); (all_goals (try omega)); (all_goals (try exact xnn (by omega))); (all_goals (try exact Nat.le_of_ble_eq_true rfl)); (all_goals (try ((conv => whnf); (first | (refine hW.2.1 _ _ ?_) | (change X _ _ _ _ _ _) | (change C _ _ _ _ _ _ _))))); (all_goals (try simp only [xup_at, xup_ne, xup_up, ne_eq, Nat.reduceEqDiff, not_false_eq_true, Int.toNat_natCast, x_lcmp] at *)); (all_goals (try omega)))
        · exact f3 (by omega)
        · by_cases q1 : i = 1
          · exact f4 q1
          · exact f2 (by omega)
      · simp only [fsT] at f3
        simp only [snT] at f4
        simp only at e71 e72 e73
        rw [← e72] at f3
        rw [← e73] at f4
        (refine xm_of (own := "DrumTongueModel") rfl (by decide +kernel) tk_M [some (xR (some 64)), some (xI (n : Int)), some (xI i), none] (Nat.le_of_ble_eq_true rfl) rfl ?_; intro D nx X C P hW)
        refine xg hW k_M_endingAt [] 40 ?_
        ((repeat' (first | (with_reducible refine And.intro ?_ ?_) | (intro h0; exact absurd h0 (by decide)) | (intro h0; exact absurd rfl h0) | (intro h0; exfalso; clear hW; omega) | (intro _) | ((conv => whnf); (first | (with_reducible refine And.intro ?_ ?_) | (intro h0; exact absurd h0 (by decide)) | (intro h0; exact absurd rfl h0) | (intro h0; exfalso; clear hW; omega) | (intro _) | (refine hW.1 _ _ _ _ _ _ (zw _ ?_) (by first | decide | omega) (by decide) (Nat.le_of_ble_eq_true rfl)) | (refine hW.1 _ _ _ _ _ _ (z_in ?_) (by first | decide | omega) (by decide) (Nat.le_of_ble_eq_true rfl)))))); (all_goals (try omega)); (all_goals (try exact xnn (by omega))); (all_goals (try exact Nat.le_of_ble_eq_true rfl)); (all_goals (try ((conv => whnf); (first | (refine hW.2.1 _ _ ?_) | (change X _ _ _ _ _ _) | (change C _ _ _ _ _ _ _))))); (all_goals (try simp only [xup_at, xup_ne, xup_up, ne_eq, Nat.reduceEqDiff, not_false_eq_true, Int.toNat_natCast, x_lcmp] at *)); (all_goals (try omega)))
        all_goals first | exact f3 (by omega) | exact f4 (by omega) | exact f2 (by omega) | trace_state
  · clear hz
    (refine xm_of (own := "DrumTongueModel") rfl (by decide +kernel) tk_M [some (xR (some 64)), some (xI w), some (xI i), none] (Nat.le_of_ble_eq_true rfl) rfl ?_; intro D nx X C P hW)
    refine xg hW k_M_endingAt [] 40 ?_
    ((repeat' (first | (with_reducible refine And.intro ?_ ?_) | (intro h0; exact absurd h0 (by decide)) | (intro h0; exact absurd rfl h0) | (intro h0; exfalso; clear hW; omega) | (intro _) | ((conv => whnf); (first | (with_reducible refine And.intro ?_ ?_) | (intro h0; exact absurd h0 (by decide)) | (intro h0; exact absurd rfl h0) | (intro h0; exfalso; clear hW; omega) | (intro _) | (refine hW.1 _ _ _ _ _ _ (zw _ ?_) (by first | decide | omega) (by decide) (Nat.le_of_ble_eq_true rfl)))))); (all_goals (try omega)); (all_goals (try exact xnn (by omega))); (all_goals (try exact Nat.le_of_ble_eq_true rfl)); (all_goals (try ((conv => whnf); (first | (refine hW.2.1 _ _ ?_) | (change X _ _ _ _ _ _) | (change C _ _ _ _ _ _ _))))); (all_goals (try simp only [xup_at, xup_ne, xup_up, ne_eq, Nat.reduceEqDiff, not_false_eq_true, Int.toNat_natCast, x_lcmp] at *)); (all_goals (try omega)))
    all_goals exact h1 (by omega)
set_option maxRecDepth 100000 in
set_option maxHeartbeats 600000 in
theorem z_far {M : xM} {Q : Option xV → xM → Prop} {a b : Int} (hz : zG M) (ha : xrg a) (hb : xrg b) (h1 : a < 0 ∨ M 3 2 ≤ a ∨ b < 0 ∨ M 3 2 ≤ b ∨ a = b → Q (some (xI (-2))) M) (h2 : 0 ≤ a → a < M 3 2 → 0 ≤ b → b < M 3 2 → a ≠ b → M 15 a.toNat = -1 ∨ M 15 b.toNat = -1 → Q (some (xI (-3))) M) (h3 : 0 ≤ a → a < M 3 2 → 0 ≤ b → b < M 3 2 → a ≠ b → M 15 a.toNat ≠ -1 → M 15 b.toNat ≠ -1 → Q (some (xI (farS (M 16 a.toNat) (M 17 a.toNat) (M 16 b.toNat) (M 17 b.toNat)))) M) : xm 3 m_M_far [xR (some 64), xI a, xI b] M Q := by
  have za := z_isWord' hz.1 ha
  have zb := z_isWord' hz.1 hb
  have a1 := ha.1
  have a2 := ha.2
  have b1 := hb.1
  have b2 := hb.2
  have w10 := hz.1.1.2.1
  by_cases r : 0 ≤ a ∧ a < M 3 2 ∧ 0 ≤ b ∧ b < M 3 2
  · obtain ⟨r1, r2, r3, r4⟩ := r
    obtain ⟨n, rfl⟩ := Int.eq_ofNat_of_zero_le r1
    obtain ⟨m, rfl⟩ := Int.eq_ofNat_of_zero_le r3
    have ea := hz.2.2.1 n r2
    have eb := hz.2.2.1 m r4
    have hp := hz.ph
    have pa := hp n (by omega)
    have pb := hp m (by omega)
    obtain ⟨pa1, pa2, -⟩ := pa
    obtain ⟨pb1, pb2, -⟩ := pb
    rw [Int.toNat_natCast, Int.toNat_natCast] at h2 h3
    have cf : ∀ Q' : Option xV → xM → Prop, (M 15 n ≠ -1 ∧ M 15 m ≠ -1) ∧ Q' (some (xI (farS (M 16 n) (M 17 n) (M 16 m) (M 17 m)))) M → xm 2 m_M_apart [xR (some 64), xI (n : Int), xI (M 74 n), xI (m : Int), xI (M 74 m)] M Q' := fun Q' h => by
      obtain ⟨t, x, ht, t31, e15, e74, e16, e17, hzo, -⟩ := ch_at hz r2 h.1.1
      obtain ⟨t', x', ht', t31', e15', e74', e16', e17', -, -⟩ := ch_at hz r4 h.1.2
      rw [e74, e74']
      exact z_apart hzo ⟨⟨r2, ht, r4, ht'⟩, by rw [← e16, ← e17, ← e16', ← e17']; exact h.2⟩
    clear hz hp
    (refine xm_of (own := "DrumTongueModel") rfl (by decide +kernel) tk_M [some (xR (some 64)), some (xI (n : Int)), some (xI (m : Int))] (Nat.le_of_ble_eq_true rfl) rfl ?_; intro D nx X C P hW)
    refine xg hW k_M_far [] 40 ?_
    ((repeat' (first | (with_reducible refine And.intro ?_ ?_) | (intro h0; exact absurd h0 (by decide)) | (intro h0; exact absurd rfl h0) | (intro h0; exfalso; clear hW; omega) | (intro _) | ((conv => whnf); (first | (with_reducible refine And.intro ?_ ?_) | (intro h0; exact absurd h0 (by decide)) | (intro h0; exact absurd rfl h0) | (intro h0; exfalso; clear hW; omega) | (intro _) | (refine hW.1 _ _ _ _ _ _ (za _ ?_) (by first | decide | omega) (by decide) (Nat.le_of_ble_eq_true rfl)) | (refine hW.1 _ _ _ _ _ _ (zb _ ?_) (by first | decide | omega) (by decide) (Nat.le_of_ble_eq_true rfl)) | (refine hW.1 _ _ _ _ _ _ (cf _ ?_) (by first | decide | omega) (by decide) (Nat.le_of_ble_eq_true rfl)))))); (all_goals (try omega)); (all_goals (try exact xnn (by omega))); (all_goals (try exact Nat.le_of_ble_eq_true rfl)); (all_goals (try ((conv => whnf); (first | (refine hW.2.1 _ _ ?_) | (change X _ _ _ _ _ _) | (change C _ _ _ _ _ _ _))))); (all_goals (try simp only [xup_at, xup_ne, xup_up, ne_eq, Nat.reduceEqDiff, not_false_eq_true, Int.toNat_natCast, x_lcmp] at *)); (all_goals (try omega)))
    all_goals first | exact h1 (by omega) | exact h2 r1 r2 r3 r4 (by omega) (by omega) | exact h3 r1 r2 r3 r4 (by omega) (by omega) (by omega) | trace_state
  · clear hz
    (refine xm_of (own := "DrumTongueModel") rfl (by decide +kernel) tk_M [some (xR (some 64)), some (xI a), some (xI b)] (Nat.le_of_ble_eq_true rfl) rfl ?_; intro D nx X C P hW)
    refine xg hW k_M_far [] 40 ?_
    ((repeat' (first | (with_reducible refine And.intro ?_ ?_) | (intro h0; exact absurd h0 (by decide)) | (intro h0; exact absurd rfl h0) | (intro h0; exfalso; clear hW; omega) | (intro _) | ((conv => whnf); (first | (with_reducible refine And.intro ?_ ?_) | (intro h0; exact absurd h0 (by decide)) | (intro h0; exact absurd rfl h0) | (intro h0; exfalso; clear hW; omega) | (intro _) | (refine hW.1 _ _ _ _ _ _ (za _ ?_) (by first | decide | omega) (by decide) (Nat.le_of_ble_eq_true rfl)) | (refine hW.1 _ _ _ _ _ _ (zb _ ?_) (by first | decide | omega) (by decide) (Nat.le_of_ble_eq_true rfl)))))); (all_goals (try omega)); (all_goals (try exact xnn (by omega))); (all_goals (try exact Nat.le_of_ble_eq_true rfl)); (all_goals (try ((conv => whnf); (first | (refine hW.2.1 _ _ ?_) | (change X _ _ _ _ _ _) | (change C _ _ _ _ _ _ _))))); (all_goals (try simp only [xup_at, xup_ne, xup_up, ne_eq, Nat.reduceEqDiff, not_false_eq_true, Int.toNat_natCast, x_lcmp] at *)); (all_goals (try omega)))
    all_goals exact h1 (by omega)
def zHear (M : xM) (v : Int) : xM := xup (xup M 75 (xup (M 75) (M 64 13).toNat v)) 64 (xup (M 64) 13 (M 64 13 + 1))
set_option maxRecDepth 100000 in
set_option maxHeartbeats 600000 in
theorem z_hear {M : xM} {Q : Option xV → xM → Prop} {v : Int} (hn : 0 ≤ M 64 13 ∧ M 64 13 ≤ 60) (hv : xrg v) (h1 : v < -1 ∨ 1 < v → Q (some (xI (-2))) M) (h2 : -1 ≤ v → v ≤ 1 → 60 ≤ M 64 13 → Q (some (xI (-4))) M) (h3 : -1 ≤ v → v ≤ 1 → M 64 13 < 60 → Q (some (xI (M 64 13 + 1))) (zHear M v)) : xm 2 m_M_hear [xR (some 64), xI v] M Q := by
  have hv1 := hv.1
  have hv2 := hv.2
  unfold zHear at h3
  (refine xm_of (own := "DrumTongueModel") rfl (by decide +kernel) tk_M [some (xR (some 64)), some (xI v)] (Nat.le_of_ble_eq_true rfl) rfl ?_; intro D nx X C P hW)
  refine xg hW k_M_hear [] 40 ?_
  ((repeat' (first | (with_reducible refine And.intro ?_ ?_) | (intro h0; exact absurd h0 (by decide)) | (intro h0; exact absurd rfl h0) | (intro h0; exfalso; clear hW; omega) | (intro _) | ((conv => whnf); (first | (with_reducible refine And.intro ?_ ?_) | (intro h0; exact absurd h0 (by decide)) | (intro h0; exact absurd rfl h0) | (intro h0; exfalso; clear hW; omega) | (intro _) | (refine hW.1 _ _ _ _ _ _ (z_in ?_) (by first | decide | omega) (by decide) (Nat.le_of_ble_eq_true rfl)))))); (all_goals (try omega)); (all_goals (try exact xnn (by omega))); (all_goals (try exact Nat.le_of_ble_eq_true rfl)); (all_goals (try ((conv => whnf); (first | (refine hW.2.1 _ _ ?_) | (change X _ _ _ _ _ _) | (change C _ _ _ _ _ _ _))))); (all_goals (try simp only [xup_at, xup_ne, xup_up, ne_eq, Nat.reduceEqDiff, not_false_eq_true, Int.toNat_natCast, x_lcmp] at *)); (all_goals (try omega)))
  all_goals first | exact h1 (by omega) | exact h2 (by omega) (by omega) (by omega) | exact h3 (by omega) (by omega) (by omega) | trace_state
set_option maxRecDepth 100000 in
set_option maxHeartbeats 600000 in
theorem z_hush {M : xM} {Q : Option xV → xM → Prop} (h : Q (some (xI (M 64 13))) (xup M 64 (xup (M 64) 13 0))) : xm 1 m_M_hush [xR (some 64)] M Q := by
  (refine xm_of (own := "DrumTongueModel") rfl (by decide +kernel) tk_M [some (xR (some 64)), none] (Nat.le_of_ble_eq_true rfl) rfl ?_; intro D nx X C P hW)
  refine xg hW k_M_hush [] 40 ?_
  ((repeat' (first | (with_reducible refine And.intro ?_ ?_) | (intro h0; exact absurd h0 (by decide)) | (intro h0; exact absurd rfl h0) | (intro h0; exfalso; clear hW; omega) | (intro _) | ((conv => whnf); (first | (with_reducible refine And.intro ?_ ?_) | (intro h0; exact absurd h0 (by decide)) | (intro h0; exact absurd rfl h0) | (intro h0; exfalso; clear hW; omega) | (intro _))))); (all_goals (try omega)); (all_goals (try exact xnn (by omega))); (all_goals (try exact Nat.le_of_ble_eq_true rfl)); (all_goals (try ((conv => whnf); (first | (refine hW.2.1 _ _ ?_) | (change X _ _ _ _ _ _) | (change C _ _ _ _ _ _ _))))); (all_goals (try simp only [xup_at, xup_ne, xup_up, ne_eq, Nat.reduceEqDiff, not_false_eq_true, Int.toNat_natCast, x_lcmp] at *)); (all_goals (try omega)))
  all_goals exact h
/-- k beats come to the heard -/
def zBts (M : xM) (β : Nat → Int) (k : Nat) : xM := xup M 75 (fun j => if (M 64 13).toNat ≤ j ∧ j < (M 64 13).toNat + k then β (j - (M 64 13).toNat) else M 75 j)
set_option maxRecDepth 100000 in
set_option maxHeartbeats 600000 in
theorem z_drum {M : xM} {Q : Option xV → xM → Prop} {w : Int} (hz : zG M) (hn : 0 ≤ M 64 13 ∧ M 64 13 ≤ 60) (hw : xrg w) (h1 : w < 0 ∨ M 3 2 ≤ w → Q (some (xI (-2))) M) (h2 : 0 ≤ w → w < M 3 2 → M 15 w.toNat = -1 → Q (some (xI (-3))) M) (h3 : 0 ≤ w → w < M 3 2 → M 15 w.toNat ≠ -1 → 60 < M 64 13 + M 16 w.toNat → Q (some (xI (-4))) M) (h4 : 0 ≤ w → w < M 3 2 → M 15 w.toNat ≠ -1 → M 64 13 + M 16 w.toNat ≤ 60 → Q (some (xI (M 64 13 + M 16 w.toNat))) (xup (zBts M (btOf (M 16 w.toNat) (M 17 w.toNat)) (M 16 w.toNat).toNat) 64 (xup (M 64) 13 (M 64 13 + M 16 w.toNat)))) : xm 3 m_M_drum [xR (some 64), xI w] M Q := by
  have zw := z_isWord' hz.1 hw
  have w10 := hz.1.1.2.1
  by_cases r : 0 ≤ w ∧ w < M 3 2
  · obtain ⟨n, rfl⟩ := Int.eq_ofNat_of_zero_le r.1
    have r2 := r.2
    have ec := hz.2.2.1 n r2
    rw [Int.toNat_natCast] at h2 h3 h4
    by_cases c : M 15 n = -1
    · have h5 := h2 r.1 r2 c
      rw [c] at ec
      clear hz h1 h2 h3 h4
      (refine xm_of (own := "DrumTongueModel") rfl (by decide +kernel) tk_M [some (xR (some 64)), some (xI (n : Int)), none, none] (Nat.le_of_ble_eq_true rfl) rfl ?_; intro D nx X C P hW)
      refine xg hW k_M_drum [46] 40 ?_
      ((repeat' (first | (with_reducible refine And.intro ?_ ?_) | (intro h0; exact absurd h0 (by decide)) | (intro h0; exact absurd rfl h0) | (intro h0; exfalso; clear hW; omega) | (intro _) | ((conv => whnf); (first | (with_reducible refine And.intro ?_ ?_) | (intro h0; exact absurd h0 (by decide)) | (intro h0; exact absurd rfl h0) | (intro h0; exfalso; clear hW; omega) | (intro _) | (refine hW.1 _ _ _ _ _ _ (zw _ ?_) (by first | decide | omega) (by decide) (Nat.le_of_ble_eq_true rfl)))))); (all_goals (try omega)); (all_goals (try exact xnn (by omega))); (all_goals (try exact Nat.le_of_ble_eq_true rfl)); (all_goals (try ((conv => whnf); (first | (refine hW.2.1 _ _ ?_) | (change X _ _ _ _ _ _) | (change C _ _ _ _ _ _ _))))); (all_goals (try simp only [xup_at, xup_ne, xup_up, ne_eq, Nat.reduceEqDiff, not_false_eq_true, Int.toNat_natCast, x_lcmp] at *)); (all_goals (try omega)))
      all_goals exact h5
    · obtain ⟨t, x, ht, t31, e15, e74, -, -, -, -, -, -, -, -, -, -, b1, b2, b3, b4⟩ := ch_at hz r2 c
      have f3 := h3 r.1 r2 c
      have f4 := h4 r.1 r2 c
      have cl : ∀ Q' : Option xV → xM → Prop, Q' (some (xI (M 16 n))) M → xm 1 m_M_lengthOf [xR (some 64), xI (n : Int)] M Q' := fun Q' h => z_lengthOfY hz ⟨⟨r2, c⟩, h⟩
      rcases Int.lt_or_le 60 (M 64 13 + M 16 n) with q | q
      · have h5 := f3 q
        clear hz h1 h2 h3 h4 f3 f4
        (refine xm_of (own := "DrumTongueModel") rfl (by decide +kernel) tk_M [some (xR (some 64)), some (xI (n : Int)), none, none] (Nat.le_of_ble_eq_true rfl) rfl ?_; intro D nx X C P hW)
        refine xg hW k_M_drum [46] 40 ?_
        ((repeat' (first | (with_reducible refine And.intro ?_ ?_) | (intro h0; exact absurd h0 (by decide)) | (intro h0; exact absurd rfl h0) | (intro h0; exfalso; clear hW; omega) | (intro _) | ((conv => whnf); (first | (with_reducible refine And.intro ?_ ?_) | (intro h0; exact absurd h0 (by decide)) | (intro h0; exact absurd rfl h0) | (intro h0; exfalso; clear hW; omega) | (intro _) | (refine hW.1 _ _ _ _ _ _ (zw _ ?_) (by first | decide | omega) (by decide) (Nat.le_of_ble_eq_true rfl)) | (refine hW.1 _ _ _ _ _ _ (cl _ ?_) (by first | decide | omega) (by decide) (Nat.le_of_ble_eq_true rfl)))))); (all_goals (try omega)); (all_goals (try exact xnn (by omega))); (all_goals (try exact Nat.le_of_ble_eq_true rfl)); (all_goals (try ((conv => whnf); (first | (refine hW.2.1 _ _ ?_) | (change X _ _ _ _ _ _) | (change C _ _ _ _ _ _ _))))); (all_goals (try simp only [xup_at, xup_ne, xup_up, ne_eq, Nat.reduceEqDiff, not_false_eq_true, Int.toNat_natCast, x_lcmp] at *)); (all_goals (try omega)))
        all_goals exact h5
      · replace f4 := f4 q
        obtain ⟨s, es⟩ := Int.eq_ofNat_of_zero_le (show 0 ≤ M 16 n by omega)
        obtain ⟨u, eu⟩ := Int.eq_ofNat_of_zero_le hn.1
        generalize hβ : btOf (M 16 n) (M 17 n) = β at *
        have cb : ∀ (k : Nat), k < s → ∀ Q' : Option xV → xM → Prop, Q' (some (xI (β k))) (zBts M β k) → xm 2 m_M_beatOf [xR (some 64), xI (n : Int), xI (k : Int)] (zBts M β k) Q' := fun k hk Q' h => by
          have fr : ∀ a, a ≠ 75 → zBts M β k a = M a := fun a ha => by unfold zBts; rw [xup_ne ha]
          have hz' : zG (zBts M β k) := zG_fr (fun a ha => fr a (by omega)) (by rw [fr 64 (by decide)]) (by rw [fr 64 (by decide)]) (by rw [fr 64 (by decide)]) hz
          refine z_beatOf hz' ⟨⟨by rw [fr 3 (by decide)]; exact r2, by rw [fr 15 (by decide)]; exact c, by rw [fr 16 (by decide)]; omega⟩, ?_⟩
          rw [fr 16 (by decide), fr 17 (by decide), hβ]
          exact h
        have ez : zBts M β 0 = M := by
          unfold zBts
          have : (fun j => if (M 64 13).toNat ≤ j ∧ j < (M 64 13).toNat + 0 then β (j - (M 64 13).toNat) else M 75 j) = M 75 := by
            funext j
            rw [if_neg (by omega)]
          rw [this, xup_id]
        have ex : ∀ k, xup (zBts M β k) 75 (xup (zBts M β k 75) (u + k) (β k)) = zBts M β (k + 1) := by
          intro k
          unfold zBts
          rw [xup_up, xup_at]
          congr 1
          funext j
          rw [show (M 64 13).toNat = u by omega]
          by_cases q : j = u + k
          · rw [q, xup_at, if_pos (by omega), show u + k - u = k by omega]
          · rw [xup_ne q]
            by_cases q2 : u ≤ j ∧ j < u + k
            · rw [if_pos q2, if_pos (by omega)]
            · rw [if_neg q2, if_neg (by omega)]
        have e64 : ∀ k, zBts M β k 64 = M 64 := fun k => by unfold zBts; rw [xup_ne (by decide)]
        have e6413 : ∀ k, zBts M β k 64 13 = (u : Int) := fun k => by rw [e64]; exact eu
        clear hz h1 h2 h3 h4 f3
        (refine xm_of (own := "DrumTongueModel") rfl (by decide +kernel) tk_M [some (xR (some 64)), some (xI (n : Int)), none, none] (Nat.le_of_ble_eq_true rfl) rfl ?_; intro D nx X C P hW)
        have loop : ∀ (m k : Nat), k + m = s → X 46 [some (xR (some 64)), some (xI (n : Int)), some (xI (M 16 n)), some (xI (k : Int))] [] (zBts M β k, D, nx) 0 0 := by
          intro m
          induction m with
          | zero =>
            intro k hk
            obtain rfl : k = s := by omega
            have g := e6413 k
            refine xg hW k_M_drum [46] 40 ?_
            ((repeat' (first | (with_reducible refine And.intro ?_ ?_) | (intro h0; exact absurd h0 (by decide)) | (intro h0; exact absurd rfl h0) | (intro h0; exfalso; clear hW; omega) | (intro _) | ((conv => whnf); (first | (with_reducible refine And.intro ?_ ?_) | (intro h0; exact absurd h0 (by decide)) | (intro h0; exact absurd rfl h0) | (intro h0; exfalso; clear hW; omega) | (intro _))))); (all_goals (try omega)); (all_goals (try exact xnn (by omega))); (all_goals (try exact Nat.le_of_ble_eq_true rfl)); (all_goals (try ((conv => whnf); (first | (refine hW.2.1 _ _ ?_) | (change X _ _ _ _ _ _) | (change C _ _ _ _ _ _ _))))); (all_goals (try simp only [xup_at, xup_ne, xup_up, ne_eq, Nat.reduceEqDiff, not_false_eq_true, Int.toNat_natCast, x_lcmp] at *)); (all_goals (try omega)))
            rw [e64]
            rw [es, Int.toNat_natCast] at f4
            rw [es]
            exact f4
          | succ m ih =>
            intro k hk
            have g := e6413 k
            have h5 := ih (k + 1) (by omega)
            rw [← ex k] at h5
            refine xg hW k_M_drum [46] 40 ?_
            ((repeat' (first | (with_reducible refine And.intro ?_ ?_) | (intro h0; exact absurd h0 (by decide)) | (intro h0; exact absurd rfl h0) | (intro h0; exfalso; clear hW; omega) | (intro _) | ((conv => whnf); (first | (with_reducible refine And.intro ?_ ?_) | (intro h0; exact absurd h0 (by decide)) | (intro h0; exact absurd rfl h0) | (intro h0; exfalso; clear hW; omega) | (intro _) | (refine hW.1 _ _ _ _ _ _ (cb k (by omega) _ ?_) (by first | decide | omega) (by decide) (Nat.le_of_ble_eq_true rfl)))))); (all_goals (try omega)); (all_goals (try exact xnn (by omega))); (all_goals (try exact Nat.le_of_ble_eq_true rfl)); (all_goals (try ((conv => whnf); (first | (refine hW.2.1 _ _ ?_) | (change X _ _ _ _ _ _) | (change C _ _ _ _ _ _ _))))); (all_goals (try simp only [xup_at, xup_ne, xup_up, ne_eq, Nat.reduceEqDiff, not_false_eq_true, Int.toNat_natCast, x_lcmp] at *)); (all_goals (try omega)))
            rw [g, show ((u : Int) + (k : Int)).toNat = u + k by omega]
            exact h5
        have h5 := loop s 0 (by omega)
        rw [ez] at h5
        clear loop
        refine xg hW k_M_drum [46] 40 ?_
        ((repeat' (first | (with_reducible refine And.intro ?_ ?_) | (intro h0; exact absurd h0 (by decide)) | (intro h0; exact absurd rfl h0) | (intro h0; exfalso; clear hW; omega) | (intro _) | ((conv => whnf); (first | (with_reducible refine And.intro ?_ ?_) | (intro h0; exact absurd h0 (by decide)) | (intro h0; exact absurd rfl h0) | (intro h0; exfalso; clear hW; omega) | (intro _) | (refine hW.1 _ _ _ _ _ _ (zw _ ?_) (by first | decide | omega) (by decide) (Nat.le_of_ble_eq_true rfl)) | (refine hW.1 _ _ _ _ _ _ (cl _ ?_) (by first | decide | omega) (by decide) (Nat.le_of_ble_eq_true rfl)))))); (all_goals (try omega)); (all_goals (try exact xnn (by omega))); (all_goals (try exact Nat.le_of_ble_eq_true rfl)); (all_goals (try ((conv => whnf); (first | (refine hW.2.1 _ _ ?_) | (change X _ _ _ _ _ _) | (change C _ _ _ _ _ _ _))))); (all_goals (try simp only [xup_at, xup_ne, xup_up, ne_eq, Nat.reduceEqDiff, not_false_eq_true, Int.toNat_natCast, x_lcmp] at *)); (all_goals (try omega)))
        all_goals exact h5
  · clear hz
    (refine xm_of (own := "DrumTongueModel") rfl (by decide +kernel) tk_M [some (xR (some 64)), some (xI w), none, none] (Nat.le_of_ble_eq_true rfl) rfl ?_; intro D nx X C P hW)
    refine xg hW k_M_drum [46] 40 ?_
    ((repeat' (first | (with_reducible refine And.intro ?_ ?_) | (intro h0; exact absurd h0 (by decide)) | (intro h0; exact absurd rfl h0) | (intro h0; exfalso; clear hW; omega) | (intro _) | ((conv => whnf); (first | (with_reducible refine And.intro ?_ ?_) | (intro h0; exact absurd h0 (by decide)) | (intro h0; exact absurd rfl h0) | (intro h0; exfalso; clear hW; omega) | (intro _) | (refine hW.1 _ _ _ _ _ _ (zw _ ?_) (by first | decide | omega) (by decide) (Nat.le_of_ble_eq_true rfl)))))); (all_goals (try omega)); (all_goals (try exact xnn (by omega))); (all_goals (try exact Nat.le_of_ble_eq_true rfl)); (all_goals (try ((conv => whnf); (first | (refine hW.2.1 _ _ ?_) | (change X _ _ _ _ _ _) | (change C _ _ _ _ _ _ _))))); (all_goals (try simp only [xup_at, xup_ne, xup_up, ne_eq, Nat.reduceEqDiff, not_false_eq_true, Int.toNat_natCast, x_lcmp] at *)); (all_goals (try omega)))
    all_goals exact h1 (by omega)
set_option maxRecDepth 100000 in
set_option maxHeartbeats 600000 in
theorem z_slip {M : xM} {Q : Option xV → xM → Prop} {i v : Int} (hn : 0 ≤ M 64 13 ∧ M 64 13 ≤ 60) (hi : xrg i) (hv : xrg v) (h1 : ¬(-1 ≤ v ∧ v ≤ 2 ∧ 0 ≤ i ∧ i < M 64 13) → Q (some (xI (-100))) M) (h2 : 0 ≤ i → i < M 64 13 → v = 2 → Q (some (xI (M 75 i.toNat))) (xup (xup M 64 (xup (M 64) 13 (M 64 13 - 1))) 75 (shf (M 75) i.toNat (M 64 13 - 1).toNat))) (h3 : 0 ≤ i → i < M 64 13 → -1 ≤ v → v ≤ 1 → Q (some (xI (M 75 i.toNat))) (xup M 75 (xup (M 75) i.toNat v))) : xm 2 m_M_slip [xR (some 64), xI i, xI v] M Q := by
  have hi1 := hi.1
  have hi2 := hi.2
  have hv1 := hv.1
  have hv2 := hv.2
  by_cases r : -1 ≤ v ∧ v ≤ 2 ∧ 0 ≤ i ∧ i < M 64 13
  · obtain ⟨r1, r2, r3, r4⟩ := r
    obtain ⟨n, rfl⟩ := Int.eq_ofNat_of_zero_le r3
    rw [Int.toNat_natCast] at h2 h3
    by_cases c : v = 2
    · have h5 := h2 r3 r4 c
      obtain ⟨u, eu⟩ : ∃ u : Nat, M 64 13 = (u : Int) + 1 := ⟨(M 64 13).toNat - 1, by omega⟩
      rw [show (M 64 13 - 1).toNat = u by omega, show M 64 13 - 1 = (u : Int) by omega] at h5
      clear h1 h2 h3
      generalize hv0 : M 75 n = was at *
      (refine xm_of (own := "DrumTongueModel") rfl (by decide +kernel) tk_M [some (xR (some 64)), some (xI (n : Int)), some (xI v), none, none] (Nat.le_of_ble_eq_true rfl) rfl ?_; intro D nx X C P hW)
      have loop : ∀ (m k : Nat), k + m = u → n ≤ k → X 58 [some (xR (some 64)), some (xI (n : Int)), some (xI v), some (xI was), some (xI (k : Int))] [] (xup (xup M 64 (xup (M 64) 13 (u : Int))) 75 (shf (M 75) n k), D, nx) 0 0 := by
        intro m
        induction m with
        | zero =>
          intro k hk hnk
          obtain rfl : k = u := by omega
          refine xg hW k_M_slip [58] 40 ?_
          ((repeat' (first | (with_reducible refine And.intro ?_ ?_) | (intro h0; exact absurd h0 (by decide)) | (intro h0; exact absurd rfl h0) | (intro h0; exfalso; clear hW; omega) | (intro _) | ((conv => whnf); (first | (with_reducible refine And.intro ?_ ?_) | (intro h0; exact absurd h0 (by decide)) | (intro h0; exact absurd rfl h0) | (intro h0; exfalso; clear hW; omega) | (intro _))))); (all_goals (try omega)); (all_goals (try exact xnn (by omega))); (all_goals (try exact Nat.le_of_ble_eq_true rfl)); (all_goals (try ((conv => whnf); (first | (refine hW.2.1 _ _ ?_) | (change X _ _ _ _ _ _) | (change C _ _ _ _ _ _ _))))); (all_goals (try simp only [xup_at, xup_ne, xup_up, ne_eq, Nat.reduceEqDiff, not_false_eq_true, Int.toNat_natCast, x_lcmp] at *)); (all_goals (try omega)))
          all_goals exact h5
        | succ m ih =>
          intro k hk hnk
          have h6 := ih (k + 1) (by omega) (by omega)
          have e : xup (shf (M 75) n k) k (shf (M 75) n k (k + 1)) = shf (M 75) n (k + 1) := by
            funext j
            simp only [xup, shf]
            by_cases q : j = k
            · subst q
              rw [if_pos rfl, if_neg (by omega), if_pos (by omega)]
            · rw [if_neg q]
              by_cases q2 : n ≤ j ∧ j < k
              · rw [if_pos q2, if_pos (by omega)]
              · rw [if_neg q2, if_neg (by omega)]
          clear ih h5
          refine xg hW k_M_slip [58] 40 ?_
          ((repeat' (first | (with_reducible refine And.intro ?_ ?_) | (intro h0; exact absurd h0 (by decide)) | (intro h0; exact absurd rfl h0) | (intro h0; exfalso; clear hW; omega) | (intro _) | ((conv => whnf); (first | (with_reducible refine And.intro ?_ ?_) | (intro h0; exact absurd h0 (by decide)) | (intro h0; exact absurd rfl h0) | (intro h0; exfalso; clear hW; omega) | (intro _))))); (all_goals (try omega)); (all_goals (try exact xnn (by omega))); (all_goals (try exact Nat.le_of_ble_eq_true rfl)); (all_goals (try ((conv => whnf); (first | (refine hW.2.1 _ _ ?_) | (change X _ _ _ _ _ _) | (change C _ _ _ _ _ _ _))))); (all_goals (try simp only [xup_at, xup_ne, xup_up, ne_eq, Nat.reduceEqDiff, not_false_eq_true, Int.toNat_natCast, x_lcmp] at *)); (all_goals (try omega)))
          rw [show ((k : Int) + 1).toNat = k + 1 by omega, e]
          exact h6
      have h6 := loop (u - n) n (by omega) (Nat.le_refl _)
      have e0 : shf (M 75) n n = M 75 := by
        funext j
        simp only [shf]
        rw [if_neg (by omega)]
      have e1 : xup (xup M 64 (xup (M 64) 13 (u : Int))) 75 (M 75) = xup M 64 (xup (M 64) 13 (u : Int)) := by
        funext a
        by_cases q : a = 75
        · rw [q, xup_at, xup_ne (by decide)]
        · rw [xup_ne q]
      rw [e0, e1, show (u : Int) = M 64 13 - 1 by omega, ← hv0] at h6
      clear loop h5
      refine xg hW k_M_slip [58] 40 ?_
      ((repeat' (first | (with_reducible refine And.intro ?_ ?_) | (intro h0; exact absurd h0 (by decide)) | (intro h0; exact absurd rfl h0) | (intro h0; exfalso; clear hW; omega) | (intro _) | ((conv => whnf); (first | (with_reducible refine And.intro ?_ ?_) | (intro h0; exact absurd h0 (by decide)) | (intro h0; exact absurd rfl h0) | (intro h0; exfalso; clear hW; omega) | (intro _) | (refine hW.1 _ _ _ _ _ _ (z_in ?_) (by first | decide | omega) (by decide) (Nat.le_of_ble_eq_true rfl)))))); (all_goals (try omega)); (all_goals (try exact xnn (by omega))); (all_goals (try exact Nat.le_of_ble_eq_true rfl)); (all_goals (try ((conv => whnf); (first | (refine hW.2.1 _ _ ?_) | (change X _ _ _ _ _ _) | (change C _ _ _ _ _ _ _))))); (all_goals (try simp only [xup_at, xup_ne, xup_up, ne_eq, Nat.reduceEqDiff, not_false_eq_true, Int.toNat_natCast, x_lcmp] at *)); (all_goals (try omega)))
      all_goals exact h6
    · have h5 := h3 r3 r4 r1 (by omega)
      clear h1 h2 h3
      (refine xm_of (own := "DrumTongueModel") rfl (by decide +kernel) tk_M [some (xR (some 64)), some (xI (n : Int)), some (xI v), none, none] (Nat.le_of_ble_eq_true rfl) rfl ?_; intro D nx X C P hW)
      refine xg hW k_M_slip [58] 40 ?_
      ((repeat' (first | (with_reducible refine And.intro ?_ ?_) | (intro h0; exact absurd h0 (by decide)) | (intro h0; exact absurd rfl h0) | (intro h0; exfalso; clear hW; omega) | (intro _) | ((conv => whnf); (first | (with_reducible refine And.intro ?_ ?_) | (intro h0; exact absurd h0 (by decide)) | (intro h0; exact absurd rfl h0) | (intro h0; exfalso; clear hW; omega) | (intro _) | (refine hW.1 _ _ _ _ _ _ (z_in ?_) (by first | decide | omega) (by decide) (Nat.le_of_ble_eq_true rfl)))))); (all_goals (try omega)); (all_goals (try exact xnn (by omega))); (all_goals (try exact Nat.le_of_ble_eq_true rfl)); (all_goals (try ((conv => whnf); (first | (refine hW.2.1 _ _ ?_) | (change X _ _ _ _ _ _) | (change C _ _ _ _ _ _ _))))); (all_goals (try simp only [xup_at, xup_ne, xup_up, ne_eq, Nat.reduceEqDiff, not_false_eq_true, Int.toNat_natCast, x_lcmp] at *)); (all_goals (try omega)))
      all_goals exact h5
  · have h5 := h1 r
    clear h1 h2 h3
    (refine xm_of (own := "DrumTongueModel") rfl (by decide +kernel) tk_M [some (xR (some 64)), some (xI i), some (xI v), none, none] (Nat.le_of_ble_eq_true rfl) rfl ?_; intro D nx X C P hW)
    refine xg hW k_M_slip [58] 40 ?_
    ((repeat' (first | (with_reducible refine And.intro ?_ ?_) | (intro h0; exact absurd h0 (by decide)) | (intro h0; exact absurd rfl h0) | (intro h0; exfalso; clear hW; omega) | (intro _) | ((conv => whnf); (first | (with_reducible refine And.intro ?_ ?_) | (intro h0; exact absurd h0 (by decide)) | (intro h0; exact absurd rfl h0) | (intro h0; exfalso; clear hW; omega) | (intro _) | (refine hW.1 _ _ _ _ _ _ (z_in ?_) (by first | decide | omega) (by decide) (Nat.le_of_ble_eq_true rfl)))))); (all_goals (try omega)); (all_goals (try exact xnn (by omega))); (all_goals (try exact Nat.le_of_ble_eq_true rfl)); (all_goals (try ((conv => whnf); (first | (refine hW.2.1 _ _ ?_) | (change X _ _ _ _ _ _) | (change C _ _ _ _ _ _ _))))); (all_goals (try simp only [xup_at, xup_ne, xup_up, ne_eq, Nat.reduceEqDiff, not_false_eq_true, Int.toNat_natCast, x_lcmp] at *)); (all_goals (try omega)))
    all_goals exact h5
