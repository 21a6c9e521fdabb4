/-! the reference: isFree, phrased, choose -/
set_option maxRecDepth 100000 in
set_option maxHeartbeats 1000000 in
theorem z_isFree {M : xM} {Q : Option xV → xM → Prop} {r w p : Nat} (hT : xT0 r = some (.inr (0, 10, none))) (hz : zOk M) (hw : (w : Int) < M 3 2) (hp : (p : Int) < M 10 2) (hr : ∀ v, v < w → M r v = -1 ∨ ∃ q : Nat, (q : Int) < M 10 2 ∧ M r v = q) (h : (okP (pS M) (pN M) (M 2 6) (M r) w p → Q (some (xI 1)) M) ∧ (¬ okP (pS M) (pN M) (M 2 6) (M r) w p → Q (some (xI 0)) M)) : xm 4 m_M_isFree [xR (some 64), xI (w : Int), xI (p : Int), xR (some r)] M Q := by
  obtain ⟨hy, hno⟩ := h
  have w10 := hz.1.2.1
  have t31 := hz.2.2.1.2.1
  (refine xm_of (own := "DrumTongueModel") rfl (by decide +kernel) tk_M [some (xR (some 64)), some (xI (w : Int)), some (xI (p : Int)), some (xR (some r)), none] (Nat.le_of_ble_eq_true rfl) rfl ?_; intro D nx X C P hW)
  have loop : ∀ (m v : Nat), v + m = w → (∀ u, u < v → M r u ≠ -1 → apart (pS M u (M r u).toNat) (pN M u (M r u).toNat) (pS M w p) (pN M w p) (M 2 6)) → X 3 [some (xR (some 64)), some (xI (w : Int)), some (xI (p : Int)), some (xR (some r)), some (xI (v : Int))] [] (M, D, nx) 0 0 := by
    intro m
    induction m with
    | zero =>
      intro v hv hall
      obtain rfl : v = w := by omega
      refine xg hW k_M_isFree [3] 40 ?_
      ((repeat' (first | (with_reducible refine And.intro ?_ ?_) | (intro h0; exact absurd h0 (by decide)) | (intro _) | ((conv => whnf); (first | (with_reducible refine And.intro ?_ ?_) | (intro h0; exact absurd h0 (by decide)) | (intro _))))); (all_goals (try omega)); (all_goals (try exact xnn (by omega))); (all_goals (try exact Nat.le_of_ble_eq_true rfl)); (all_goals (try ((conv => whnf); (first | (refine hW.2.1 _ _ ?_) | (change X _ _ _ _ _ _) | (change C _ _ _ _ _ _ _))))); (all_goals (try simp only [xup_at, xup_ne, xup_up, ne_eq, Nat.reduceEqDiff, not_false_eq_true, Int.toNat_natCast, x_lcmp] at *)); (all_goals (try omega)))
      all_goals exact hy hall
    | succ m ih =>
      intro v hv hall
      rcases hr v (by omega) with c | ⟨q, hq, c⟩
      · have h5 := ih (v + 1) (by omega) (fun u hu hne => by
          by_cases cu : u = v
          · rw [cu] at hne; exact absurd c hne
          · exact hall u (by omega) hne)
        clear ih
        refine xg hW k_M_isFree [3] 40 ?_
        ((repeat' (first | (with_reducible refine And.intro ?_ ?_) | (intro h0; exact absurd h0 (by decide)) | (intro _) | ((conv => whnf); (first | (with_reducible refine And.intro ?_ ?_) | (intro h0; exact absurd h0 (by decide)) | (intro _) | (rw [hT]))))); (all_goals (try omega)); (all_goals (try exact xnn (by omega))); (all_goals (try exact Nat.le_of_ble_eq_true rfl)); (all_goals (try ((conv => whnf); (first | (refine hW.2.1 _ _ ?_) | (change X _ _ _ _ _ _) | (change C _ _ _ _ _ _ _))))); (all_goals (try simp only [xup_at, xup_ne, xup_up, ne_eq, Nat.reduceEqDiff, not_false_eq_true, Int.toNat_natCast, x_lcmp] at *)); (all_goals (try omega)))
        all_goals exact h5
      · have ca : ∀ Q' : Option xV → xM → Prop, (apart (pS M v q) (pN M v q) (pS M w p) (pN M w p) (M 2 6) → Q' (some (xI 1)) M) ∧ (¬ apart (pS M v q) (pN M v q) (pS M w p) (pN M w p) (M 2 6) → Q' (some (xI 0)) M) → xm 3 m_M_isApart [xR (some 64), xI (w : Int), xI (p : Int), xI (v : Int), xI (M r v)] M Q' := fun Q' h => by
          rw [c]
          exact z_isApart hz ⟨⟨hw, hp, by omega, hq⟩, h⟩
        have h5 : apart (pS M v q) (pN M v q) (pS M w p) (pN M w p) (M 2 6) → X 3 [some (xR (some 64)), some (xI (w : Int)), some (xI (p : Int)), some (xR (some r)), some (xI ((v + 1 : Nat) : Int))] [] (M, D, nx) 0 0 := fun ap => ih (v + 1) (by omega) (fun u hu hne => by
          by_cases cu : u = v
          · rw [cu, c, Int.toNat_natCast]; exact ap
          · exact hall u (by omega) hne)
        have h6 : ¬ apart (pS M v q) (pN M v q) (pS M w p) (pN M w p) (M 2 6) → Q (some (xI 0)) M := fun na => hno (fun ok => na (by
          have := ok v (by omega) (by rw [c]; omega)
          rw [c, Int.toNat_natCast] at this
          exact this))
        clear ih hy hno hall
        generalize apart (pS M v q) (pN M v q) (pS M w p) (pN M w p) (M 2 6) = A at *
        refine xg hW k_M_isFree [3] 40 ?_
        ((repeat' (first | (with_reducible refine And.intro ?_ ?_) | (intro h0; exact absurd h0 (by decide)) | (intro _) | ((conv => whnf); (first | (with_reducible refine And.intro ?_ ?_) | (intro h0; exact absurd h0 (by decide)) | (intro _) | (rw [hT]) | (refine hW.1 _ _ _ _ _ _ (ca _ ?_) (by first | decide | omega) (by decide) (Nat.le_of_ble_eq_true rfl)))))); (all_goals (try omega)); (all_goals (try exact xnn (by omega))); (all_goals (try exact Nat.le_of_ble_eq_true rfl)); (all_goals (try ((conv => whnf); (first | (refine hW.2.1 _ _ ?_) | (change X _ _ _ _ _ _) | (change C _ _ _ _ _ _ _))))); (all_goals (try simp only [xup_at, xup_ne, xup_up, ne_eq, Nat.reduceEqDiff, not_false_eq_true, Int.toNat_natCast, x_lcmp] at *)); (all_goals (try omega)))
        all_goals first | exact h5 (by assumption) | exact h6 (by assumption) | trace_state
  refine xg hW k_M_isFree [3] 40 ?_
  ((repeat' (first | (with_reducible refine And.intro ?_ ?_) | (intro h0; exact absurd h0 (by decide)) | (intro _) | ((conv => whnf); (first | (with_reducible refine And.intro ?_ ?_) | (intro h0; exact absurd h0 (by decide)) | (intro _))))); (all_goals (try omega)); (all_goals (try exact xnn (by omega))); (all_goals (try exact Nat.le_of_ble_eq_true rfl)); (all_goals (try ((conv => whnf); (first | (refine hW.2.1 _ _ ?_) | (change X _ _ _ _ _ _) | (change C _ _ _ _ _ _ _))))); (all_goals (try simp only [xup_at, xup_ne, xup_up, ne_eq, Nat.reduceEqDiff, not_false_eq_true, Int.toNat_natCast, x_lcmp] at *)); (all_goals (try omega)))
  exact loop w 0 (by omega) (fun u hu => absurd hu (by omega))
set_option maxRecDepth 100000 in
set_option maxHeartbeats 600000 in
theorem z_phrased {M : xM} {Q : Option xV → xM → Prop} (hw : 0 ≤ M 64 0 ∧ M 64 0 ≤ 10) (hc : ∀ w : Nat, (w : Int) < M 64 0 → xrg (M 74 w)) (h : Q (some (xI (cntP (M 74) (M 64 0).toNat))) M) : xm 1 m_M_phrased [xR (some 64)] M Q := by
  obtain ⟨n, hn⟩ := Int.eq_ofNat_of_zero_le hw.1
  rw [hn, Int.toNat_natCast] at h
  (refine xm_of (own := "DrumTongueModel") rfl (by decide +kernel) tk_M [some (xR (some 64)), none, none] (Nat.le_of_ble_eq_true rfl) rfl ?_; intro D nx X C P hW)
  have loop : ∀ (m k : Nat), k + m = n → X 4 [some (xR (some 64)), some (xI (cntP (M 74) k)), some (xI (k : Int))] [] (M, D, nx) 0 0 := by
    intro m
    induction m with
    | zero =>
      intro k hk
      obtain rfl : k = n := by omega
      refine xg hW k_M_phrased [4] 40 ?_
      ((repeat' (first | (with_reducible refine And.intro ?_ ?_) | (intro h0; exact absurd h0 (by decide)) | (intro _) | ((conv => whnf); (first | (with_reducible refine And.intro ?_ ?_) | (intro h0; exact absurd h0 (by decide)) | (intro _))))); (all_goals (try omega)); (all_goals (try exact xnn (by omega))); (all_goals (try exact Nat.le_of_ble_eq_true rfl)); (all_goals (try ((conv => whnf); (first | (refine hW.2.1 _ _ ?_) | (change X _ _ _ _ _ _) | (change C _ _ _ _ _ _ _))))); (all_goals (try simp only [xup_at, xup_ne, xup_up, ne_eq, Nat.reduceEqDiff, not_false_eq_true, Int.toNat_natCast, x_lcmp] at *)); (all_goals (try omega)))
      all_goals exact h
    | succ m ih =>
      intro k hk
      have h5 := ih (k + 1) (by omega)
      obtain ⟨c1, c2⟩ := hc k (by omega)
      rw [cntP] at h5
      refine xg hW k_M_phrased [4] 40 ?_
      ((repeat' (first | (with_reducible refine And.intro ?_ ?_) | (intro h0; exact absurd h0 (by decide)) | (intro _) | ((conv => whnf); (first | (with_reducible refine And.intro ?_ ?_) | (intro h0; exact absurd h0 (by decide)) | (intro _))))); (all_goals (try omega)); (all_goals (try exact xnn (by omega))); (all_goals (try exact Nat.le_of_ble_eq_true rfl)); (all_goals (try ((conv => whnf); (first | (refine hW.2.1 _ _ ?_) | (change X _ _ _ _ _ _) | (change C _ _ _ _ _ _ _))))); (all_goals (try simp only [xup_at, xup_ne, xup_up, ne_eq, Nat.reduceEqDiff, not_false_eq_true, Int.toNat_natCast, x_lcmp] at *)); (all_goals (try omega)))
      · rw [if_neg (by omega)] at h5
        exact h5
      · rw [if_pos (by omega)] at h5
        exact h5
  refine xg hW k_M_phrased [4] 40 ?_
  ((repeat' (first | (with_reducible refine And.intro ?_ ?_) | (intro h0; exact absurd h0 (by decide)) | (intro _) | ((conv => whnf); (first | (with_reducible refine And.intro ?_ ?_) | (intro h0; exact absurd h0 (by decide)) | (intro _))))); (all_goals (try omega)); (all_goals (try exact xnn (by omega))); (all_goals (try exact Nat.le_of_ble_eq_true rfl)); (all_goals (try ((conv => whnf); (first | (refine hW.2.1 _ _ ?_) | (change X _ _ _ _ _ _) | (change C _ _ _ _ _ _ _))))); (all_goals (try simp only [xup_at, xup_ne, xup_up, ne_eq, Nat.reduceEqDiff, not_false_eq_true, Int.toNat_natCast, x_lcmp] at *)); (all_goals (try omega)))
  exact loop n 0 (by omega)
/-- all that order rests on -/
def zPre (M : xM) : Prop := wOk M ∧ eOk M ∧ tlOk M ∧ relW M ∧ 1 ≤ M 2 6 ∧ M 2 6 ≤ 9
theorem TLs_fr {M M' : xM} (h : ∀ a, a < 10 → M' a = M a) : TLs M' = TLs M := by
  unfold TLs
  rw [h 6 (by decide), h 7 (by decide)]
theorem tlOk_fr {M M' : xM} (h : ∀ a, a < 15 → M' a = M a) (hl : tlOk M) : tlOk M' := by
  unfold tlOk
  rw [TLs_fr (fun a ha => h a (by omega)), h 7 (by decide), h 8 (by decide), h 10 (by decide), h 11 (by decide), h 12 (by decide), h 13 (by decide), h 14 (by decide)]
  exact hl
theorem relW_fr {M M' : xM} (h : ∀ a, a < 10 ∨ (64 < a ∧ a < 69) → M' a = M a) (h0 : M' 64 0 = M 64 0) (h3 : M' 64 3 = M 64 3) (h6 : M' 64 6 = M 64 6) (hr : relW M) : relW M' := by
  unfold relW
  rw [h 2 (by omega), h 3 (by omega), h 4 (by omega), h 5 (by omega), h 6 (by omega), h 7 (by omega), h 8 (by omega), h 65 (by omega), h 66 (by omega), h 67 (by omega), h 68 (by omega), h0, h3, h6]
  exact hr
theorem zPre_fr {M M' : xM} (h : ∀ a, a < 15 ∨ (64 < a ∧ a < 69) → M' a = M a) (h0 : M' 64 0 = M 64 0) (h3 : M' 64 3 = M 64 3) (h6 : M' 64 6 = M 64 6) (hz : zPre M) : zPre M' := by
  obtain ⟨a1, a2, a3, a4, a5⟩ := hz
  refine ⟨wOk_of (fun a ha => h a (by omega)) a1, eOk_of (fun a _ ha => h a (by omega)) a2, tlOk_fr (fun a ha => h a (by omega)) a3, relW_fr (fun a ha => h a (by omega)) h0 h3 h6 a4, ?_⟩
  rw [h 2 (by omega)]
  exact a5
theorem tabZ_fr {M M' : xM} (h : ∀ a, a < 10 ∨ (68 < a ∧ a < 74) → M' a = M a) (ht : tabZ M) : tabZ M' := by
  intro w hw
  rw [h 3 (by omega)] at hw
  rw [TLs_fr (fun a ha => h a (by omega)), h 4 (by omega), h 7 (by omega), h 69 (by omega)]
  refine ⟨(ht w hw).1, fun t y hy q hq => ?_⟩
  rw [h 70 (by omega), h 71 (by omega), h 72 (by omega), h 73 (by omega)]
  exact (ht w hw).2 t y hy q hq
theorem zOk_pre {M : xM} (hz : zPre M) (ht : tabZ M) : zOk M := ⟨hz.1, hz.2.1, tbOk_tl hz.2.1 hz.2.2.1, hz.2.2.1, hz.2.2.2.1, ht, hz.2.2.2.2⟩
theorem zOk_fr {M M' : xM} (h : ∀ a, a < 15 ∨ (63 < a ∧ a < 74) → M' a = M a) (hz : zOk M) : zOk M' := by
  obtain ⟨a1, a2, a3, a4, a5, a6, a7⟩ := hz
  have hp := zPre_fr (M' := M') (fun a ha => h a (by omega)) (by rw [h 64 (by omega)]) (by rw [h 64 (by omega)]) (by rw [h 64 (by omega)]) ⟨a1, a2, a4, a5, a7⟩
  exact zOk_pre hp (tabZ_fr (fun a ha => h a (by omega)) a6)
theorem isCh_ent {nT : Nat} {S N : Nat → Nat → Int} {v : Int} {k : Nat} {c : Nat → Int} (h : isCh nT S N v k c) {w : Nat} (hw : w < k) : c w = -1 ∨ ∃ t : Nat, t < nT ∧ c w = t := by
  rcases h w hw with ⟨a, _⟩ | ⟨t, a, b, _⟩
  · exact Or.inl a
  · exact Or.inr ⟨t, a, b⟩
set_option maxRecDepth 100000 in
set_option maxHeartbeats 2000000 in
theorem z_choose {M : xM} {Q : Option xV → xM → Prop} (hz : zPre M) (hq : ∀ M', (∀ a, a < 69 ∨ 74 < a → M' a = M a) → tabZ M' → isCh (M 10 2).toNat (pS M) (pN M) (M 2 6) (M 3 2).toNat (M' 74) → (∀ w, (M 3 2).toNat ≤ w → M' 74 w = M 74 w) → Q (some (xI (cntP (M' 74) (M 3 2).toNat))) M') : xm 5 m_M_choose [xR (some 64)] M Q := by
  obtain ⟨nW, hWn⟩ := Int.eq_ofNat_of_zero_le hz.1.1
  have hW10 := hz.1.2.1
  have htb := tbOk_tl hz.2.1 hz.2.2.1
  obtain ⟨nT, hnT⟩ := Int.eq_ofNat_of_zero_le (show 0 ≤ M 10 2 by have := htb.1; omega)
  have t31 := htb.2.1
  have e640 : M 64 0 = (nW : Int) := by rw [hz.2.2.2.1.1]; exact hWn
  rw [hWn, hnT, Int.toNat_natCast, Int.toNat_natCast] at hq
  (refine xm_of (own := "DrumTongueModel") rfl (by decide +kernel) tk_M [some (xR (some 64)), none, none] (Nat.le_of_ble_eq_true rfl) rfl ?_; intro D nx X C P hW)
  have outer : ∀ (m w : Nat) (M' : xM), w + m = nW → (∀ a, a < 69 ∨ 74 < a → M' a = M a) → tabZ M' → isCh nT (pS M) (pN M) (M 2 6) w (M' 74) → (∀ u, nW ≤ u → M' 74 u = M 74 u) → ∀ x2, X 6 [some (xR (some 64)), some (xI (w : Int)), x2] [] (M', D, nx) 0 0 := by
    intro m
    induction m with
    | zero =>
      intro w M' hw hf ht hc hu x2
      obtain rfl : w = nW := by omega
      have e64 : M' 64 0 = (w : Int) := by rw [hf 64 (by omega)]; exact e640
      have h5 := hq M' hf ht hc hu
      have ent : ∀ u, u < w → xrg (M' 74 u) := fun u hu => by
        rcases isCh_ent hc hu with q | ⟨t, q1, q2⟩ <;> unfold xrg <;> omega
      have cp : ∀ Q' : Option xV → xM → Prop, Q' (some (xI (cntP (M' 74) w))) M' → xm 1 m_M_phrased [xR (some 64)] M' Q' := fun Q' h => z_phrased (by omega) (fun u hu => ent u (by omega)) (by rw [e64, Int.toNat_natCast]; exact h)
      clear hc hq
      generalize cntP (M' 74) w = z at *
      refine xg hW k_M_choose [6] 40 ?_
      ((repeat' (first | (with_reducible refine And.intro ?_ ?_) | (intro h0; exact absurd h0 (by decide)) | (intro _) | ((conv => whnf); (first | (with_reducible refine And.intro ?_ ?_) | (intro h0; exact absurd h0 (by decide)) | (intro _) | (refine hW.1 _ _ _ _ _ _ (cp _ ?_) (by first | decide | omega) (by decide) (Nat.le_of_ble_eq_true rfl)))))); (all_goals (try omega)); (all_goals (try exact xnn (by omega))); (all_goals (try exact Nat.le_of_ble_eq_true rfl)); (all_goals (try ((conv => whnf); (first | (refine hW.2.1 _ _ ?_) | (change X _ _ _ _ _ _) | (change C _ _ _ _ _ _ _))))); (all_goals (try simp only [xup_at, xup_ne, xup_up, ne_eq, Nat.reduceEqDiff, not_false_eq_true, Int.toNat_natCast, x_lcmp] at *)); (all_goals (try omega)))
      all_goals exact h5
    | succ m ih =>
      intro w M' hw hf ht hc hu x2
      have e64 : M' 64 0 = (nW : Int) := by rw [hf 64 (by omega)]; exact e640
      have ht69 : M' 69 w = (nT : Int) := by
        have := (ht w (by rw [hf 3 (by omega), hWn]; omega)).1
        rw [this, TLs_fr (M := M) (fun a ha => hf a (by omega)), ← hz.2.2.1.1, hnT]
      have hz' : zOk M' := zOk_pre (zPre_fr (fun a ha => hf a (by omega)) (by rw [hf 64 (by omega)]) (by rw [hf 64 (by omega)]) (by rw [hf 64 (by omega)]) hz) ht
      -- with c at w
      have put : ∀ (z : Int), (∀ a, a < 69 ∨ 74 < a → xup M' 74 (xup (M' 74) w z) a = M a) ∧ zOk (xup M' 74 (xup (M' 74) w z)) := fun z => ⟨fun a ha => by rw [xup_ne (by omega)]; exact hf a ha, zOk_fr (fun a ha => by rw [xup_ne (by omega)]) hz'⟩
      have done : ∀ (z : Int), ((z = -1 ∧ ∀ t, t < nT → ¬ okP (pS M) (pN M) (M 2 6) (M' 74) w t) ∨ ∃ t : Nat, t < nT ∧ z = t ∧ okP (pS M) (pN M) (M 2 6) (M' 74) w t ∧ ∀ j, j < t → ¬ okP (pS M) (pN M) (M 2 6) (M' 74) w j) → ∀ x2, X 69 [some (xR (some 64)), some (xI (w : Int)), x2] [] (xup M' 74 (xup (M' 74) w z), D, nx) 0 0 := by
        intro z hzz x2
        have h5 := ih (w + 1) (xup M' 74 (xup (M' 74) w z)) (by omega) (put z).1 (put z).2.2.2.2.2.2.1 (by
          rw [xup_at]
          exact isCh_push hc (fun u hu => (xup_ne (by omega)).symm) (by rw [xup_at]; exact hzz)) (fun u hu' => by rw [xup_at, xup_ne (by omega)]; exact hu u hu') x2
        clear ih hc hq hu
        refine xg hW k_M_choose [6] 40 ?_
        ((repeat' (first | (with_reducible refine And.intro ?_ ?_) | (intro h0; exact absurd h0 (by decide)) | (intro _) | ((conv => whnf); (first | (with_reducible refine And.intro ?_ ?_) | (intro h0; exact absurd h0 (by decide)) | (intro _))))); (all_goals (try omega)); (all_goals (try exact xnn (by omega))); (all_goals (try exact Nat.le_of_ble_eq_true rfl)); (all_goals (try ((conv => whnf); (first | (refine hW.2.1 _ _ ?_) | (change X _ _ _ _ _ _) | (change C _ _ _ _ _ _ _))))); (all_goals (try simp only [xup_at, xup_ne, xup_up, ne_eq, Nat.reduceEqDiff, not_false_eq_true, Int.toNat_natCast, x_lcmp] at *)); (all_goals (try omega)))
        all_goals exact h5
      have inner : ∀ (mp p : Nat), p + mp = nT → (∀ t, t < p → ¬ okP (pS M) (pN M) (M 2 6) (M' 74) w t) → X 23 [some (xR (some 64)), some (xI (w : Int)), some (xI (p : Int))] [] (xup M' 74 (xup (M' 74) w (-1)), D, nx) 0 0 := by
        intro mp
        induction mp with
        | zero =>
          intro p hp hall
          obtain rfl : p = nT := by omega
          have h5 := done (-1) (Or.inl ⟨rfl, hall⟩) (some (xI (p : Int)))
          clear ih hc hq hu done
          refine xg hW k_M_choose [69] 40 ?_
          ((repeat' (first | (with_reducible refine And.intro ?_ ?_) | (intro h0; exact absurd h0 (by decide)) | (intro _) | ((conv => whnf); (first | (with_reducible refine And.intro ?_ ?_) | (intro h0; exact absurd h0 (by decide)) | (intro _))))); (all_goals (try omega)); (all_goals (try exact xnn (by omega))); (all_goals (try exact Nat.le_of_ble_eq_true rfl)); (all_goals (try ((conv => whnf); (first | (refine hW.2.1 _ _ ?_) | (change X _ _ _ _ _ _) | (change C _ _ _ _ _ _ _))))); (all_goals (try simp only [xup_at, xup_ne, xup_up, ne_eq, Nat.reduceEqDiff, not_false_eq_true, Int.toNat_natCast, x_lcmp] at *)); (all_goals (try omega)))
          all_goals exact h5
        | succ mp ihp =>
          intro p hp hall
          have cf : ∀ Q' : Option xV → xM → Prop, (okP (pS M) (pN M) (M 2 6) (M' 74) w p → Q' (some (xI 1)) (xup M' 74 (xup (M' 74) w (-1)))) ∧ (¬ okP (pS M) (pN M) (M 2 6) (M' 74) w p → Q' (some (xI 0)) (xup M' 74 (xup (M' 74) w (-1)))) → xm 4 m_M_isFree [xR (some 64), xI (w : Int), xI (p : Int), xR (some 74)] (xup M' 74 (xup (M' 74) w (-1))) Q' := by
            intro Q' h
            have ps : pS (xup M' 74 (xup (M' 74) w (-1))) = pS M := by funext u t; exact pS_of (fun a ha => (put (-1)).1 a (by omega)) u t
            have pn : pN (xup M' 74 (xup (M' 74) w (-1))) = pN M := by funext u t; exact pN_of (fun a ha => (put (-1)).1 a (by omega)) u t
            have e10 : xup M' 74 (xup (M' 74) w (-1)) 10 = M 10 := (put (-1)).1 10 (by omega)
            have e3 : xup M' 74 (xup (M' 74) w (-1)) 3 = M 3 := (put (-1)).1 3 (by omega)
            have e2 : xup M' 74 (xup (M' 74) w (-1)) 2 = M 2 := (put (-1)).1 2 (by omega)
            have iff : okP (pS M) (pN M) (M 2 6) (M' 74) w p ↔ okP (pS M) (pN M) (M 2 6) (xup (M' 74) w (-1)) w p := okP_congr fun u hu => (xup_ne (by omega)).symm
            rw [iff] at h
            refine z_isFree (r := 74) rfl (put (-1)).2 (by rw [e3, hWn]; omega) (by rw [e10, hnT]; omega) (fun v hv => ?_) (by rw [ps, pn, e2, xup_at]; exact h)
            rw [xup_at, xup_ne (by omega), e10]
            rcases isCh_ent hc (show v < w by omega) with q | ⟨t, q1, q2⟩
            · exact Or.inl q
            · exact Or.inr ⟨t, by omega, q2⟩
          have h5 : ¬ okP (pS M) (pN M) (M 2 6) (M' 74) w p → X 23 [some (xR (some 64)), some (xI (w : Int)), some (xI ((p + 1 : Nat) : Int))] [] (xup M' 74 (xup (M' 74) w (-1)), D, nx) 0 0 := fun hn => ihp (p + 1) (by omega) (fun t ht' => by
            by_cases c : t = p
            · rw [c]; exact hn
            · exact hall t (by omega))
          have h6 : okP (pS M) (pN M) (M 2 6) (M' 74) w p → ∀ x2, X 69 [some (xR (some 64)), some (xI (w : Int)), x2] [] (xup M' 74 (xup (M' 74) w (p : Int)), D, nx) 0 0 := fun ho => done p (Or.inr ⟨p, by omega, rfl, ho, hall⟩)
          clear ih hc hq hu done ihp hall
          generalize okP (pS M) (pN M) (M 2 6) (M' 74) w p = A at *
          refine xg hW k_M_choose [23, 69] 40 ?_
          ((repeat' (first | (with_reducible refine And.intro ?_ ?_) | (intro h0; exact absurd h0 (by decide)) | (intro _) | ((conv => whnf); (first | (with_reducible refine And.intro ?_ ?_) | (intro h0; exact absurd h0 (by decide)) | (intro _) | (refine hW.1 _ _ _ _ _ _ (cf _ ?_) (by first | decide | omega) (by decide) (Nat.le_of_ble_eq_true rfl)))))); (all_goals (try omega)); (all_goals (try exact xnn (by omega))); (all_goals (try exact Nat.le_of_ble_eq_true rfl)); (all_goals (try ((conv => whnf); (first | (refine hW.2.1 _ _ ?_) | (change X _ _ _ _ _ _) | (change C _ _ _ _ _ _ _))))); (all_goals (try simp only [xup_at, xup_ne, xup_up, ne_eq, Nat.reduceEqDiff, not_false_eq_true, Int.toNat_natCast, x_lcmp] at *)); (all_goals (try omega)))
          · exact absurd trivial (by assumption)
          · have h7 := h6 (by assumption)
            refine xg hW k_M_choose [69] 40 ?_
            ((repeat' (first | (with_reducible refine And.intro ?_ ?_) | (intro h0; exact absurd h0 (by decide)) | (intro _) | ((conv => whnf); (first | (with_reducible refine And.intro ?_ ?_) | (intro h0; exact absurd h0 (by decide)) | (intro _))))); (all_goals (try omega)); (all_goals (try exact xnn (by omega))); (all_goals (try exact Nat.le_of_ble_eq_true rfl)); (all_goals (try ((conv => whnf); (first | (refine hW.2.1 _ _ ?_) | (change X _ _ _ _ _ _) | (change C _ _ _ _ _ _ _))))); (all_goals (try simp only [xup_at, xup_ne, xup_up, ne_eq, Nat.reduceEqDiff, not_false_eq_true, Int.toNat_natCast, x_lcmp] at *)); (all_goals (try omega)))
            all_goals exact h7 _
          · exact h5 (by assumption)
      have h5 := inner nT 0 (by omega) (fun t ht => absurd ht (by omega))
      clear ih hc hq hu done inner
      refine xg hW k_M_choose [23] 40 ?_
      ((repeat' (first | (with_reducible refine And.intro ?_ ?_) | (intro h0; exact absurd h0 (by decide)) | (intro _) | ((conv => whnf); (first | (with_reducible refine And.intro ?_ ?_) | (intro h0; exact absurd h0 (by decide)) | (intro _))))); (all_goals (try omega)); (all_goals (try exact xnn (by omega))); (all_goals (try exact Nat.le_of_ble_eq_true rfl)); (all_goals (try ((conv => whnf); (first | (refine hW.2.1 _ _ ?_) | (change X _ _ _ _ _ _) | (change C _ _ _ _ _ _ _))))); (all_goals (try simp only [xup_at, xup_ne, xup_up, ne_eq, Nat.reduceEqDiff, not_false_eq_true, Int.toNat_natCast, x_lcmp] at *)); (all_goals (try omega)))
      all_goals exact h5
  refine xg hW k_M_choose [6] 40 ?_
  ((repeat' (first | (with_reducible refine And.intro ?_ ?_) | (intro h0; exact absurd h0 (by decide)) | (intro _) | ((conv => whnf); (first | (with_reducible refine And.intro ?_ ?_) | (intro h0; exact absurd h0 (by decide)) | (intro _))))); (all_goals (try omega)); (all_goals (try exact xnn (by omega))); (all_goals (try exact Nat.le_of_ble_eq_true rfl)); (all_goals (try ((conv => whnf); (first | (refine hW.2.1 _ _ ?_) | (change X _ _ _ _ _ _) | (change C _ _ _ _ _ _ _))))); (all_goals (try simp only [xup_at, xup_ne, xup_up, ne_eq, Nat.reduceEqDiff, not_false_eq_true, Int.toNat_natCast, x_lcmp] at *)); (all_goals (try omega)))
  refine hW.1 _ _ _ _ _ _ (z_order' hz.1 hz.2.1 hz.2.2.2.1 (fun M1 hf ht => ?_)) (by decide) (by decide) (Nat.le_of_ble_eq_true rfl)
  ((repeat' (first | (with_reducible refine And.intro ?_ ?_) | (intro h0; exact absurd h0 (by decide)) | (intro _) | ((conv => whnf); (first | (with_reducible refine And.intro ?_ ?_) | (intro h0; exact absurd h0 (by decide)) | (intro _))))); (all_goals (try omega)); (all_goals (try exact xnn (by omega))); (all_goals (try exact Nat.le_of_ble_eq_true rfl)); (all_goals (try ((conv => whnf); (first | (refine hW.2.1 _ _ ?_) | (change X _ _ _ _ _ _) | (change C _ _ _ _ _ _ _))))); (all_goals (try simp only [xup_at, xup_ne, xup_up, ne_eq, Nat.reduceEqDiff, not_false_eq_true, Int.toNat_natCast, x_lcmp] at *)); (all_goals (try omega)))
  exact outer nW 0 M1 (by omega) (fun a ha => hf a (by omega)) ht (fun u hu => absurd hu (by omega)) (fun u _ => by rw [hf 74 (by omega)]) none
