/-! the reference: words, endings, the bound -/
def goneZ (M : xM) : xM := xup M 74 (xfill (M 74) 10 (-1))
def zAddW (M : xM) (n b : Int) : xM := xup (xup (xup M 65 (xup (M 65) (M 64 0).toNat n)) 66 (xup (M 66) (M 64 0).toNat b)) 64 (xup (M 64) 0 (M 64 0 + 1))
def zAddE (M : xM) (n b : Int) : xM := xup (xup (xup M 67 (xup (M 67) (M 64 3).toNat n)) 68 (xup (M 68) (M 64 3).toNat b)) 64 (xup (M 64) 3 (M 64 3 + 1))
set_option maxRecDepth 100000 in
set_option maxHeartbeats 600000 in
theorem z_word {M : xM} {Q : Option xV → xM → Prop} {n b : Int} (hn : xrg n) (hb : xrg b) (hk : 0 ≤ M 64 0 ∧ M 64 0 ≤ 10) (h1 : ¬isRow n b → Q (some (xI (-2))) M) (h2 : isRow n b → M 64 0 = 10 → Q (some (xI (-4))) M) (h3 : isRow n b → M 64 0 < 10 → Q (some (xI (M 64 0))) (goneZ (zAddW M n b))) : xm 3 m_M_word [xR (some 64), xI n, xI b] M Q := by
  have e : M 64 0 + 1 - 1 = M 64 0 := by omega
  (refine xm_of (own := "DrumTongueModel") rfl (by decide +kernel) tk_M [some (xR (some 64)), some (xI n), some (xI b)] (Nat.le_of_ble_eq_true rfl) rfl ?_; intro D nx X C P hW)
  refine xg hW k_M_word [] 40 ?_
  ((repeat' (first | (with_reducible refine And.intro ?_ ?_) | (intro h0; exact absurd h0 (by decide)) | (intro _) | ((conv => whnf); (first | (with_reducible refine And.intro ?_ ?_) | (intro h0; exact absurd h0 (by decide)) | (intro _) | (refine hW.1 _ _ _ _ _ _ (z_isRow ?_) (by first | decide | omega) (by decide) (Nat.le_of_ble_eq_true rfl)) | (refine hW.1 _ _ _ _ _ _ (z_gone ?_) (by first | decide | omega) (by decide) (Nat.le_of_ble_eq_true rfl)))))); (all_goals (try omega)); (all_goals (try exact xnn (by omega))); (all_goals (try exact Nat.le_of_ble_eq_true rfl)); (all_goals (try ((conv => whnf); (first | (refine hW.2.1 _ _ ?_) | (change X _ _ _ _ _ _) | (change C _ _ _ _ _ _ _))))); (all_goals (try simp only [xup_at, xup_ne, xup_up, ne_eq, Nat.reduceEqDiff, not_false_eq_true, Int.toNat_natCast, x_lcmp] at *)); (all_goals (try omega)))
  all_goals first | exact h1 (by assumption) | exact h2 (by assumption) (by omega) | (rw [e]; exact h3 (by assumption) (by omega)) | trace_state
set_option maxRecDepth 100000 in
set_option maxHeartbeats 600000 in
theorem z_ending {M : xM} {Q : Option xV → xM → Prop} {n b : Int} (hn : xrg n) (hb : xrg b) (hk : 0 ≤ M 64 3 ∧ M 64 3 ≤ 5) (h1 : ¬isRow n b → Q (some (xI (-2))) M) (h2 : isRow n b → M 64 3 = 5 → Q (some (xI (-4))) M) (h3 : isRow n b → M 64 3 < 5 → Q (some (xI (M 64 3))) (goneZ (zAddE M n b))) : xm 3 m_M_ending [xR (some 64), xI n, xI b] M Q := by
  have e : M 64 3 + 1 - 1 = M 64 3 := by omega
  (refine xm_of (own := "DrumTongueModel") rfl (by decide +kernel) tk_M [some (xR (some 64)), some (xI n), some (xI b)] (Nat.le_of_ble_eq_true rfl) rfl ?_; intro D nx X C P hW)
  refine xg hW k_M_ending [] 40 ?_
  ((repeat' (first | (with_reducible refine And.intro ?_ ?_) | (intro h0; exact absurd h0 (by decide)) | (intro _) | ((conv => whnf); (first | (with_reducible refine And.intro ?_ ?_) | (intro h0; exact absurd h0 (by decide)) | (intro _) | (refine hW.1 _ _ _ _ _ _ (z_isRow ?_) (by first | decide | omega) (by decide) (Nat.le_of_ble_eq_true rfl)) | (refine hW.1 _ _ _ _ _ _ (z_gone ?_) (by first | decide | omega) (by decide) (Nat.le_of_ble_eq_true rfl)))))); (all_goals (try omega)); (all_goals (try exact xnn (by omega))); (all_goals (try exact Nat.le_of_ble_eq_true rfl)); (all_goals (try ((conv => whnf); (first | (refine hW.2.1 _ _ ?_) | (change X _ _ _ _ _ _) | (change C _ _ _ _ _ _ _))))); (all_goals (try simp only [xup_at, xup_ne, xup_up, ne_eq, Nat.reduceEqDiff, not_false_eq_true, Int.toNat_natCast, x_lcmp] at *)); (all_goals (try omega)))
  all_goals first | exact h1 (by assumption) | exact h2 (by assumption) (by omega) | (rw [e]; exact h3 (by assumption) (by omega)) | trace_state
set_option maxRecDepth 100000 in
set_option maxHeartbeats 600000 in
theorem z_bound {M : xM} {Q : Option xV → xM → Prop} {v : Int} (hv : xrg v) (h1 : v < 1 ∨ 9 < v → Q (some (xI (-2))) M) (h2 : 1 ≤ v → v ≤ 9 → Q (some (xI (M 64 6))) (goneZ (xup M 64 (xup (M 64) 6 v)))) : xm 2 m_M_bound [xR (some 64), xI v] M Q := by
  have hv1 := hv.1
  have hv2 := hv.2
  (refine xm_of (own := "DrumTongueModel") rfl (by decide +kernel) tk_M [some (xR (some 64)), some (xI v), none] (Nat.le_of_ble_eq_true rfl) rfl ?_; intro D nx X C P hW)
  refine xg hW k_M_bound [] 40 ?_
  ((repeat' (first | (with_reducible refine And.intro ?_ ?_) | (intro h0; exact absurd h0 (by decide)) | (intro _) | ((conv => whnf); (first | (with_reducible refine And.intro ?_ ?_) | (intro h0; exact absurd h0 (by decide)) | (intro _) | (refine hW.1 _ _ _ _ _ _ (z_in ?_) (by first | decide | omega) (by decide) (Nat.le_of_ble_eq_true rfl)) | (refine hW.1 _ _ _ _ _ _ (z_gone ?_) (by first | decide | omega) (by decide) (Nat.le_of_ble_eq_true rfl)))))); (all_goals (try omega)); (all_goals (try exact xnn (by omega))); (all_goals (try exact Nat.le_of_ble_eq_true rfl)); (all_goals (try ((conv => whnf); (first | (refine hW.2.1 _ _ ?_) | (change X _ _ _ _ _ _) | (change C _ _ _ _ _ _ _))))); (all_goals (try simp only [xup_at, xup_ne, xup_up, ne_eq, Nat.reduceEqDiff, not_false_eq_true, Int.toNat_natCast, x_lcmp] at *)); (all_goals (try omega)))
  all_goals first | exact h1 (by omega) | exact h2 (by omega) (by omega) | trace_state
set_option maxRecDepth 100000 in
set_option maxHeartbeats 600000 in
theorem z_isWord {M : xM} {Q : Option xV → xM → Prop} {w : Int} (h : (xrg w ∧ 0 ≤ M 64 0 ∧ M 64 0 ≤ 10) ∧ (0 ≤ w → w < M 64 0 → Q (some (xI 1)) M) ∧ (w < 0 ∨ M 64 0 ≤ w → Q (some (xI 0)) M)) : xm 2 m_M_isWord [xR (some 64), xI w] M Q := by
  obtain ⟨⟨⟨h1, h2⟩, h3, h4⟩, h5, h6⟩ := h
  (refine xm_of (own := "DrumTongueModel") rfl (by decide +kernel) tk_M [some (xR (some 64)), some (xI w)] (Nat.le_of_ble_eq_true rfl) rfl ?_; intro D nx X C P hW)
  refine xg hW k_M_isWord [] 40 ?_
  ((repeat' (first | (with_reducible refine And.intro ?_ ?_) | (intro h0; exact absurd h0 (by decide)) | (intro _) | ((conv => whnf); (first | (with_reducible refine And.intro ?_ ?_) | (intro h0; exact absurd h0 (by decide)) | (intro _) | (refine hW.1 _ _ _ _ _ _ (z_in ?_) (by first | decide | omega) (by decide) (Nat.le_of_ble_eq_true rfl)))))); (all_goals (try omega)); (all_goals (try exact xnn (by omega))); (all_goals (try exact Nat.le_of_ble_eq_true rfl)); (all_goals (try ((conv => whnf); (first | (refine hW.2.1 _ _ ?_) | (change X _ _ _ _ _ _) | (change C _ _ _ _ _ _ _))))); (all_goals (try simp only [xup_at, xup_ne, xup_up, ne_eq, Nat.reduceEqDiff, not_false_eq_true, Int.toNat_natCast, x_lcmp] at *)); (all_goals (try omega)))
  all_goals first | exact h5 (by omega) (by omega) | exact h6 (by omega) | trace_state
/-! the reference: phrases in order -/
/-- tail x stands before tail y -/
def ltK (es : Nat → Int) (x y : xTl) : Prop := szT es x < szT es y ∨ szT es x = szT es y ∧ (x.1 < y.1 ∨ x.1 = y.1 ∧ (x.2.1 < y.2.1 ∨ x.2.1 = y.2.1 ∧ x.2.2 < y.2.2))
def latZ (s e a b s' e' a' b' : Int) : Prop := s' < s ∨ s = s' ∧ (e' < e ∨ e = e' ∧ (a' < a ∨ a = a' ∧ b' < b))
set_option maxRecDepth 100000 in
set_option maxHeartbeats 600000 in
theorem z_isLater {M : xM} {Q : Option xV → xM → Prop} {p : Nat} {ln k a b : Int} (hp : p < 310) (hr : xrg (M 70 p) ∧ xrg (M 71 p) ∧ xrg (M 72 p) ∧ xrg (M 73 p) ∧ xrg ln ∧ xrg k ∧ xrg a ∧ xrg b) (h : (latZ (M 70 p) (M 71 p) (M 72 p) (M 73 p) ln k a b → Q (some (xI 1)) M) ∧ (¬ latZ (M 70 p) (M 71 p) (M 72 p) (M 73 p) ln k a b → Q (some (xI 0)) M)) : xm 1 m_M_isLater [xR (some 64), xI (p : Int), xI ln, xI k, xI a, xI b] M Q := by
  obtain ⟨⟨r1, r1'⟩, ⟨r2, r2'⟩, ⟨r3, r3'⟩, ⟨r4, r4'⟩, ⟨r5, r5'⟩, ⟨r6, r6'⟩, ⟨r7, r7'⟩, r8, r8'⟩ := hr
  obtain ⟨h1, h2⟩ := h
  unfold latZ at h1 h2
  (refine xm_of (own := "DrumTongueModel") rfl (by decide +kernel) tk_M [some (xR (some 64)), some (xI (p : Int)), some (xI ln), some (xI k), some (xI a), some (xI b)] (Nat.le_of_ble_eq_true rfl) rfl ?_; intro D nx X C P hW)
  refine xg hW k_M_isLater [] 40 ?_
  ((repeat' (first | (with_reducible refine And.intro ?_ ?_) | (intro h0; exact absurd h0 (by decide)) | (intro _) | ((conv => whnf); (first | (with_reducible refine And.intro ?_ ?_) | (intro h0; exact absurd h0 (by decide)) | (intro _))))); (all_goals (try omega)); (all_goals (try exact xnn (by omega))); (all_goals (try exact Nat.le_of_ble_eq_true rfl)); (all_goals (try ((conv => whnf); (first | (refine hW.2.1 _ _ ?_) | (change X _ _ _ _ _ _) | (change C _ _ _ _ _ _ _))))); (all_goals (try simp only [xup_at, xup_ne, xup_up, ne_eq, Nat.reduceEqDiff, not_false_eq_true, Int.toNat_natCast, x_lcmp] at *)); (all_goals (try omega)))
  all_goals first | exact h1 (by omega) | exact h2 (by omega) | trace_state
