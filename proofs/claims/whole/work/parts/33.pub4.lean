/-! public methods: hills, count, digest -/
theorem hlFr_wk {M M' : xM} {u : Nat} {p : Nat → Nat} {B : xB} (h : wkAt M u p B M') : hlFr M M' := fun a h1 h2 => h.1.1 a h1 (by omega) (by omega)
/-- the best way told by a variable -/
theorem c_findBest' {M : xM} {s d : Nat} (hh0 : hillOk M) (hs : s < 6) (hd : d < 6) (hsd : s ≠ d) : ∃ B : xB, B = hBest (cM M) (hM M) s d ∧ hbOk B ∧ ∀ Q : Option xV → xM → Prop, (∀ M', wkAt M 1 (fun _ => s) B M' → 0 < B.1 → Q (some (xI 1)) M') ∧ (∀ M', wkAt M 1 (fun _ => s) B M' → B.1 = 0 → Q (some (xI 0)) M') → xm 12 m_Hills_findBest [xR (some 45), xI s, xI d] M Q :=
  ⟨_, rfl, hBest_ok hh0.ch hs, fun Q h => c_findBest hh0 hs hd hsd h.1 h.2⟩
theorem c_findEnough' {M : xM} {s d : Nat} {c : Int} (hh0 : hillOk M) (hs : s < 6) (hd : d < 6) (hsd : s ≠ d) (hc : 1 ≤ c ∧ c ≤ 1000000000) : ∃ (B : xB) (E : xE2), B = hBest (cM M) (hM M) s d ∧ E = enR (cM M) (hM M) s d c ∧ hbOk B ∧ ∀ Q : Option xV → xM → Prop, (∀ M', hlFr M M' → B.1 = 0 ∨ E.1 = 0 → Q (some (xI 0)) M') ∧ (∀ M', hlFr M M' → 0 < B.1 → 0 < E.1 → M' 45 4 = B.2.2.1 → M' 45 9 = E.1 → (∀ j, j < B.2.2.1 - 1 → M' 63 j = E.2 j) → Q (some (xI 1)) M') → xm 14 m_Hills_findEnough [xR (some 45), xI s, xI d, xI c] M Q :=
  ⟨_, _, rfl, rfl, hBest_ok hh0.ch hs, fun Q h => c_findEnough hh0 hs hd hsd hc h.1 h.2⟩
theorem c_noPair {M : xM} {s d : Int} (hs : xrg s) (hd : xrg d) (hp : ¬ isPair s d) : ∀ Q' : Option xV → xM → Prop, Q' (some (xI 0)) M → xm 2 m_Hills_arePair [xI s, xI d] M Q' := fun _ h => c_arePair ⟨⟨hs, hd⟩, fun a => absurd a hp, fun _ => h⟩
set_option maxRecDepth 100000 in
set_option maxHeartbeats 600000 in
theorem p_wayN {M : xM} {Q : Option xV → xM → Prop} {s d : Int} (hs : xrg s) (hd : xrg d) (hp : ¬ isPair s d) (h : Q (some (xI (-2))) M) : xm 13 m_X_way [xR (some 1), xI s, xI d] M Q := by
  (refine xm_of (own := "DrumTongue") rfl (by decide +kernel) tk_X [some (xR (some 1)), some (xI s), some (xI d)] (Nat.le_of_ble_eq_true rfl) rfl ?_; intro D nx X C P hW)
  refine xg hW k_X_way [] 40 ?_
  ((repeat' (first | (with_reducible refine And.intro ?_ ?_) | (intro h0; exact absurd h0 (by decide)) | (intro _) | ((conv => whnf); (first | (with_reducible refine And.intro ?_ ?_) | (intro h0; exact absurd h0 (by decide)) | (intro _) | (refine hW.1 _ _ _ _ _ _ (c_noPair hs hd hp _ ?_) (by first | decide | omega) (by decide) (Nat.le_of_ble_eq_true rfl)))))); (all_goals (try omega)); (all_goals (try exact xnn (by omega))); (all_goals (try exact Nat.le_of_ble_eq_true rfl)); (all_goals (try ((conv => whnf); (first | (refine hW.2.1 _ _ ?_) | (change X _ _ _ _ _ _) | (change C _ _ _ _ _ _ _))))); (all_goals (try simp only [xup_at, xup_ne, xup_up, ne_eq, Nat.reduceEqDiff, not_false_eq_true, Int.toNat_natCast, x_lcmp] at *)); (all_goals (try omega)))
  all_goals exact h
set_option maxRecDepth 100000 in
set_option maxHeartbeats 600000 in
theorem p_way {M : xM} {Q : Option xV → xM → Prop} {s d : Nat} (hh0 : hillOk M) (hs : s < 6) (hd : d < 6) (hsd : s ≠ d) (h1 : ∀ M', hlFr M M' → 0 < (hBest (cM M) (hM M) s d).1 → Q (some (xI (hBest (cM M) (hM M) s d).1)) M') (h2 : ∀ M', hlFr M M' → (hBest (cM M) (hM M) s d).1 = 0 → Q (some (xI (-1))) M') : xm 13 m_X_way [xR (some 1), xI s, xI d] M Q := by
  obtain ⟨B, e, b, cf⟩ := c_findBest' hh0 hs hd hsd
  rw [← e] at h1 h2
  clear e
  (refine xm_of (own := "DrumTongue") rfl (by decide +kernel) tk_X [some (xR (some 1)), some (xI (s : Int)), some (xI (d : Int))] (Nat.le_of_ble_eq_true rfl) rfl ?_; intro D nx X C P hW)
  refine xg hW k_X_way [] 40 ?_
  ((repeat' (first | (with_reducible refine And.intro ?_ ?_) | (intro h0; exact absurd h0 (by decide)) | (intro _) | ((conv => whnf); (first | (with_reducible refine And.intro ?_ ?_) | (intro h0; exact absurd h0 (by decide)) | (intro _) | (refine hW.1 _ _ _ _ _ _ (c_arePairY ?_) (by first | decide | omega) (by decide) (Nat.le_of_ble_eq_true rfl)) | (refine hW.1 _ _ _ _ _ _ (cf _ ?_) (by first | decide | omega) (by decide) (Nat.le_of_ble_eq_true rfl)) | (refine hW.1 _ _ _ _ _ _ (c_bestChance ?_) (by first | decide | omega) (by decide) (Nat.le_of_ble_eq_true rfl)))))); (all_goals (try omega)); (all_goals (try exact xnn (by omega))); (all_goals (try exact Nat.le_of_ble_eq_true rfl)); (all_goals (try ((conv => whnf); (first | (refine hW.2.1 _ _ ?_) | (change X _ _ _ _ _ _) | (change C _ _ _ _ _ _ _))))); (all_goals (try simp only [xup_at, xup_ne, xup_up, ne_eq, Nat.reduceEqDiff, not_false_eq_true, Int.toNat_natCast, x_lcmp] at *)); (all_goals (try omega)))
  · rename_i M' f p
    rw [f.2.1]
    exact h1 M' (hlFr_wk f) p
  · rename_i M' f p
    exact h2 M' (hlFr_wk f) p
set_option maxRecDepth 100000 in
set_option maxHeartbeats 600000 in
theorem p_ageN {M : xM} {Q : Option xV → xM → Prop} {s d : Int} (hs : xrg s) (hd : xrg d) (hp : ¬ isPair s d) (h : Q (some (xI (-2))) M) : xm 13 m_X_age [xR (some 1), xI s, xI d] M Q := by
  (refine xm_of (own := "DrumTongue") rfl (by decide +kernel) tk_X [some (xR (some 1)), some (xI s), some (xI d)] (Nat.le_of_ble_eq_true rfl) rfl ?_; intro D nx X C P hW)
  refine xg hW k_X_age [] 40 ?_
  ((repeat' (first | (with_reducible refine And.intro ?_ ?_) | (intro h0; exact absurd h0 (by decide)) | (intro _) | ((conv => whnf); (first | (with_reducible refine And.intro ?_ ?_) | (intro h0; exact absurd h0 (by decide)) | (intro _) | (refine hW.1 _ _ _ _ _ _ (c_noPair hs hd hp _ ?_) (by first | decide | omega) (by decide) (Nat.le_of_ble_eq_true rfl)))))); (all_goals (try omega)); (all_goals (try exact xnn (by omega))); (all_goals (try exact Nat.le_of_ble_eq_true rfl)); (all_goals (try ((conv => whnf); (first | (refine hW.2.1 _ _ ?_) | (change X _ _ _ _ _ _) | (change C _ _ _ _ _ _ _))))); (all_goals (try simp only [xup_at, xup_ne, xup_up, ne_eq, Nat.reduceEqDiff, not_false_eq_true, Int.toNat_natCast, x_lcmp] at *)); (all_goals (try omega)))
  all_goals exact h
set_option maxRecDepth 100000 in
set_option maxHeartbeats 600000 in
theorem p_age {M : xM} {Q : Option xV → xM → Prop} {s d : Nat} (hh0 : hillOk M) (hs : s < 6) (hd : d < 6) (hsd : s ≠ d) (h1 : ∀ M', hlFr M M' → 0 < (hBest (cM M) (hM M) s d).1 → Q (some (xI (hBest (cM M) (hM M) s d).2.1)) M') (h2 : ∀ M', hlFr M M' → (hBest (cM M) (hM M) s d).1 = 0 → Q (some (xI (-1))) M') : xm 13 m_X_age [xR (some 1), xI s, xI d] M Q := by
  obtain ⟨B, e, b, cf⟩ := c_findBest' hh0 hs hd hsd
  rw [← e] at h1 h2
  clear e
  (refine xm_of (own := "DrumTongue") rfl (by decide +kernel) tk_X [some (xR (some 1)), some (xI (s : Int)), some (xI (d : Int))] (Nat.le_of_ble_eq_true rfl) rfl ?_; intro D nx X C P hW)
  refine xg hW k_X_age [] 40 ?_
  ((repeat' (first | (with_reducible refine And.intro ?_ ?_) | (intro h0; exact absurd h0 (by decide)) | (intro _) | ((conv => whnf); (first | (with_reducible refine And.intro ?_ ?_) | (intro h0; exact absurd h0 (by decide)) | (intro _) | (refine hW.1 _ _ _ _ _ _ (c_arePairY ?_) (by first | decide | omega) (by decide) (Nat.le_of_ble_eq_true rfl)) | (refine hW.1 _ _ _ _ _ _ (cf _ ?_) (by first | decide | omega) (by decide) (Nat.le_of_ble_eq_true rfl)) | (refine hW.1 _ _ _ _ _ _ (c_bestHours ?_) (by first | decide | omega) (by decide) (Nat.le_of_ble_eq_true rfl)))))); (all_goals (try omega)); (all_goals (try exact xnn (by omega))); (all_goals (try exact Nat.le_of_ble_eq_true rfl)); (all_goals (try ((conv => whnf); (first | (refine hW.2.1 _ _ ?_) | (change X _ _ _ _ _ _) | (change C _ _ _ _ _ _ _))))); (all_goals (try simp only [xup_at, xup_ne, xup_up, ne_eq, Nat.reduceEqDiff, not_false_eq_true, Int.toNat_natCast, x_lcmp] at *)); (all_goals (try omega)))
  · rename_i M' f p
    rw [f.2.2.1]
    exact h1 M' (hlFr_wk f) p
  · rename_i M' f p
    exact h2 M' (hlFr_wk f) p
set_option maxRecDepth 100000 in
set_option maxHeartbeats 600000 in
theorem p_wayAtN {M : xM} {Q : Option xV → xM → Prop} {s d i : Int} (hs : xrg s) (hd : xrg d) (hp : ¬ isPair s d) (h : Q (some (xI (-2))) M) : xm 13 m_X_wayAt [xR (some 1), xI s, xI d, xI i] M Q := by
  (refine xm_of (own := "DrumTongue") rfl (by decide +kernel) tk_X [some (xR (some 1)), some (xI s), some (xI d), some (xI i)] (Nat.le_of_ble_eq_true rfl) rfl ?_; intro D nx X C P hW)
  refine xg hW k_X_wayAt [] 40 ?_
  ((repeat' (first | (with_reducible refine And.intro ?_ ?_) | (intro h0; exact absurd h0 (by decide)) | (intro _) | ((conv => whnf); (first | (with_reducible refine And.intro ?_ ?_) | (intro h0; exact absurd h0 (by decide)) | (intro _) | (refine hW.1 _ _ _ _ _ _ (c_noPair hs hd hp _ ?_) (by first | decide | omega) (by decide) (Nat.le_of_ble_eq_true rfl)))))); (all_goals (try omega)); (all_goals (try exact xnn (by omega))); (all_goals (try exact Nat.le_of_ble_eq_true rfl)); (all_goals (try ((conv => whnf); (first | (refine hW.2.1 _ _ ?_) | (change X _ _ _ _ _ _) | (change C _ _ _ _ _ _ _))))); (all_goals (try simp only [xup_at, xup_ne, xup_up, ne_eq, Nat.reduceEqDiff, not_false_eq_true, Int.toNat_natCast, x_lcmp] at *)); (all_goals (try omega)))
  all_goals exact h
set_option maxRecDepth 100000 in
set_option maxHeartbeats 600000 in
theorem p_wayAt {M : xM} {Q : Option xV → xM → Prop} {s d : Nat} {i : Int} (hh0 : hillOk M) (hs : s < 6) (hd : d < 6) (hsd : s ≠ d) (hi : xrg i) (h1 : ∀ M', hlFr M M' → 0 < (hBest (cM M) (hM M) s d).1 → 0 ≤ i → i < (hBest (cM M) (hM M) s d).2.2.1 → Q (some (xI ((hBest (cM M) (hM M) s d).2.2.2 i.toNat : Nat))) M') (h2 : ∀ M', hlFr M M' → (hBest (cM M) (hM M) s d).1 = 0 ∨ i < 0 ∨ ((hBest (cM M) (hM M) s d).2.2.1 : Int) ≤ i → Q (some (xI (-1))) M') : xm 13 m_X_wayAt [xR (some 1), xI s, xI d, xI i] M Q := by
  obtain ⟨B, e, b, cf⟩ := c_findBest' hh0 hs hd hsd
  rw [← e] at h1 h2
  clear e
  (refine xm_of (own := "DrumTongue") rfl (by decide +kernel) tk_X [some (xR (some 1)), some (xI (s : Int)), some (xI (d : Int)), some (xI i)] (Nat.le_of_ble_eq_true rfl) rfl ?_; intro D nx X C P hW)
  refine xg hW k_X_wayAt [] 40 ?_
  ((repeat' (first | (with_reducible refine And.intro ?_ ?_) | (intro h0; exact absurd h0 (by decide)) | (intro _) | ((conv => whnf); (first | (with_reducible refine And.intro ?_ ?_) | (intro h0; exact absurd h0 (by decide)) | (intro _) | (refine hW.1 _ _ _ _ _ _ (c_arePairY ?_) (by first | decide | omega) (by decide) (Nat.le_of_ble_eq_true rfl)) | (refine hW.1 _ _ _ _ _ _ (cf _ ?_) (by first | decide | omega) (by decide) (Nat.le_of_ble_eq_true rfl)))))); (all_goals (try omega)); (all_goals (try exact xnn (by omega))); (all_goals (try exact Nat.le_of_ble_eq_true rfl)); (all_goals (try ((conv => whnf); (first | (refine hW.2.1 _ _ ?_) | (change X _ _ _ _ _ _) | (change C _ _ _ _ _ _ _))))); (all_goals (try simp only [xup_at, xup_ne, xup_up, ne_eq, Nat.reduceEqDiff, not_false_eq_true, Int.toNat_natCast, x_lcmp] at *)); (all_goals (try omega)))
  · rename_i M' f p
    obtain ⟨b1, b2, b3, b4, b5, b6⟩ := b
    have b7 := b5 p
    have e4 : M' 45 4 = (B.2.2.1 : Int) := f.2.2.2.1
    ((repeat' (first | (with_reducible refine And.intro ?_ ?_) | (intro h0; exact absurd h0 (by decide)) | (intro _) | ((conv => whnf); (first | (with_reducible refine And.intro ?_ ?_) | (intro h0; exact absurd h0 (by decide)) | (intro _) | (refine hW.1 _ _ _ _ _ _ (c_bestAt ?_) (by first | decide | omega) (by decide) (Nat.le_of_ble_eq_true rfl)))))); (all_goals (try omega)); (all_goals (try exact xnn (by omega))); (all_goals (try exact Nat.le_of_ble_eq_true rfl)); (all_goals (try ((conv => whnf); (first | (refine hW.2.1 _ _ ?_) | (change X _ _ _ _ _ _) | (change C _ _ _ _ _ _ _))))); (all_goals (try simp only [xup_at, xup_ne, xup_up, ne_eq, Nat.reduceEqDiff, not_false_eq_true, Int.toNat_natCast, x_lcmp] at *)); (all_goals (try omega)))
    all_goals first | exact hi | (rw [f.2.2.2.2.1 _ (by omega)]; exact h1 M' (hlFr_wk f) p (by omega) (by omega)) | exact h2 M' (hlFr_wk f) (by omega) | trace_state
  · rename_i M' f p
    ((repeat' (first | (with_reducible refine And.intro ?_ ?_) | (intro h0; exact absurd h0 (by decide)) | (intro _) | ((conv => whnf); (first | (with_reducible refine And.intro ?_ ?_) | (intro h0; exact absurd h0 (by decide)) | (intro _))))); (all_goals (try omega)); (all_goals (try exact xnn (by omega))); (all_goals (try exact Nat.le_of_ble_eq_true rfl)); (all_goals (try ((conv => whnf); (first | (refine hW.2.1 _ _ ?_) | (change X _ _ _ _ _ _) | (change C _ _ _ _ _ _ _))))); (all_goals (try simp only [xup_at, xup_ne, xup_up, ne_eq, Nat.reduceEqDiff, not_false_eq_true, Int.toNat_natCast, x_lcmp] at *)); (all_goals (try omega)))
    exact h2 M' (hlFr_wk f) (Or.inl p)
set_option maxRecDepth 100000 in
set_option maxHeartbeats 600000 in
theorem p_enoughN {M : xM} {Q : Option xV → xM → Prop} {s d c : Int} (hs : xrg s) (hd : xrg d) (hc : xrg c) (hp : ¬ (isPair s d ∧ 1 ≤ c ∧ c ≤ 1000000000)) (h : Q (some (xI (-2))) M) : xm 15 m_X_enough [xR (some 1), xI s, xI d, xI c] M Q := by
  have hc1 := hc.1
  have hc2 := hc.2
  by_cases q : isPair s d
  · have q3 : ¬ (1 ≤ c ∧ c ≤ 1000000000) := fun r => hp ⟨q, r⟩
    have q' : 0 ≤ s ∧ s < 6 ∧ 0 ≤ d ∧ d < 6 ∧ s ≠ d := q
    obtain ⟨r1, r2, r3, r4, r5⟩ := q'
    (refine xm_of (own := "DrumTongue") rfl (by decide +kernel) tk_X [some (xR (some 1)), some (xI s), some (xI d), some (xI c)] (Nat.le_of_ble_eq_true rfl) rfl ?_; intro D nx X C P hW)
    refine xg hW k_X_enough [22] 40 ?_
    ((repeat' (first | (with_reducible refine And.intro ?_ ?_) | (intro h0; exact absurd h0 (by decide)) | (intro _) | ((conv => whnf); (first | (with_reducible refine And.intro ?_ ?_) | (intro h0; exact absurd h0 (by decide)) | (intro _) | (refine hW.1 _ _ _ _ _ _ (c_arePairY ?_) (by first | decide | omega) (by decide) (Nat.le_of_ble_eq_true rfl)))))); (all_goals (try omega)); (all_goals (try exact xnn (by omega))); (all_goals (try exact Nat.le_of_ble_eq_true rfl)); (all_goals (try ((conv => whnf); (first | (refine hW.2.1 _ _ ?_) | (change X _ _ _ _ _ _) | (change C _ _ _ _ _ _ _))))); (all_goals (try simp only [xup_at, xup_ne, xup_up, ne_eq, Nat.reduceEqDiff, not_false_eq_true, Int.toNat_natCast, x_lcmp] at *)); (all_goals (try omega)))
    all_goals first | exact h | exact r5 (by assumption) | omega
  · (refine xm_of (own := "DrumTongue") rfl (by decide +kernel) tk_X [some (xR (some 1)), some (xI s), some (xI d), some (xI c)] (Nat.le_of_ble_eq_true rfl) rfl ?_; intro D nx X C P hW)
    refine xg hW k_X_enough [] 40 ?_
    ((repeat' (first | (with_reducible refine And.intro ?_ ?_) | (intro h0; exact absurd h0 (by decide)) | (intro _) | ((conv => whnf); (first | (with_reducible refine And.intro ?_ ?_) | (intro h0; exact absurd h0 (by decide)) | (intro _) | (refine hW.1 _ _ _ _ _ _ (c_noPair hs hd q _ ?_) (by first | decide | omega) (by decide) (Nat.le_of_ble_eq_true rfl)))))); (all_goals (try omega)); (all_goals (try exact xnn (by omega))); (all_goals (try exact Nat.le_of_ble_eq_true rfl)); (all_goals (try ((conv => whnf); (first | (refine hW.2.1 _ _ ?_) | (change X _ _ _ _ _ _) | (change C _ _ _ _ _ _ _))))); (all_goals (try simp only [xup_at, xup_ne, xup_up, ne_eq, Nat.reduceEqDiff, not_false_eq_true, Int.toNat_natCast, x_lcmp] at *)); (all_goals (try omega)))
    all_goals exact h
set_option maxRecDepth 100000 in
set_option maxHeartbeats 600000 in
theorem p_enough {M : xM} {Q : Option xV → xM → Prop} {s d : Nat} {c : Int} (hh0 : hillOk M) (hs : s < 6) (hd : d < 6) (hsd : s ≠ d) (hc : 1 ≤ c ∧ c ≤ 1000000000) (h1 : ∀ M', hlFr M M' → 0 < (hBest (cM M) (hM M) s d).1 → 0 < (enR (cM M) (hM M) s d c).1 → Q (some (xI (enR (cM M) (hM M) s d c).1)) M') (h2 : ∀ M', hlFr M M' → (hBest (cM M) (hM M) s d).1 = 0 ∨ (enR (cM M) (hM M) s d c).1 = 0 → Q (some (xI (-1))) M') : xm 15 m_X_enough [xR (some 1), xI s, xI d, xI c] M Q := by
  obtain ⟨B, E, e, e', b, cf⟩ := c_findEnough' hh0 hs hd hsd hc
  rw [← e, ← e'] at h1 h2
  clear e e'
  (refine xm_of (own := "DrumTongue") rfl (by decide +kernel) tk_X [some (xR (some 1)), some (xI (s : Int)), some (xI (d : Int)), some (xI c)] (Nat.le_of_ble_eq_true rfl) rfl ?_; intro D nx X C P hW)
  refine xg hW k_X_enough [] 40 ?_
  ((repeat' (first | (with_reducible refine And.intro ?_ ?_) | (intro h0; exact absurd h0 (by decide)) | (intro _) | ((conv => whnf); (first | (with_reducible refine And.intro ?_ ?_) | (intro h0; exact absurd h0 (by decide)) | (intro _) | (refine hW.1 _ _ _ _ _ _ (c_arePairY ?_) (by first | decide | omega) (by decide) (Nat.le_of_ble_eq_true rfl)) | (refine hW.1 _ _ _ _ _ _ (cf _ ?_) (by first | decide | omega) (by decide) (Nat.le_of_ble_eq_true rfl)) | (refine hW.1 _ _ _ _ _ _ (c_enoughSum ?_) (by first | decide | omega) (by decide) (Nat.le_of_ble_eq_true rfl)))))); (all_goals (try omega)); (all_goals (try exact xnn (by omega))); (all_goals (try exact Nat.le_of_ble_eq_true rfl)); (all_goals (try ((conv => whnf); (first | (refine hW.2.1 _ _ ?_) | (change X _ _ _ _ _ _) | (change C _ _ _ _ _ _ _))))); (all_goals (try simp only [xup_at, xup_ne, xup_up, ne_eq, Nat.reduceEqDiff, not_false_eq_true, Int.toNat_natCast, x_lcmp] at *)); (all_goals (try omega)))
  · rename_i M' f p
    exact h2 M' f p
  · rename_i M' f p1 p2 e4 e9 e63
    rw [e9]
    exact h1 M' f p1 p2
set_option maxRecDepth 100000 in
set_option maxHeartbeats 600000 in
theorem p_timesN {M : xM} {Q : Option xV → xM → Prop} {s d c i : Int} (hs : xrg s) (hd : xrg d) (hc : xrg c) (hp : ¬ (isPair s d ∧ 1 ≤ c ∧ c ≤ 1000000000)) (h : Q (some (xI (-2))) M) : xm 15 m_X_times [xR (some 1), xI s, xI d, xI c, xI i] M Q := by
  have hc1 := hc.1
  have hc2 := hc.2
  by_cases q : isPair s d
  · have q3 : ¬ (1 ≤ c ∧ c ≤ 1000000000) := fun r => hp ⟨q, r⟩
    have q' : 0 ≤ s ∧ s < 6 ∧ 0 ≤ d ∧ d < 6 ∧ s ≠ d := q
    obtain ⟨r1, r2, r3, r4, r5⟩ := q'
    (refine xm_of (own := "DrumTongue") rfl (by decide +kernel) tk_X [some (xR (some 1)), some (xI s), some (xI d), some (xI c), some (xI i)] (Nat.le_of_ble_eq_true rfl) rfl ?_; intro D nx X C P hW)
    refine xg hW k_X_times [22] 40 ?_
    ((repeat' (first | (with_reducible refine And.intro ?_ ?_) | (intro h0; exact absurd h0 (by decide)) | (intro _) | ((conv => whnf); (first | (with_reducible refine And.intro ?_ ?_) | (intro h0; exact absurd h0 (by decide)) | (intro _) | (refine hW.1 _ _ _ _ _ _ (c_arePairY ?_) (by first | decide | omega) (by decide) (Nat.le_of_ble_eq_true rfl)))))); (all_goals (try omega)); (all_goals (try exact xnn (by omega))); (all_goals (try exact Nat.le_of_ble_eq_true rfl)); (all_goals (try ((conv => whnf); (first | (refine hW.2.1 _ _ ?_) | (change X _ _ _ _ _ _) | (change C _ _ _ _ _ _ _))))); (all_goals (try simp only [xup_at, xup_ne, xup_up, ne_eq, Nat.reduceEqDiff, not_false_eq_true, Int.toNat_natCast, x_lcmp] at *)); (all_goals (try omega)))
    all_goals first | exact h | exact r5 (by assumption) | omega
  · (refine xm_of (own := "DrumTongue") rfl (by decide +kernel) tk_X [some (xR (some 1)), some (xI s), some (xI d), some (xI c), some (xI i)] (Nat.le_of_ble_eq_true rfl) rfl ?_; intro D nx X C P hW)
    refine xg hW k_X_times [] 40 ?_
    ((repeat' (first | (with_reducible refine And.intro ?_ ?_) | (intro h0; exact absurd h0 (by decide)) | (intro _) | ((conv => whnf); (first | (with_reducible refine And.intro ?_ ?_) | (intro h0; exact absurd h0 (by decide)) | (intro _) | (refine hW.1 _ _ _ _ _ _ (c_noPair hs hd q _ ?_) (by first | decide | omega) (by decide) (Nat.le_of_ble_eq_true rfl)))))); (all_goals (try omega)); (all_goals (try exact xnn (by omega))); (all_goals (try exact Nat.le_of_ble_eq_true rfl)); (all_goals (try ((conv => whnf); (first | (refine hW.2.1 _ _ ?_) | (change X _ _ _ _ _ _) | (change C _ _ _ _ _ _ _))))); (all_goals (try simp only [xup_at, xup_ne, xup_up, ne_eq, Nat.reduceEqDiff, not_false_eq_true, Int.toNat_natCast, x_lcmp] at *)); (all_goals (try omega)))
    all_goals exact h
set_option maxRecDepth 100000 in
set_option maxHeartbeats 600000 in
theorem p_times {M : xM} {Q : Option xV → xM → Prop} {s d : Nat} {c i : Int} (hh0 : hillOk M) (hs : s < 6) (hd : d < 6) (hsd : s ≠ d) (hc : 1 ≤ c ∧ c ≤ 1000000000) (hi : xrg i) (h1 : ∀ M', hlFr M M' → 0 < (hBest (cM M) (hM M) s d).1 → 0 < (enR (cM M) (hM M) s d c).1 → 0 ≤ i → i < ((hBest (cM M) (hM M) s d).2.2.1 : Int) - 1 → Q (some (xI ((enR (cM M) (hM M) s d c).2 i.toNat))) M') (h2 : ∀ M', hlFr M M' → (hBest (cM M) (hM M) s d).1 = 0 ∨ (enR (cM M) (hM M) s d c).1 = 0 ∨ i < 0 ∨ ((hBest (cM M) (hM M) s d).2.2.1 : Int) - 1 ≤ i → Q (some (xI (-1))) M') : xm 15 m_X_times [xR (some 1), xI s, xI d, xI c, xI i] M Q := by
  obtain ⟨B, E, e, e', b, cf⟩ := c_findEnough' hh0 hs hd hsd hc
  rw [← e, ← e'] at h1 h2
  clear e e'
  (refine xm_of (own := "DrumTongue") rfl (by decide +kernel) tk_X [some (xR (some 1)), some (xI (s : Int)), some (xI (d : Int)), some (xI c), some (xI i)] (Nat.le_of_ble_eq_true rfl) rfl ?_; intro D nx X C P hW)
  refine xg hW k_X_times [] 40 ?_
  ((repeat' (first | (with_reducible refine And.intro ?_ ?_) | (intro h0; exact absurd h0 (by decide)) | (intro _) | ((conv => whnf); (first | (with_reducible refine And.intro ?_ ?_) | (intro h0; exact absurd h0 (by decide)) | (intro _) | (refine hW.1 _ _ _ _ _ _ (c_arePairY ?_) (by first | decide | omega) (by decide) (Nat.le_of_ble_eq_true rfl)) | (refine hW.1 _ _ _ _ _ _ (cf _ ?_) (by first | decide | omega) (by decide) (Nat.le_of_ble_eq_true rfl)))))); (all_goals (try omega)); (all_goals (try exact xnn (by omega))); (all_goals (try exact Nat.le_of_ble_eq_true rfl)); (all_goals (try ((conv => whnf); (first | (refine hW.2.1 _ _ ?_) | (change X _ _ _ _ _ _) | (change C _ _ _ _ _ _ _))))); (all_goals (try simp only [xup_at, xup_ne, xup_up, ne_eq, Nat.reduceEqDiff, not_false_eq_true, Int.toNat_natCast, x_lcmp] at *)); (all_goals (try omega)))
  · rename_i M' f p
    ((repeat' (first | (with_reducible refine And.intro ?_ ?_) | (intro h0; exact absurd h0 (by decide)) | (intro _) | ((conv => whnf); (first | (with_reducible refine And.intro ?_ ?_) | (intro h0; exact absurd h0 (by decide)) | (intro _))))); (all_goals (try omega)); (all_goals (try exact xnn (by omega))); (all_goals (try exact Nat.le_of_ble_eq_true rfl)); (all_goals (try ((conv => whnf); (first | (refine hW.2.1 _ _ ?_) | (change X _ _ _ _ _ _) | (change C _ _ _ _ _ _ _))))); (all_goals (try simp only [xup_at, xup_ne, xup_up, ne_eq, Nat.reduceEqDiff, not_false_eq_true, Int.toNat_natCast, x_lcmp] at *)); (all_goals (try omega)))
    exact h2 M' f (by omega)
  · rename_i M' f p1 p2 e4 e9 e63
    obtain ⟨b1, b2, b3, b4, b5, b6⟩ := b
    have b7 := b5 p1
    ((repeat' (first | (with_reducible refine And.intro ?_ ?_) | (intro h0; exact absurd h0 (by decide)) | (intro _) | ((conv => whnf); (first | (with_reducible refine And.intro ?_ ?_) | (intro h0; exact absurd h0 (by decide)) | (intro _) | (refine hW.1 _ _ _ _ _ _ (c_enoughAt ?_) (by first | decide | omega) (by decide) (Nat.le_of_ble_eq_true rfl)))))); (all_goals (try omega)); (all_goals (try exact xnn (by omega))); (all_goals (try exact Nat.le_of_ble_eq_true rfl)); (all_goals (try ((conv => whnf); (first | (refine hW.2.1 _ _ ?_) | (change X _ _ _ _ _ _) | (change C _ _ _ _ _ _ _))))); (all_goals (try simp only [xup_at, xup_ne, xup_up, ne_eq, Nat.reduceEqDiff, not_false_eq_true, Int.toNat_natCast, x_lcmp] at *)); (all_goals (try omega)))
    all_goals first | exact hi | (rw [e63 _ (by omega)]; exact h1 M' f p1 p2 (by omega) (by omega)) | exact h2 M' f (by omega) | trace_state
/-- what count answers -/
def cntV (M : xM) (x : Int) : Int := if x = 0 then M 3 2 else if x = 1 then M 6 2 else if x = 2 then M 2 6 else if x = 3 then cntP (M 15) (M 3 2).toNat else if x = 4 then sumP (M 15) (M 16) (M 3 2).toNat else if x = 5 then M 23 1 else if x = 6 then cntG (M 24) (M 23 1).toNat else if x = 7 then M 25 3 else -2
set_option maxRecDepth 100000 in
set_option maxHeartbeats 600000 in
theorem p_count {M : xM} {Q : Option xV → xM → Prop} {x : Int} (hp : phOk M) (hw : 0 ≤ M 3 2 ∧ M 3 2 ≤ 10) (he : earOk M) (hx : xrg x) (h : Q (some (xI (cntV M x))) M) : xm 4 m_X_count [xR (some 1), xI x] M Q := by
  have hx1 := hx.1
  have hx2 := hx.2
  unfold cntV at h
  (refine xm_of (own := "DrumTongue") rfl (by decide +kernel) tk_X [some (xR (some 1)), some (xI x)] (Nat.le_of_ble_eq_true rfl) rfl ?_; intro D nx X C P hW)
  refine xg hW k_X_count [] 40 ?_
  ((repeat' (first | (with_reducible refine And.intro ?_ ?_) | (intro h0; exact absurd h0 (by decide)) | (intro _) | ((conv => whnf); (first | (with_reducible refine And.intro ?_ ?_) | (intro h0; exact absurd h0 (by decide)) | (intro _) | (refine hW.1 _ _ _ _ _ _ (c_wordCount ?_) (by first | decide | omega) (by decide) (Nat.le_of_ble_eq_true rfl)) | (refine hW.1 _ _ _ _ _ _ (c_endingCount ?_) (by first | decide | omega) (by decide) (Nat.le_of_ble_eq_true rfl)) | (refine hW.1 _ _ _ _ _ _ (c_boundNow ?_) (by first | decide | omega) (by decide) (Nat.le_of_ble_eq_true rfl)) | (refine hW.1 _ _ _ _ _ _ (c_phraseCount hp hw ?_) (by first | decide | omega) (by decide) (Nat.le_of_ble_eq_true rfl)) | (refine hW.1 _ _ _ _ _ _ (c_beatsOfAll hp hw ?_) (by first | decide | omega) (by decide) (Nat.le_of_ble_eq_true rfl)) | (refine hW.1 _ _ _ _ _ _ (c_earSize ?_) (by first | decide | omega) (by decide) (Nat.le_of_ble_eq_true rfl)) | (refine hW.1 _ _ _ _ _ _ (c_earGaps he ?_) (by first | decide | omega) (by decide) (Nat.le_of_ble_eq_true rfl)) | (refine hW.1 _ _ _ _ _ _ (c_lastSize ?_) (by first | decide | omega) (by decide) (Nat.le_of_ble_eq_true rfl)))))); (all_goals (try omega)); (all_goals (try exact xnn (by omega))); (all_goals (try exact Nat.le_of_ble_eq_true rfl)); (all_goals (try ((conv => whnf); (first | (refine hW.2.1 _ _ ?_) | (change X _ _ _ _ _ _) | (change C _ _ _ _ _ _ _))))); (all_goals (try simp only [xup_at, xup_ne, xup_up, ne_eq, Nat.reduceEqDiff, not_false_eq_true, Int.toNat_natCast, x_lcmp] at *)); (all_goals (try omega)))
  all_goals trace_state
  all_goals sorry
