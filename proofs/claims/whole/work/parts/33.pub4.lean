/-! public methods: hills, count, digest -/
theorem hlFr_wk {M M' : xM} {u : Nat} {p : Nat → Nat} {B : xB} (h : wkAt M u p B M') : hlFr M M' := fun a h1 h2 => h.1.1 a h1 (by omega) (by omega)
/-- the best way told by a variable -/
theorem c_findBest' {M : xM} {s d : Nat} (hh0 : hillOk M) (hs : s < 6) (hd : d < 6) (hsd : s ≠ d) : ∃ B : xB, B = hBest (cM M) (hM M) s d ∧ hbOk B ∧ ∀ Q : Option xV → xM → Prop, (∀ M', wkAt M 1 (fun _ => s) B M' → 0 < B.1 → Q (some (xI 1)) M') ∧ (∀ M', wkAt M 1 (fun _ => s) B M' → B.1 = 0 → Q (some (xI 0)) M') → xm 12 m_Hills_findBest [xR (some 45), xI s, xI d] M Q :=
  ⟨_, rfl, hBest_ok hh0.ch hs, fun Q h => c_findBest hh0 hs hd hsd h.1 h.2⟩
theorem c_findEnough' {M : xM} {s d : Nat} {c : Int} (hh0 : hillOk M) (hs : s < 6) (hd : d < 6) (hsd : s ≠ d) (hc : 1 ≤ c ∧ c ≤ 1000000000) : ∃ (B : xB) (E : xE2), B = hBest (cM M) (hM M) s d ∧ E = enR (cM M) (hM M) s d c ∧ hbOk B ∧ ∀ Q : Option xV → xM → Prop, (∀ M', hlFr M M' → B.1 = 0 ∨ E.1 = 0 → Q (some (xI 0)) M') ∧ (∀ M', hlFr M M' → 0 < B.1 → 0 < E.1 → M' 45 4 = B.2.2.1 → M' 45 9 = E.1 → (∀ j, j < B.2.2.1 - 1 → M' 63 j = E.2 j) → Q (some (xI 1)) M') → xm 14 m_Hills_findEnough [xR (some 45), xI s, xI d, xI c] M Q :=
  ⟨_, _, rfl, rfl, hBest_ok hh0.ch hs, fun Q h => c_findEnough hh0 hs hd hsd hc h.1 h.2⟩
theorem c_noPair {M : xM} {s d : Int} (hs : xrg s) (hd : xrg d) (hp : ¬ isPair s d) : ∀ Q' : Option xV → xM → Prop, Q' (some (xI 0)) M → xm 2 m_Hills_arePair [xI s, xI d] M Q' := fun _ h => c_arePair ⟨⟨hs, hd⟩, fun a => absurd a hp, fun _ => h⟩
set_option maxRecDepth 100000 in
set_option maxHeartbeats 600000 in
theorem p_wayN {M : xM} {Q : Option xV → xM → Prop} {s d : Int} (hs : xrg s) (hd : xrg d) (hp : ¬ isPair s d) (h : Q (some (xI (-2))) M) : xm 13 m_X_way [xR (some 1), xI s, xI d] M Q := by
  (refine xm_of (own := "DrumTongue") rfl (by decide +kernel) tk_X [some (xR (some 1)), some (xI s), some (xI d)] (Nat.le_of_ble_eq_true rfl) rfl ?_; intro D nx X C P hW)
  refine xg hW k_X_way [] 40 ?_
  ((repeat' (first | (with_reducible refine And.intro ?_ ?_) | (intro h0; exact absurd h0 (by decide)) | (intro _) | ((conv => whnf); (first | (with_reducible refine And.intro ?_ ?_) | (intro h0; exact absurd h0 (by decide)) | (intro _) | (refine hW.1 _ _ _ _ _ _ (c_noPair hs hd hp _ ?_) (by first | decide | omega) (by decide) (Nat.le_of_ble_eq_true rfl)))))); (all_goals (try omega)); (all_goals (try exact xnn (by omega))); (all_goals (try exact Nat.le_of_ble_eq_true rfl)); (all_goals (try ((conv => whnf); (first | (refine hW.2.1 _ _ ?_) | (change X _ _ _ _ _ _) | (change C _ _ _ _ _ _ _))))); (all_goals (try simp only [xup_at, xup_ne, xup_up, ne_eq, Nat.reduceEqDiff, not_false_eq_true, Int.toNat_natCast, x_lcmp] at *)); (all_goals (try omega)))
  all_goals exact h
set_option maxRecDepth 100000 in
set_option maxHeartbeats 600000 in
theorem p_way {M : xM} {Q : Option xV → xM → Prop} {s d : Nat} (hh0 : hillOk M) (hs : s < 6) (hd : d < 6) (hsd : s ≠ d) (h1 : ∀ M', hlFr M M' → 0 < (hBest (cM M) (hM M) s d).1 → Q (some (xI (hBest (cM M) (hM M) s d).1)) M') (h2 : ∀ M', hlFr M M' → (hBest (cM M) (hM M) s d).1 = 0 → Q (some (xI (-1))) M') : xm 13 m_X_way [xR (some 1), xI s, xI d] M Q := by
  obtain ⟨B, e, b, cf⟩ := c_findBest' hh0 hs hd hsd
  rw [← e] at h1 h2
  clear e
  (refine xm_of (own := "DrumTongue") rfl (by decide +kernel) tk_X [some (xR (some 1)), some (xI (s : Int)), some (xI (d : Int))] (Nat.le_of_ble_eq_true rfl) rfl ?_; intro D nx X C P hW)
  refine xg hW k_X_way [] 40 ?_
  ((repeat' (first | (with_reducible refine And.intro ?_ ?_) | (intro h0; exact absurd h0 (by decide)) | (intro _) | ((conv => whnf); (first | (with_reducible refine And.intro ?_ ?_) | (intro h0; exact absurd h0 (by decide)) | (intro _) | (refine hW.1 _ _ _ _ _ _ (c_arePairY ?_) (by first | decide | omega) (by decide) (Nat.le_of_ble_eq_true rfl)) | (refine hW.1 _ _ _ _ _ _ (cf _ ?_) (by first | decide | omega) (by decide) (Nat.le_of_ble_eq_true rfl)) | (refine hW.1 _ _ _ _ _ _ (c_bestChance ?_) (by first | decide | omega) (by decide) (Nat.le_of_ble_eq_true rfl)))))); (all_goals (try omega)); (all_goals (try exact xnn (by omega))); (all_goals (try exact Nat.le_of_ble_eq_true rfl)); (all_goals (try ((conv => whnf); (first | (refine hW.2.1 _ _ ?_) | (change X _ _ _ _ _ _) | (change C _ _ _ _ _ _ _))))); (all_goals (try simp only [xup_at, xup_ne, xup_up, ne_eq, Nat.reduceEqDiff, not_false_eq_true, Int.toNat_natCast, x_lcmp] at *)); (all_goals (try omega)))
  · rename_i M' f p _
    rw [f.2.1]
    exact h1 M' (hlFr_wk f) p
  · rename_i M' f p _
    exact h2 M' (hlFr_wk f) p
set_option maxRecDepth 100000 in
set_option maxHeartbeats 600000 in
theorem p_ageN {M : xM} {Q : Option xV → xM → Prop} {s d : Int} (hs : xrg s) (hd : xrg d) (hp : ¬ isPair s d) (h : Q (some (xI (-2))) M) : xm 13 m_X_age [xR (some 1), xI s, xI d] M Q := by
  (refine xm_of (own := "DrumTongue") rfl (by decide +kernel) tk_X [some (xR (some 1)), some (xI s), some (xI d)] (Nat.le_of_ble_eq_true rfl) rfl ?_; intro D nx X C P hW)
  refine xg hW k_X_age [] 40 ?_
  ((repeat' (first | (with_reducible refine And.intro ?_ ?_) | (intro h0; exact absurd h0 (by decide)) | (intro _) | ((conv => whnf); (first | (with_reducible refine And.intro ?_ ?_) | (intro h0; exact absurd h0 (by decide)) | (intro _) | (refine hW.1 _ _ _ _ _ _ (c_noPair hs hd hp _ ?_) (by first | decide | omega) (by decide) (Nat.le_of_ble_eq_true rfl)))))); (all_goals (try omega)); (all_goals (try exact xnn (by omega))); (all_goals (try exact Nat.le_of_ble_eq_true rfl)); (all_goals (try ((conv => whnf); (first | (refine hW.2.1 _ _ ?_) | (change X _ _ _ _ _ _) | (change C _ _ _ _ _ _ _))))); (all_goals (try simp only [xup_at, xup_ne, xup_up, ne_eq, Nat.reduceEqDiff, not_false_eq_true, Int.toNat_natCast, x_lcmp] at *)); (all_goals (try omega)))
  all_goals exact h
set_option maxRecDepth 100000 in
set_option maxHeartbeats 600000 in
theorem p_age {M : xM} {Q : Option xV → xM → Prop} {s d : Nat} (hh0 : hillOk M) (hs : s < 6) (hd : d < 6) (hsd : s ≠ d) (h1 : ∀ M', hlFr M M' → 0 < (hBest (cM M) (hM M) s d).1 → Q (some (xI (hBest (cM M) (hM M) s d).2.1)) M') (h2 : ∀ M', hlFr M M' → (hBest (cM M) (hM M) s d).1 = 0 → Q (some (xI (-1))) M') : xm 13 m_X_age [xR (some 1), xI s, xI d] M Q := by
  obtain ⟨B, e, b, cf⟩ := c_findBest' hh0 hs hd hsd
  rw [← e] at h1 h2
  clear e
  (refine xm_of (own := "DrumTongue") rfl (by decide +kernel) tk_X [some (xR (some 1)), some (xI (s : Int)), some (xI (d : Int))] (Nat.le_of_ble_eq_true rfl) rfl ?_; intro D nx X C P hW)
  refine xg hW k_X_age [] 40 ?_
  ((repeat' (first | (with_reducible refine And.intro ?_ ?_) | (intro h0; exact absurd h0 (by decide)) | (intro _) | ((conv => whnf); (first | (with_reducible refine And.intro ?_ ?_) | (intro h0; exact absurd h0 (by decide)) | (intro _) | (refine hW.1 _ _ _ _ _ _ (c_arePairY ?_) (by first | decide | omega) (by decide) (Nat.le_of_ble_eq_true rfl)) | (refine hW.1 _ _ _ _ _ _ (cf _ ?_) (by first | decide | omega) (by decide) (Nat.le_of_ble_eq_true rfl)) | (refine hW.1 _ _ _ _ _ _ (c_bestHours ?_) (by first | decide | omega) (by decide) (Nat.le_of_ble_eq_true rfl)))))); (all_goals (try omega)); (all_goals (try exact xnn (by omega))); (all_goals (try exact Nat.le_of_ble_eq_true rfl)); (all_goals (try ((conv => whnf); (first | (refine hW.2.1 _ _ ?_) | (change X _ _ _ _ _ _) | (change C _ _ _ _ _ _ _))))); (all_goals (try simp only [xup_at, xup_ne, xup_up, ne_eq, Nat.reduceEqDiff, not_false_eq_true, Int.toNat_natCast, x_lcmp] at *)); (all_goals (try omega)))
  · rename_i M' f p _
    rw [f.2.2.1]
    exact h1 M' (hlFr_wk f) p
  · rename_i M' f p _
    exact h2 M' (hlFr_wk f) p
set_option maxRecDepth 100000 in
set_option maxHeartbeats 600000 in
theorem p_wayAtN {M : xM} {Q : Option xV → xM → Prop} {s d i : Int} (hs : xrg s) (hd : xrg d) (hp : ¬ isPair s d) (h : Q (some (xI (-2))) M) : xm 13 m_X_wayAt [xR (some 1), xI s, xI d, xI i] M Q := by
  (refine xm_of (own := "DrumTongue") rfl (by decide +kernel) tk_X [some (xR (some 1)), some (xI s), some (xI d), some (xI i)] (Nat.le_of_ble_eq_true rfl) rfl ?_; intro D nx X C P hW)
  refine xg hW k_X_wayAt [] 40 ?_
  ((repeat' (first | (with_reducible refine And.intro ?_ ?_) | (intro h0; exact absurd h0 (by decide)) | (intro _) | ((conv => whnf); (first | (with_reducible refine And.intro ?_ ?_) | (intro h0; exact absurd h0 (by decide)) | (intro _) | (refine hW.1 _ _ _ _ _ _ (c_noPair hs hd hp _ ?_) (by first | decide | omega) (by decide) (Nat.le_of_ble_eq_true rfl)))))); (all_goals (try omega)); (all_goals (try exact xnn (by omega))); (all_goals (try exact Nat.le_of_ble_eq_true rfl)); (all_goals (try ((conv => whnf); (first | (refine hW.2.1 _ _ ?_) | (change X _ _ _ _ _ _) | (change C _ _ _ _ _ _ _))))); (all_goals (try simp only [xup_at, xup_ne, xup_up, ne_eq, Nat.reduceEqDiff, not_false_eq_true, Int.toNat_natCast, x_lcmp] at *)); (all_goals (try omega)))
  all_goals exact h
set_option maxRecDepth 100000 in
set_option maxHeartbeats 600000 in
theorem p_wayAt {M : xM} {Q : Option xV → xM → Prop} {s d : Nat} {i : Int} (hh0 : hillOk M) (hs : s < 6) (hd : d < 6) (hsd : s ≠ d) (hi : xrg i) (h1 : ∀ M', hlFr M M' → 0 < (hBest (cM M) (hM M) s d).1 → 0 ≤ i → i < (hBest (cM M) (hM M) s d).2.2.1 → Q (some (xI ((hBest (cM M) (hM M) s d).2.2.2 i.toNat : Nat))) M') (h2 : ∀ M', hlFr M M' → (hBest (cM M) (hM M) s d).1 = 0 ∨ i < 0 ∨ ((hBest (cM M) (hM M) s d).2.2.1 : Int) ≤ i → Q (some (xI (-1))) M') : xm 13 m_X_wayAt [xR (some 1), xI s, xI d, xI i] M Q := by
  obtain ⟨B, e, b, cf⟩ := c_findBest' hh0 hs hd hsd
  rw [← e] at h1 h2
  clear e
  (refine xm_of (own := "DrumTongue") rfl (by decide +kernel) tk_X [some (xR (some 1)), some (xI (s : Int)), some (xI (d : Int)), some (xI i)] (Nat.le_of_ble_eq_true rfl) rfl ?_; intro D nx X C P hW)
  refine xg hW k_X_wayAt [] 40 ?_
  ((repeat' (first | (with_reducible refine And.intro ?_ ?_) | (intro h0; exact absurd h0 (by decide)) | (intro _) | ((conv => whnf); (first | (with_reducible refine And.intro ?_ ?_) | (intro h0; exact absurd h0 (by decide)) | (intro _) | (refine hW.1 _ _ _ _ _ _ (c_arePairY ?_) (by first | decide | omega) (by decide) (Nat.le_of_ble_eq_true rfl)) | (refine hW.1 _ _ _ _ _ _ (cf _ ?_) (by first | decide | omega) (by decide) (Nat.le_of_ble_eq_true rfl)))))); (all_goals (try omega)); (all_goals (try exact xnn (by omega))); (all_goals (try exact Nat.le_of_ble_eq_true rfl)); (all_goals (try ((conv => whnf); (first | (refine hW.2.1 _ _ ?_) | (change X _ _ _ _ _ _) | (change C _ _ _ _ _ _ _))))); (all_goals (try simp only [xup_at, xup_ne, xup_up, ne_eq, Nat.reduceEqDiff, not_false_eq_true, Int.toNat_natCast, x_lcmp] at *)); (all_goals (try omega)))
  · rename_i M' f p _
    obtain ⟨b1, b2, b3, b4, b5, b6⟩ := b
    have b7 := b5 p
    have e4 : M' 45 4 = (B.2.2.1 : Int) := f.2.2.2.1
    ((repeat' (first | (with_reducible refine And.intro ?_ ?_) | (intro h0; exact absurd h0 (by decide)) | (intro _) | ((conv => whnf); (first | (with_reducible refine And.intro ?_ ?_) | (intro h0; exact absurd h0 (by decide)) | (intro _) | (refine hW.1 _ _ _ _ _ _ (c_bestAt ?_) (by first | decide | omega) (by decide) (Nat.le_of_ble_eq_true rfl)))))); (all_goals (try omega)); (all_goals (try exact xnn (by omega))); (all_goals (try exact Nat.le_of_ble_eq_true rfl)); (all_goals (try ((conv => whnf); (first | (refine hW.2.1 _ _ ?_) | (change X _ _ _ _ _ _) | (change C _ _ _ _ _ _ _))))); (all_goals (try simp only [xup_at, xup_ne, xup_up, ne_eq, Nat.reduceEqDiff, not_false_eq_true, Int.toNat_natCast, x_lcmp] at *)); (all_goals (try omega)))
    all_goals first | exact hi | (rw [f.2.2.2.2.1 _ (by omega)]; exact h1 M' (hlFr_wk f) p (by omega) (by omega)) | exact h2 M' (hlFr_wk f) (by omega) | trace_state
  · rename_i M' f p _
    ((repeat' (first | (with_reducible refine And.intro ?_ ?_) | (intro h0; exact absurd h0 (by decide)) | (intro _) | ((conv => whnf); (first | (with_reducible refine And.intro ?_ ?_) | (intro h0; exact absurd h0 (by decide)) | (intro _))))); (all_goals (try omega)); (all_goals (try exact xnn (by omega))); (all_goals (try exact Nat.le_of_ble_eq_true rfl)); (all_goals (try ((conv => whnf); (first | (refine hW.2.1 _ _ ?_) | (change X _ _ _ _ _ _) | (change C _ _ _ _ _ _ _))))); (all_goals (try simp only [xup_at, xup_ne, xup_up, ne_eq, Nat.reduceEqDiff, not_false_eq_true, Int.toNat_natCast, x_lcmp] at *)); (all_goals (try omega)))
    exact h2 M' (hlFr_wk f) (Or.inl p)
set_option maxRecDepth 100000 in
set_option maxHeartbeats 600000 in
theorem p_enoughN {M : xM} {Q : Option xV → xM → Prop} {s d c : Int} (hs : xrg s) (hd : xrg d) (hc : xrg c) (hp : ¬ (isPair s d ∧ 1 ≤ c ∧ c ≤ 1000000000)) (h : Q (some (xI (-2))) M) : xm 15 m_X_enough [xR (some 1), xI s, xI d, xI c] M Q := by
  have hc1 := hc.1
  have hc2 := hc.2
  by_cases q : isPair s d
  · have q3 : ¬ (1 ≤ c ∧ c ≤ 1000000000) := fun r => hp ⟨q, r⟩
    have q' : 0 ≤ s ∧ s < 6 ∧ 0 ≤ d ∧ d < 6 ∧ s ≠ d := q
    obtain ⟨r1, r2, r3, r4, r5⟩ := q'
    (refine xm_of (own := "DrumTongue") rfl (by decide +kernel) tk_X [some (xR (some 1)), some (xI s), some (xI d), some (xI c)] (Nat.le_of_ble_eq_true rfl) rfl ?_; intro D nx X C P hW)
    refine xg hW k_X_enough [22] 40 ?_
    ((repeat' (first | (with_reducible refine And.intro ?_ ?_) | (intro h0; exact absurd h0 (by decide)) | (intro _) | ((conv => whnf); (first | (with_reducible refine And.intro ?_ ?_) | (intro h0; exact absurd h0 (by decide)) | (intro _) | (refine hW.1 _ _ _ _ _ _ (c_arePairY ?_) (by first | decide | omega) (by decide) (Nat.le_of_ble_eq_true rfl)))))); (all_goals (try omega)); (all_goals (try exact xnn (by omega))); (all_goals (try exact Nat.le_of_ble_eq_true rfl)); (all_goals (try ((conv => whnf); (first | (refine hW.2.1 _ _ ?_) | (change X _ _ _ _ _ _) | (change C _ _ _ _ _ _ _))))); (all_goals (try simp only [xup_at, xup_ne, xup_up, ne_eq, Nat.reduceEqDiff, not_false_eq_true, Int.toNat_natCast, x_lcmp] at *)); (all_goals (try omega)))
    all_goals first | exact h | exact r5 (by assumption) | omega
  · (refine xm_of (own := "DrumTongue") rfl (by decide +kernel) tk_X [some (xR (some 1)), some (xI s), some (xI d), some (xI c)] (Nat.le_of_ble_eq_true rfl) rfl ?_; intro D nx X C P hW)
    refine xg hW k_X_enough [] 40 ?_
    ((repeat' (first | (with_reducible refine And.intro ?_ ?_) | (intro h0; exact absurd h0 (by decide)) | (intro _) | ((conv => whnf); (first | (with_reducible refine And.intro ?_ ?_) | (intro h0; exact absurd h0 (by decide)) | (intro _) | (refine hW.1 _ _ _ _ _ _ (c_noPair hs hd q _ ?_) (by first | decide | omega) (by decide) (Nat.le_of_ble_eq_true rfl)))))); (all_goals (try omega)); (all_goals (try exact xnn (by omega))); (all_goals (try exact Nat.le_of_ble_eq_true rfl)); (all_goals (try ((conv => whnf); (first | (refine hW.2.1 _ _ ?_) | (change X _ _ _ _ _ _) | (change C _ _ _ _ _ _ _))))); (all_goals (try simp only [xup_at, xup_ne, xup_up, ne_eq, Nat.reduceEqDiff, not_false_eq_true, Int.toNat_natCast, x_lcmp] at *)); (all_goals (try omega)))
    all_goals exact h
set_option maxRecDepth 100000 in
set_option maxHeartbeats 600000 in
theorem p_enough {M : xM} {Q : Option xV → xM → Prop} {s d : Nat} {c : Int} (hh0 : hillOk M) (hs : s < 6) (hd : d < 6) (hsd : s ≠ d) (hc : 1 ≤ c ∧ c ≤ 1000000000) (h1 : ∀ M', hlFr M M' → 0 < (hBest (cM M) (hM M) s d).1 → 0 < (enR (cM M) (hM M) s d c).1 → Q (some (xI (enR (cM M) (hM M) s d c).1)) M') (h2 : ∀ M', hlFr M M' → (hBest (cM M) (hM M) s d).1 = 0 ∨ (enR (cM M) (hM M) s d c).1 = 0 → Q (some (xI (-1))) M') : xm 15 m_X_enough [xR (some 1), xI s, xI d, xI c] M Q := by
  obtain ⟨B, E, e, e', b, cf⟩ := c_findEnough' hh0 hs hd hsd hc
  rw [← e, ← e'] at h1 h2
  clear e e'
  (refine xm_of (own := "DrumTongue") rfl (by decide +kernel) tk_X [some (xR (some 1)), some (xI (s : Int)), some (xI (d : Int)), some (xI c)] (Nat.le_of_ble_eq_true rfl) rfl ?_; intro D nx X C P hW)
  refine xg hW k_X_enough [] 40 ?_
  ((repeat' (first | (with_reducible refine And.intro ?_ ?_) | (intro h0; exact absurd h0 (by decide)) | (intro _) | ((conv => whnf); (first | (with_reducible refine And.intro ?_ ?_) | (intro h0; exact absurd h0 (by decide)) | (intro _) | (refine hW.1 _ _ _ _ _ _ (c_arePairY ?_) (by first | decide | omega) (by decide) (Nat.le_of_ble_eq_true rfl)) | (refine hW.1 _ _ _ _ _ _ (cf _ ?_) (by first | decide | omega) (by decide) (Nat.le_of_ble_eq_true rfl)) | (refine hW.1 _ _ _ _ _ _ (c_enoughSum ?_) (by first | decide | omega) (by decide) (Nat.le_of_ble_eq_true rfl)))))); (all_goals (try omega)); (all_goals (try exact xnn (by omega))); (all_goals (try exact Nat.le_of_ble_eq_true rfl)); (all_goals (try ((conv => whnf); (first | (refine hW.2.1 _ _ ?_) | (change X _ _ _ _ _ _) | (change C _ _ _ _ _ _ _))))); (all_goals (try simp only [xup_at, xup_ne, xup_up, ne_eq, Nat.reduceEqDiff, not_false_eq_true, Int.toNat_natCast, x_lcmp] at *)); (all_goals (try omega)))
  · rename_i M' f p _
    exact h2 M' f p
  · rename_i M' f p1 p2 e4 e9 e63 _
    rw [e9]
    exact h1 M' f p1 p2
set_option maxRecDepth 100000 in
set_option maxHeartbeats 600000 in
theorem p_timesN {M : xM} {Q : Option xV → xM → Prop} {s d c i : Int} (hs : xrg s) (hd : xrg d) (hc : xrg c) (hp : ¬ (isPair s d ∧ 1 ≤ c ∧ c ≤ 1000000000)) (h : Q (some (xI (-2))) M) : xm 15 m_X_times [xR (some 1), xI s, xI d, xI c, xI i] M Q := by
  have hc1 := hc.1
  have hc2 := hc.2
  by_cases q : isPair s d
  · have q3 : ¬ (1 ≤ c ∧ c ≤ 1000000000) := fun r => hp ⟨q, r⟩
    have q' : 0 ≤ s ∧ s < 6 ∧ 0 ≤ d ∧ d < 6 ∧ s ≠ d := q
    obtain ⟨r1, r2, r3, r4, r5⟩ := q'
    (refine xm_of (own := "DrumTongue") rfl (by decide +kernel) tk_X [some (xR (some 1)), some (xI s), some (xI d), some (xI c), some (xI i)] (Nat.le_of_ble_eq_true rfl) rfl ?_; intro D nx X C P hW)
    refine xg hW k_X_times [22] 40 ?_
    ((repeat' (first | (with_reducible refine And.intro ?_ ?_) | (intro h0; exact absurd h0 (by decide)) | (intro _) | ((conv => whnf); (first | (with_reducible refine And.intro ?_ ?_) | (intro h0; exact absurd h0 (by decide)) | (intro _) | (refine hW.1 _ _ _ _ _ _ (c_arePairY ?_) (by first | decide | omega) (by decide) (Nat.le_of_ble_eq_true rfl)))))); (all_goals (try omega)); (all_goals (try exact xnn (by omega))); (all_goals (try exact Nat.le_of_ble_eq_true rfl)); (all_goals (try ((conv => whnf); (first | (refine hW.2.1 _ _ ?_) | (change X _ _ _ _ _ _) | (change C _ _ _ _ _ _ _))))); (all_goals (try simp only [xup_at, xup_ne, xup_up, ne_eq, Nat.reduceEqDiff, not_false_eq_true, Int.toNat_natCast, x_lcmp] at *)); (all_goals (try omega)))
    all_goals first | exact h | exact r5 (by assumption) | omega
  · (refine xm_of (own := "DrumTongue") rfl (by decide +kernel) tk_X [some (xR (some 1)), some (xI s), some (xI d), some (xI c), some (xI i)] (Nat.le_of_ble_eq_true rfl) rfl ?_; intro D nx X C P hW)
    refine xg hW k_X_times [] 40 ?_
    ((repeat' (first | (with_reducible refine And.intro ?_ ?_) | (intro h0; exact absurd h0 (by decide)) | (intro _) | ((conv => whnf); (first | (with_reducible refine And.intro ?_ ?_) | (intro h0; exact absurd h0 (by decide)) | (intro _) | (refine hW.1 _ _ _ _ _ _ (c_noPair hs hd q _ ?_) (by first | decide | omega) (by decide) (Nat.le_of_ble_eq_true rfl)))))); (all_goals (try omega)); (all_goals (try exact xnn (by omega))); (all_goals (try exact Nat.le_of_ble_eq_true rfl)); (all_goals (try ((conv => whnf); (first | (refine hW.2.1 _ _ ?_) | (change X _ _ _ _ _ _) | (change C _ _ _ _ _ _ _))))); (all_goals (try simp only [xup_at, xup_ne, xup_up, ne_eq, Nat.reduceEqDiff, not_false_eq_true, Int.toNat_natCast, x_lcmp] at *)); (all_goals (try omega)))
    all_goals exact h
set_option maxRecDepth 100000 in
set_option maxHeartbeats 600000 in
theorem p_times {M : xM} {Q : Option xV → xM → Prop} {s d : Nat} {c i : Int} (hh0 : hillOk M) (hs : s < 6) (hd : d < 6) (hsd : s ≠ d) (hc : 1 ≤ c ∧ c ≤ 1000000000) (hi : xrg i) (h1 : ∀ M', hlFr M M' → 0 < (hBest (cM M) (hM M) s d).1 → 0 < (enR (cM M) (hM M) s d c).1 → 0 ≤ i → i < ((hBest (cM M) (hM M) s d).2.2.1 : Int) - 1 → Q (some (xI ((enR (cM M) (hM M) s d c).2 i.toNat))) M') (h2 : ∀ M', hlFr M M' → (hBest (cM M) (hM M) s d).1 = 0 ∨ (enR (cM M) (hM M) s d c).1 = 0 ∨ i < 0 ∨ ((hBest (cM M) (hM M) s d).2.2.1 : Int) - 1 ≤ i → Q (some (xI (-1))) M') : xm 15 m_X_times [xR (some 1), xI s, xI d, xI c, xI i] M Q := by
  obtain ⟨B, E, e, e', b, cf⟩ := c_findEnough' hh0 hs hd hsd hc
  rw [← e, ← e'] at h1 h2
  clear e e'
  (refine xm_of (own := "DrumTongue") rfl (by decide +kernel) tk_X [some (xR (some 1)), some (xI (s : Int)), some (xI (d : Int)), some (xI c), some (xI i)] (Nat.le_of_ble_eq_true rfl) rfl ?_; intro D nx X C P hW)
  refine xg hW k_X_times [] 40 ?_
  ((repeat' (first | (with_reducible refine And.intro ?_ ?_) | (intro h0; exact absurd h0 (by decide)) | (intro _) | ((conv => whnf); (first | (with_reducible refine And.intro ?_ ?_) | (intro h0; exact absurd h0 (by decide)) | (intro _) | (refine hW.1 _ _ _ _ _ _ (c_arePairY ?_) (by first | decide | omega) (by decide) (Nat.le_of_ble_eq_true rfl)) | (refine hW.1 _ _ _ _ _ _ (cf _ ?_) (by first | decide | omega) (by decide) (Nat.le_of_ble_eq_true rfl)))))); (all_goals (try omega)); (all_goals (try exact xnn (by omega))); (all_goals (try exact Nat.le_of_ble_eq_true rfl)); (all_goals (try ((conv => whnf); (first | (refine hW.2.1 _ _ ?_) | (change X _ _ _ _ _ _) | (change C _ _ _ _ _ _ _))))); (all_goals (try simp only [xup_at, xup_ne, xup_up, ne_eq, Nat.reduceEqDiff, not_false_eq_true, Int.toNat_natCast, x_lcmp] at *)); (all_goals (try omega)))
  · rename_i M' f p _
    ((repeat' (first | (with_reducible refine And.intro ?_ ?_) | (intro h0; exact absurd h0 (by decide)) | (intro _) | ((conv => whnf); (first | (with_reducible refine And.intro ?_ ?_) | (intro h0; exact absurd h0 (by decide)) | (intro _))))); (all_goals (try omega)); (all_goals (try exact xnn (by omega))); (all_goals (try exact Nat.le_of_ble_eq_true rfl)); (all_goals (try ((conv => whnf); (first | (refine hW.2.1 _ _ ?_) | (change X _ _ _ _ _ _) | (change C _ _ _ _ _ _ _))))); (all_goals (try simp only [xup_at, xup_ne, xup_up, ne_eq, Nat.reduceEqDiff, not_false_eq_true, Int.toNat_natCast, x_lcmp] at *)); (all_goals (try omega)))
    exact h2 M' f (by omega)
  · rename_i M' f p1 p2 e4 e9 e63 _
    obtain ⟨b1, b2, b3, b4, b5, b6⟩ := b
    have b7 := b5 p1
    ((repeat' (first | (with_reducible refine And.intro ?_ ?_) | (intro h0; exact absurd h0 (by decide)) | (intro _) | ((conv => whnf); (first | (with_reducible refine And.intro ?_ ?_) | (intro h0; exact absurd h0 (by decide)) | (intro _) | (refine hW.1 _ _ _ _ _ _ (c_enoughAt ?_) (by first | decide | omega) (by decide) (Nat.le_of_ble_eq_true rfl)))))); (all_goals (try omega)); (all_goals (try exact xnn (by omega))); (all_goals (try exact Nat.le_of_ble_eq_true rfl)); (all_goals (try ((conv => whnf); (first | (refine hW.2.1 _ _ ?_) | (change X _ _ _ _ _ _) | (change C _ _ _ _ _ _ _))))); (all_goals (try simp only [xup_at, xup_ne, xup_up, ne_eq, Nat.reduceEqDiff, not_false_eq_true, Int.toNat_natCast, x_lcmp] at *)); (all_goals (try omega)))
    all_goals first | exact hi | (rw [e63 _ (by omega)]; exact h1 M' f p1 p2 (by omega) (by omega)) | exact h2 M' f (by omega) | trace_state
/-- what count answers -/
def cntV (M : xM) (x : Int) : Int := if x = 0 then M 3 2 else if x = 1 then M 6 2 else if x = 2 then M 2 6 else if x = 3 then cntP (M 15) (M 3 2).toNat else if x = 4 then sumP (M 15) (M 16) (M 3 2).toNat else if x = 5 then M 23 1 else if x = 6 then cntG (M 24) (M 23 1).toNat else if x = 7 then M 25 3 else -2
set_option maxRecDepth 100000 in
set_option maxHeartbeats 600000 in
theorem p_count {M : xM} {Q : Option xV → xM → Prop} {x : Int} (hp : phOk M) (hw : 0 ≤ M 3 2 ∧ M 3 2 ≤ 10) (he : earOk M) (hx : xrg x) (h : Q (some (xI (cntV M x))) M) : xm 4 m_X_count [xR (some 1), xI x] M Q := by
  have hx1 := hx.1
  have hx2 := hx.2
  unfold cntV at h
  (refine xm_of (own := "DrumTongue") rfl (by decide +kernel) tk_X [some (xR (some 1)), some (xI x)] (Nat.le_of_ble_eq_true rfl) rfl ?_; intro D nx X C P hW)
  refine xg hW k_X_count [] 40 ?_
  ((repeat' (first | (with_reducible refine And.intro ?_ ?_) | (intro h0; exact absurd h0 (by decide)) | (intro _) | ((conv => whnf); (first | (with_reducible refine And.intro ?_ ?_) | (intro h0; exact absurd h0 (by decide)) | (intro _) | (refine hW.1 _ _ _ _ _ _ (c_wordCount ?_) (by first | decide | omega) (by decide) (Nat.le_of_ble_eq_true rfl)) | (refine hW.1 _ _ _ _ _ _ (c_endingCount ?_) (by first | decide | omega) (by decide) (Nat.le_of_ble_eq_true rfl)) | (refine hW.1 _ _ _ _ _ _ (c_boundNow ?_) (by first | decide | omega) (by decide) (Nat.le_of_ble_eq_true rfl)) | (refine hW.1 _ _ _ _ _ _ (c_phraseCount hp hw ?_) (by first | decide | omega) (by decide) (Nat.le_of_ble_eq_true rfl)) | (refine hW.1 _ _ _ _ _ _ (c_beatsOfAll hp hw ?_) (by first | decide | omega) (by decide) (Nat.le_of_ble_eq_true rfl)) | (refine hW.1 _ _ _ _ _ _ (c_earSize ?_) (by first | decide | omega) (by decide) (Nat.le_of_ble_eq_true rfl)) | (refine hW.1 _ _ _ _ _ _ (c_earGaps he ?_) (by first | decide | omega) (by decide) (Nat.le_of_ble_eq_true rfl)) | (refine hW.1 _ _ _ _ _ _ (c_lastSize ?_) (by first | decide | omega) (by decide) (Nat.le_of_ble_eq_true rfl)))))); (all_goals (try omega)); (all_goals (try exact xnn (by omega))); (all_goals (try exact Nat.le_of_ble_eq_true rfl)); (all_goals (try ((conv => whnf); (first | (refine hW.2.1 _ _ ?_) | (change X _ _ _ _ _ _) | (change C _ _ _ _ _ _ _))))); (all_goals (try simp only [xup_at, xup_ne, xup_up, ne_eq, Nat.reduceEqDiff, not_false_eq_true, Int.toNat_natCast, x_lcmp] at *)); (all_goals (try omega)))
  all_goals first | exact True.intro | rfl | (rw [if_neg (by omega), if_neg (by omega), if_neg (by omega), if_neg (by omega), if_neg (by omega), if_neg (by omega), if_neg (by omega), if_neg (by omega)] at h; exact h) | (rename_i q; (try simp only [Int.reduceAdd] at q); subst q; simpa using h) | trace_state
/-- the counts, mixed -/
def mixC (M : xM) : Nat → Int
  | 0 => 241
  | k + 1 => 31 * mixC M k + cntV M (k : Nat)
/-- what digest answers -/
def digV (M : xM) : Int := mixG (cM M) (hM M) (mixH (M 26) (mixH (M 24) (mixWs (M 15) (M 16) (M 17) (M 13) (M 14) (mixC M 8) (M 3 2).toNat) (M 23 1).toNat) (M 25 3).toNat) 6
theorem cntG_rg (f : Nat → Int) : ∀ k, 0 ≤ cntG f k ∧ cntG f k ≤ k
  | 0 => ⟨Int.le_refl _, Int.le_refl _⟩
  | k + 1 => by
    have := cntG_rg f k
    rw [cntG]
    split <;> omega
theorem sumP_rg {c s : Nat → Int} : ∀ k, (∀ w, w < k → c w ≠ -1 → 0 ≤ s w ∧ s w ≤ 18) → 0 ≤ sumP c s k ∧ sumP c s k ≤ 18 * k
  | 0, _ => ⟨Int.le_refl _, Int.le_refl _⟩
  | k + 1, h => by
    have h1 := sumP_rg k (fun w hw => h w (by omega))
    rw [sumP]
    by_cases q : c k = -1
    · simp only [q, if_true]
      omega
    · have := h k (by omega) q
      simp only [q, if_false]
      omega
theorem cntV_rg {M : xM} (hp : phOk M) (hw : 0 ≤ M 3 2 ∧ M 3 2 ≤ 10) (he : earOk M) (h6 : 0 ≤ M 6 2 ∧ M 6 2 ≤ 5) (hb : 1 ≤ M 2 6 ∧ M 2 6 ≤ 9) (hn : 0 ≤ M 25 3 ∧ M 25 3 ≤ 12) (x : Int) : xrg (cntV M x) := by
  have a1 := cntP_rg (M 15) (M 3 2).toNat
  have a2 := sumP_rg (c := M 15) (s := M 16) (M 3 2).toNat (fun w hw' hc => by
    obtain ⟨s0, s1, s2, s3⟩ := (hp w (by omega)).2.2 hc
    exact ⟨s1, s2⟩)
  have a3 := cntG_rg (M 24) (M 23 1).toNat
  have a4 := he.1
  have a5 := he.2.1
  unfold cntV xrg
  repeat' split
  all_goals omega
set_option maxRecDepth 100000 in
set_option maxHeartbeats 600000 in
theorem p_digest {M : xM} {Q : Option xV → xM → Prop} (hw : 0 ≤ M 3 2 ∧ M 3 2 ≤ 10) (ht : 0 ≤ M 10 2 ∧ M 10 2 ≤ 31) (hp : phOk M) (hg : gvOk M) (hab : ∀ t : Nat, (t : Int) < M 10 2 → xrg (M 13 t) ∧ xrg (M 14 t)) (he : earOk M) (h6 : 0 ≤ M 6 2 ∧ M 6 2 ≤ 5) (hb : 1 ≤ M 2 6 ∧ M 2 6 ≤ 9) (hn : 0 ≤ M 25 3 ∧ M 25 3 ≤ 12) (hr : ∀ i : Nat, (i : Int) < M 25 3 → xrg (M 26 i)) (hh : hillOk M) (h : Q (some (xJ (digV M))) M) : xm 5 m_X_digest [xR (some 1)] M Q := by
  have hx := cntV_rg hp hw he h6 hb hn
  unfold digV at h
  have cc : ∀ (k : Nat) (Q' : Option xV → xM → Prop), k < 8 → Q' (some (xI (cntV M k))) M → xm 4 m_X_count [xR (some 1), xI (k : Int)] M Q' := fun k Q' hk q => p_count hp hw he ⟨by omega, by omega⟩ q
  (refine xm_of (own := "DrumTongue") rfl (by decide +kernel) tk_X [some (xR (some 1)), none, none, none] (Nat.le_of_ble_eq_true rfl) rfl ?_; intro D nx X C P hW)
  have loop : ∀ (m k : Nat), k + m = 8 → X 6 [some (xR (some 1)), some (xJ (mixC M k)), none, some (xI (k : Int))] [] (M, D, nx) 0 0 := by
    intro m
    induction m with
    | zero =>
      intro k hk
      obtain rfl : k = 8 := by omega
      generalize mixC M 8 = h0 at *
      refine xg hW k_X_digest [6] 40 ?_
      ((repeat' (first | (with_reducible refine And.intro ?_ ?_) | (intro h0; exact absurd h0 (by decide)) | (intro _) | ((conv => whnf); (first | (with_reducible refine And.intro ?_ ?_) | (intro h0; exact absurd h0 (by decide)) | (intro _) | (refine hW.1 _ _ _ _ _ _ (c_mixTongue hw ht hp hg hab ?_) (by first | decide | omega) (by decide) (Nat.le_of_ble_eq_true rfl)) | (refine hW.1 _ _ _ _ _ _ (c_earMix he ?_) (by first | decide | omega) (by decide) (Nat.le_of_ble_eq_true rfl)) | (refine hW.1 _ _ _ _ _ _ (c_readMix hn hr ?_) (by first | decide | omega) (by decide) (Nat.le_of_ble_eq_true rfl)) | (refine hW.1 _ _ _ _ _ _ (c_mixHills hh ?_) (by first | decide | omega) (by decide) (Nat.le_of_ble_eq_true rfl)))))); (all_goals (try omega)); (all_goals (try exact xnn (by omega))); (all_goals (try exact Nat.le_of_ble_eq_true rfl)); (all_goals (try ((conv => whnf); (first | (refine hW.2.1 _ _ ?_) | (change X _ _ _ _ _ _) | (change C _ _ _ _ _ _ _))))); (all_goals (try simp only [xup_at, xup_ne, xup_up, ne_eq, Nat.reduceEqDiff, not_false_eq_true, Int.toNat_natCast, x_lcmp] at *)); (all_goals (try omega)))
      all_goals exact h
    | succ m ih =>
      intro k hk
      have h5 := ih (k + 1) (by omega)
      rw [mixC] at h5
      have h6 := hx k
      have c1 := cc k
      clear cc ih h
      generalize mixC M k = h0 at *
      generalize cntV M k = v at *
      obtain ⟨v1, v2⟩ := h6
      refine xg hW k_X_digest [6] 40 ?_
      ((repeat' (first | (with_reducible refine And.intro ?_ ?_) | (intro h0; exact absurd h0 (by decide)) | (intro _) | ((conv => whnf); (first | (with_reducible refine And.intro ?_ ?_) | (intro h0; exact absurd h0 (by decide)) | (intro _) | (refine hW.1 _ _ _ _ _ _ (c1 _ (by omega) ?_) (by first | decide | omega) (by decide) (Nat.le_of_ble_eq_true rfl)))))); (all_goals (try omega)); (all_goals (try exact xnn (by omega))); (all_goals (try exact Nat.le_of_ble_eq_true rfl)); (all_goals (try ((conv => whnf); (first | (refine hW.2.1 _ _ ?_) | (change X _ _ _ _ _ _) | (change C _ _ _ _ _ _ _))))); (all_goals (try simp only [xup_at, xup_ne, xup_up, ne_eq, Nat.reduceEqDiff, not_false_eq_true, Int.toNat_natCast, x_lcmp] at *)); (all_goals (try omega)))
      exact h5
  have h5 := loop 8 0 (by omega)
  clear loop cc
  refine xg hW k_X_digest [6] 40 ?_
  ((repeat' (first | (with_reducible refine And.intro ?_ ?_) | (intro h0; exact absurd h0 (by decide)) | (intro _) | ((conv => whnf); (first | (with_reducible refine And.intro ?_ ?_) | (intro h0; exact absurd h0 (by decide)) | (intro _))))); (all_goals (try omega)); (all_goals (try exact xnn (by omega))); (all_goals (try exact Nat.le_of_ble_eq_true rfl)); (all_goals (try ((conv => whnf); (first | (refine hW.2.1 _ _ ?_) | (change X _ _ _ _ _ _) | (change C _ _ _ _ _ _ _))))); (all_goals (try simp only [xup_at, xup_ne, xup_up, ne_eq, Nat.reduceEqDiff, not_false_eq_true, Int.toNat_natCast, x_lcmp] at *)); (all_goals (try omega)))
  exact h5
