/-! the reference: way, wayAt, age -/
theorem z_look' {M : xM} {s d : Nat} (hh : hillOk M) (hg : relG M) (hs : s < 6) (hd : d < 6) (hsd : s ≠ d) : ∃ B : xB, B = hBest (cM M) (hM M) s d ∧ hbOk B ∧ ∀ Q : Option xV → xM → Prop, (∀ M', lkFr M M' → lkB M' B → Q none M') → xm 1 m_M_look [xR (some 64), xI (s : Int), xI (d : Int)] M Q := ⟨_, rfl, hBest_ok hh.ch hs, fun Q h => z_look hh hg hs hd hsd (fun M' a b _ => h M' a b)⟩
theorem z_pairY {M : xM} {s d : Nat} (hs : s < 6) (hd : d < 6) (hsd : s ≠ d) : ∀ Q' : Option xV → xM → Prop, Q' (some (xI 1)) M → xm 3 m_M_areHills [xI (s : Int), xI (d : Int)] M Q' := fun _ h => z_areHills ⟨⟨⟨by omega, by omega⟩, by omega, by omega⟩, fun _ => h, fun q => absurd (show isPair (s : Int) (d : Int) from ⟨by omega, by omega, by omega, by omega, by omega⟩) q⟩
theorem z_pairN {M : xM} {s d : Int} (hs : xrg s) (hd : xrg d) (hp : ¬ isPair s d) : ∀ Q' : Option xV → xM → Prop, Q' (some (xI 0)) M → xm 3 m_M_areHills [xI s, xI d] M Q' := fun _ h => z_areHills ⟨⟨hs, hd⟩, fun a => absurd a hp, fun _ => h⟩
set_option maxRecDepth 100000 in
set_option maxHeartbeats 600000 in
theorem z_wayN {M : xM} {Q : Option xV → xM → Prop} {s d : Int} (hs : xrg s) (hd : xrg d) (hp : ¬ isPair s d) (h : Q (some (xI (-2))) M) : xm 4 m_M_way [xR (some 64), xI s, xI d] M Q := by
  (refine xm_of (own := "DrumTongueModel") rfl (by decide +kernel) tk_M [some (xR (some 64)), some (xI s), some (xI d)] (Nat.le_of_ble_eq_true rfl) rfl ?_; intro D nx X C P hW)
  refine xg hW k_M_way [] 40 ?_
  ((repeat' (first | (with_reducible refine And.intro ?_ ?_) | (intro h0; exact absurd h0 (by decide)) | (intro h0; exact absurd rfl h0) | (intro h0; exfalso; clear hW; omega) | (intro _) | ((conv => whnf); (first | (with_reducible refine And.intro ?_ ?_) | (intro h0; exact absurd h0 (by decide)) | (intro h0; exact absurd rfl h0) | (intro h0; exfalso; clear hW; omega) | (intro _) | (refine hW.1 _ _ _ _ _ _ (z_pairN hs hd hp _ ?_) (by first | decide | omega) (by decide) (Nat.le_of_ble_eq_true rfl)))))); (all_goals (try omega)); (all_goals (try exact xnn (by omega))); (all_goals (try exact Nat.le_of_ble_eq_true rfl)); (all_goals (try ((conv => whnf); (first | (refine hW.2.1 _ _ ?_) | (change X _ _ _ _ _ _) | (change C _ _ _ _ _ _ _))))); (all_goals (try simp only [xup_at, xup_ne, xup_up, ne_eq, Nat.reduceEqDiff, not_false_eq_true, Int.toNat_natCast, x_lcmp] at *)); (all_goals (try omega)))
  all_goals exact h
set_option maxRecDepth 100000 in
set_option maxHeartbeats 600000 in
theorem z_way {M : xM} {Q : Option xV → xM → Prop} {s d : Nat} (hh : hillOk M) (hg : relG M) (hs : s < 6) (hd : d < 6) (hsd : s ≠ d) (h1 : ∀ M', lkFr M M' → 0 < (hBest (cM M) (hM M) s d).1 → Q (some (xI (hBest (cM M) (hM M) s d).1)) M') (h2 : ∀ M', lkFr M M' → (hBest (cM M) (hM M) s d).1 = 0 → Q (some (xI (-1))) M') : xm 4 m_M_way [xR (some 64), xI (s : Int), xI (d : Int)] M Q := by
  obtain ⟨B, e, b, cf⟩ := z_look' hh hg hs hd hsd
  rw [← e] at h1 h2
  obtain ⟨b1, b2, b3, b4, b5, b6⟩ := b
  clear e hh hg
  (refine xm_of (own := "DrumTongueModel") rfl (by decide +kernel) tk_M [some (xR (some 64)), some (xI (s : Int)), some (xI (d : Int))] (Nat.le_of_ble_eq_true rfl) rfl ?_; intro D nx X C P hW)
  refine xg hW k_M_way [] 40 ?_
  ((repeat' (first | (with_reducible refine And.intro ?_ ?_) | (intro h0; exact absurd h0 (by decide)) | (intro h0; exact absurd rfl h0) | (intro h0; exfalso; clear hW; omega) | (intro _) | ((conv => whnf); (first | (with_reducible refine And.intro ?_ ?_) | (intro h0; exact absurd h0 (by decide)) | (intro h0; exact absurd rfl h0) | (intro h0; exfalso; clear hW; omega) | (intro _) | (refine hW.1 _ _ _ _ _ _ (z_pairY hs hd hsd _ ?_) (by first | decide | omega) (by decide) (Nat.le_of_ble_eq_true rfl)))))); (all_goals (try omega)); (all_goals (try exact xnn (by omega))); (all_goals (try exact Nat.le_of_ble_eq_true rfl)); (all_goals (try ((conv => whnf); (first | (refine hW.2.1 _ _ ?_) | (change X _ _ _ _ _ _) | (change C _ _ _ _ _ _ _))))); (all_goals (try simp only [xup_at, xup_ne, xup_up, ne_eq, Nat.reduceEqDiff, not_false_eq_true, Int.toNat_natCast, x_lcmp] at *)); (all_goals (try omega)))
  refine hW.1 _ _ _ _ _ _ (cf _ (fun M' f1 f2 => ?_)) (by decide) (by decide) (Nat.le_of_ble_eq_true rfl)
  obtain ⟨k1, k2, k3⟩ := f2
  replace h1 := h1 M' f1
  replace h2 := h2 M' f1
  rw [← k1] at h1 h2 b1 b2
  clear cf f1 k3 b5 b6
  ((repeat' (first | (with_reducible refine And.intro ?_ ?_) | (intro h0; exact absurd h0 (by decide)) | (intro h0; exact absurd rfl h0) | (intro h0; exfalso; clear hW; omega) | (intro _) | ((conv => whnf); (first | (with_reducible refine And.intro ?_ ?_) | (intro h0; exact absurd h0 (by decide)) | (intro h0; exact absurd rfl h0) | (intro h0; exfalso; clear hW; omega) | (intro _))))); (all_goals (try omega)); (all_goals (try exact xnn (by omega))); (all_goals (try exact Nat.le_of_ble_eq_true rfl)); (all_goals (try ((conv => whnf); (first | (refine hW.2.1 _ _ ?_) | (change X _ _ _ _ _ _) | (change C _ _ _ _ _ _ _))))); (all_goals (try simp only [xup_at, xup_ne, xup_up, ne_eq, Nat.reduceEqDiff, not_false_eq_true, Int.toNat_natCast, x_lcmp] at *)); (all_goals (try omega)))
  all_goals first | exact h1 (by omega) | exact h2 (by omega) | trace_state
set_option maxRecDepth 100000 in
set_option maxHeartbeats 600000 in
theorem z_ageN {M : xM} {Q : Option xV → xM → Prop} {s d : Int} (hs : xrg s) (hd : xrg d) (hp : ¬ isPair s d) (h : Q (some (xI (-2))) M) : xm 4 m_M_age [xR (some 64), xI s, xI d] M Q := by
  (refine xm_of (own := "DrumTongueModel") rfl (by decide +kernel) tk_M [some (xR (some 64)), some (xI s), some (xI d)] (Nat.le_of_ble_eq_true rfl) rfl ?_; intro D nx X C P hW)
  refine xg hW k_M_age [] 40 ?_
  ((repeat' (first | (with_reducible refine And.intro ?_ ?_) | (intro h0; exact absurd h0 (by decide)) | (intro h0; exact absurd rfl h0) | (intro h0; exfalso; clear hW; omega) | (intro _) | ((conv => whnf); (first | (with_reducible refine And.intro ?_ ?_) | (intro h0; exact absurd h0 (by decide)) | (intro h0; exact absurd rfl h0) | (intro h0; exfalso; clear hW; omega) | (intro _) | (refine hW.1 _ _ _ _ _ _ (z_pairN hs hd hp _ ?_) (by first | decide | omega) (by decide) (Nat.le_of_ble_eq_true rfl)))))); (all_goals (try omega)); (all_goals (try exact xnn (by omega))); (all_goals (try exact Nat.le_of_ble_eq_true rfl)); (all_goals (try ((conv => whnf); (first | (refine hW.2.1 _ _ ?_) | (change X _ _ _ _ _ _) | (change C _ _ _ _ _ _ _))))); (all_goals (try simp only [xup_at, xup_ne, xup_up, ne_eq, Nat.reduceEqDiff, not_false_eq_true, Int.toNat_natCast, x_lcmp] at *)); (all_goals (try omega)))
  all_goals exact h
set_option maxRecDepth 100000 in
set_option maxHeartbeats 600000 in
theorem z_age {M : xM} {Q : Option xV → xM → Prop} {s d : Nat} (hh : hillOk M) (hg : relG M) (hs : s < 6) (hd : d < 6) (hsd : s ≠ d) (h1 : ∀ M', lkFr M M' → 0 < (hBest (cM M) (hM M) s d).1 → Q (some (xI (hBest (cM M) (hM M) s d).2.1)) M') (h2 : ∀ M', lkFr M M' → (hBest (cM M) (hM M) s d).1 = 0 → Q (some (xI (-1))) M') : xm 4 m_M_age [xR (some 64), xI (s : Int), xI (d : Int)] M Q := by
  obtain ⟨B, e, b, cf⟩ := z_look' hh hg hs hd hsd
  rw [← e] at h1 h2
  obtain ⟨b1, b2, b3, b4, b5, b6⟩ := b
  clear e hh hg
  (refine xm_of (own := "DrumTongueModel") rfl (by decide +kernel) tk_M [some (xR (some 64)), some (xI (s : Int)), some (xI (d : Int))] (Nat.le_of_ble_eq_true rfl) rfl ?_; intro D nx X C P hW)
  refine xg hW k_M_age [] 40 ?_
  ((repeat' (first | (with_reducible refine And.intro ?_ ?_) | (intro h0; exact absurd h0 (by decide)) | (intro h0; exact absurd rfl h0) | (intro h0; exfalso; clear hW; omega) | (intro _) | ((conv => whnf); (first | (with_reducible refine And.intro ?_ ?_) | (intro h0; exact absurd h0 (by decide)) | (intro h0; exact absurd rfl h0) | (intro h0; exfalso; clear hW; omega) | (intro _) | (refine hW.1 _ _ _ _ _ _ (z_pairY hs hd hsd _ ?_) (by first | decide | omega) (by decide) (Nat.le_of_ble_eq_true rfl)))))); (all_goals (try omega)); (all_goals (try exact xnn (by omega))); (all_goals (try exact Nat.le_of_ble_eq_true rfl)); (all_goals (try ((conv => whnf); (first | (refine hW.2.1 _ _ ?_) | (change X _ _ _ _ _ _) | (change C _ _ _ _ _ _ _))))); (all_goals (try simp only [xup_at, xup_ne, xup_up, ne_eq, Nat.reduceEqDiff, not_false_eq_true, Int.toNat_natCast, x_lcmp] at *)); (all_goals (try omega)))
  refine hW.1 _ _ _ _ _ _ (cf _ (fun M' f1 f2 => ?_)) (by decide) (by decide) (Nat.le_of_ble_eq_true rfl)
  obtain ⟨k1, k2, k3⟩ := f2
  replace h1 := h1 M' f1
  replace h2 := h2 M' f1
  rw [← k1] at h1 h2 b1 b2
  rw [← k2] at h1
  clear cf f1 k3 b5 b6
  ((repeat' (first | (with_reducible refine And.intro ?_ ?_) | (intro h0; exact absurd h0 (by decide)) | (intro h0; exact absurd rfl h0) | (intro h0; exfalso; clear hW; omega) | (intro _) | ((conv => whnf); (first | (with_reducible refine And.intro ?_ ?_) | (intro h0; exact absurd h0 (by decide)) | (intro h0; exact absurd rfl h0) | (intro h0; exfalso; clear hW; omega) | (intro _))))); (all_goals (try omega)); (all_goals (try exact xnn (by omega))); (all_goals (try exact Nat.le_of_ble_eq_true rfl)); (all_goals (try ((conv => whnf); (first | (refine hW.2.1 _ _ ?_) | (change X _ _ _ _ _ _) | (change C _ _ _ _ _ _ _))))); (all_goals (try simp only [xup_at, xup_ne, xup_up, ne_eq, Nat.reduceEqDiff, not_false_eq_true, Int.toNat_natCast, x_lcmp] at *)); (all_goals (try omega)))
  all_goals first | exact h1 (by omega) | exact h2 (by omega) | trace_state
set_option maxRecDepth 100000 in
set_option maxHeartbeats 600000 in
theorem z_wayAtN {M : xM} {Q : Option xV → xM → Prop} {s d i : Int} (hs : xrg s) (hd : xrg d) (hp : ¬ isPair s d) (h : Q (some (xI (-2))) M) : xm 4 m_M_wayAt [xR (some 64), xI s, xI d, xI i] M Q := by
  (refine xm_of (own := "DrumTongueModel") rfl (by decide +kernel) tk_M [some (xR (some 64)), some (xI s), some (xI d), some (xI i)] (Nat.le_of_ble_eq_true rfl) rfl ?_; intro D nx X C P hW)
  refine xg hW k_M_wayAt [] 40 ?_
  ((repeat' (first | (with_reducible refine And.intro ?_ ?_) | (intro h0; exact absurd h0 (by decide)) | (intro h0; exact absurd rfl h0) | (intro h0; exfalso; clear hW; omega) | (intro _) | ((conv => whnf); (first | (with_reducible refine And.intro ?_ ?_) | (intro h0; exact absurd h0 (by decide)) | (intro h0; exact absurd rfl h0) | (intro h0; exfalso; clear hW; omega) | (intro _) | (refine hW.1 _ _ _ _ _ _ (z_pairN hs hd hp _ ?_) (by first | decide | omega) (by decide) (Nat.le_of_ble_eq_true rfl)))))); (all_goals (try omega)); (all_goals (try exact xnn (by omega))); (all_goals (try exact Nat.le_of_ble_eq_true rfl)); (all_goals (try ((conv => whnf); (first | (refine hW.2.1 _ _ ?_) | (change X _ _ _ _ _ _) | (change C _ _ _ _ _ _ _))))); (all_goals (try simp only [xup_at, xup_ne, xup_up, ne_eq, Nat.reduceEqDiff, not_false_eq_true, Int.toNat_natCast, x_lcmp] at *)); (all_goals (try omega)))
  all_goals exact h
set_option maxRecDepth 100000 in
set_option maxHeartbeats 600000 in
theorem z_wayAt {M : xM} {Q : Option xV → xM → Prop} {s d : Nat} {i : Int} (hh : hillOk M) (hg : relG M) (hs : s < 6) (hd : d < 6) (hsd : s ≠ d) (hi : xrg i) (h1 : ∀ M', lkFr M M' → 0 < (hBest (cM M) (hM M) s d).1 → 0 ≤ i → i < (hBest (cM M) (hM M) s d).2.2.1 → Q (some (xI ((hBest (cM M) (hM M) s d).2.2.2 i.toNat : Nat))) M') (h2 : ∀ M', lkFr M M' → (hBest (cM M) (hM M) s d).1 = 0 ∨ i < 0 ∨ ((hBest (cM M) (hM M) s d).2.2.1 : Int) ≤ i → Q (some (xI (-1))) M') : xm 4 m_M_wayAt [xR (some 64), xI (s : Int), xI (d : Int), xI i] M Q := by
  obtain ⟨B, e, b, cf⟩ := z_look' hh hg hs hd hsd
  rw [← e] at h1 h2
  obtain ⟨b1, b2, b3, b4, b5, b6⟩ := b
  obtain ⟨i1, i2⟩ := hi
  clear e hh hg
  (refine xm_of (own := "DrumTongueModel") rfl (by decide +kernel) tk_M [some (xR (some 64)), some (xI (s : Int)), some (xI (d : Int)), some (xI i)] (Nat.le_of_ble_eq_true rfl) rfl ?_; intro D nx X C P hW)
  refine xg hW k_M_wayAt [] 40 ?_
  ((repeat' (first | (with_reducible refine And.intro ?_ ?_) | (intro h0; exact absurd h0 (by decide)) | (intro h0; exact absurd rfl h0) | (intro h0; exfalso; clear hW; omega) | (intro _) | ((conv => whnf); (first | (with_reducible refine And.intro ?_ ?_) | (intro h0; exact absurd h0 (by decide)) | (intro h0; exact absurd rfl h0) | (intro h0; exfalso; clear hW; omega) | (intro _) | (refine hW.1 _ _ _ _ _ _ (z_pairY hs hd hsd _ ?_) (by first | decide | omega) (by decide) (Nat.le_of_ble_eq_true rfl)))))); (all_goals (try omega)); (all_goals (try exact xnn (by omega))); (all_goals (try exact Nat.le_of_ble_eq_true rfl)); (all_goals (try ((conv => whnf); (first | (refine hW.2.1 _ _ ?_) | (change X _ _ _ _ _ _) | (change C _ _ _ _ _ _ _))))); (all_goals (try simp only [xup_at, xup_ne, xup_up, ne_eq, Nat.reduceEqDiff, not_false_eq_true, Int.toNat_natCast, x_lcmp] at *)); (all_goals (try omega)))
  refine hW.1 _ _ _ _ _ _ (cf _ (fun M' f1 f2 => ?_)) (by decide) (by decide) (Nat.le_of_ble_eq_true rfl)
  obtain ⟨k1, k2, k3⟩ := f2
  replace h1 := h1 M' f1
  replace h2 := h2 M' f1
  rcases Int.lt_or_le 0 B.1 with q | q
  · obtain ⟨k4, k5⟩ := k3 q
    obtain ⟨b7, b8, b9⟩ := b5 q
    have h5 : 0 ≤ i → i < B.2.2.1 → Q (some (xI (M' 88 i.toNat))) M' := fun a c => by rw [k5 _ (by omega)]; exact h1 q a c
    rw [← k1] at q
    clear cf f1 k3 b5 b6 b9 k5 h1
    ((repeat' (first | (with_reducible refine And.intro ?_ ?_) | (intro h0; exact absurd h0 (by decide)) | (intro h0; exact absurd rfl h0) | (intro h0; exfalso; clear hW; omega) | (intro _) | ((conv => whnf); (first | (with_reducible refine And.intro ?_ ?_) | (intro h0; exact absurd h0 (by decide)) | (intro h0; exact absurd rfl h0) | (intro h0; exfalso; clear hW; omega) | (intro _) | (refine hW.1 _ _ _ _ _ _ (z_in ?_) (by first | decide | omega) (by decide) (Nat.le_of_ble_eq_true rfl)))))); (all_goals (try omega)); (all_goals (try exact xnn (by omega))); (all_goals (try exact Nat.le_of_ble_eq_true rfl)); (all_goals (try ((conv => whnf); (first | (refine hW.2.1 _ _ ?_) | (change X _ _ _ _ _ _) | (change C _ _ _ _ _ _ _))))); (all_goals (try simp only [xup_at, xup_ne, xup_up, ne_eq, Nat.reduceEqDiff, not_false_eq_true, Int.toNat_natCast, x_lcmp] at *)); (all_goals (try omega)))
    all_goals first | exact h5 (by omega) (by omega) | exact h2 (by omega) | trace_state
  · have h5 := h2 (Or.inl (by omega))
    rw [← k1] at q b1
    clear cf f1 k3 b5 b6 h1 h2
    ((repeat' (first | (with_reducible refine And.intro ?_ ?_) | (intro h0; exact absurd h0 (by decide)) | (intro h0; exact absurd rfl h0) | (intro h0; exfalso; clear hW; omega) | (intro _) | ((conv => whnf); (first | (with_reducible refine And.intro ?_ ?_) | (intro h0; exact absurd h0 (by decide)) | (intro h0; exact absurd rfl h0) | (intro h0; exfalso; clear hW; omega) | (intro _) | (refine hW.1 _ _ _ _ _ _ (z_in ?_) (by first | decide | omega) (by decide) (Nat.le_of_ble_eq_true rfl)))))); (all_goals (try omega)); (all_goals (try exact xnn (by omega))); (all_goals (try exact Nat.le_of_ble_eq_true rfl)); (all_goals (try ((conv => whnf); (first | (refine hW.2.1 _ _ ?_) | (change X _ _ _ _ _ _) | (change C _ _ _ _ _ _ _))))); (all_goals (try simp only [xup_at, xup_ne, xup_up, ne_eq, Nat.reduceEqDiff, not_false_eq_true, Int.toNat_natCast, x_lcmp] at *)); (all_goals (try omega)))
    all_goals exact h5
