/-! reading: rows of costs -/
set_option maxRecDepth 100000 in
theorem c_costOf {M : xM} {Q : Option xV → xM → Prop} {h b : Int} (hq : (xrg h ∧ xrg b) ∧ Q (some (xI (cst h b))) M) : xm 1 m_Reader_costOf [xI h, xI b] M Q := by
  obtain ⟨⟨h1, h2⟩, h3⟩ := hq
  unfold cst at h3
  (refine xm_of (own := "DrumTongue$Reader") rfl (by decide +kernel) tk_Reader [some (xI h), some (xI b)] (Nat.le_of_ble_eq_true rfl) rfl ?_; intro D nx X C P hW)
  refine xg hW k_Reader_costOf [] 40 ?_
  ((repeat' (first | (with_reducible refine And.intro ?_ ?_) | (intro h0; exact absurd h0 (by decide)) | (intro _) | ((conv => whnf); (first | (with_reducible refine And.intro ?_ ?_) | (intro h0; exact absurd h0 (by decide)) | (intro _))))); (all_goals (try omega)); (all_goals (try exact Nat.le_of_ble_eq_true rfl)); (all_goals (try ((conv => whnf); (first | (refine hW.2.1 _ _ ?_) | (change X _ _ _ _ _ _) | (change C _ _ _ _ _ _ _))))); (all_goals (try simp only [xup_at, xup_ne, xup_up, ne_eq, Nat.reduceEqDiff, not_false_eq_true, Int.toNat_natCast, x_lcmp] at *)); (all_goals (try omega)))
  all_goals exact xq h3 (by omega)
/-- a row of costs at a: its table, away from what is read of the heard -/
def rowA (a : Nat) : Prop := xT0 a = some (.inr (0, 61, none)) ∧ 28 < a
set_option maxRecDepth 100000 in
theorem c_startUpTo {M : xM} {Q : Option xV → xM → Prop} {a : Nat} (ha : rowA a) (hn : 0 ≤ M 23 1 ∧ M 23 1 ≤ 60) (hq : ∀ f : Nat → Int, (∀ j : Nat, (j : Int) ≤ M 23 1 → f j = 3 * j) → Q none (xup M a f)) : xm 2 m_Reader_startUpTo [xR (some 25), xR (some a)] M Q := by
  obtain ⟨n, hnn⟩ := Int.eq_ofNat_of_zero_le hn.1
  obtain ⟨hT, ha28⟩ := ha
  (refine xm_of (own := "DrumTongue$Reader") rfl (by decide +kernel) tk_Reader [some (xR (some 25)), some (xR (some a)), none] (Nat.le_of_ble_eq_true rfl) rfl ?_; intro D nx X C P hW)
  have loop : ∀ (m k : Nat) (f : Nat → Int), k + m = n + 1 → (∀ j, j < k → f j = 3 * j) → X 2 [some (xR (some 25)), some (xR (some a)), some (xI (k : Int))] [] (xup M a f, D, nx) 0 0 := by
    intro m
    induction m with
    | zero =>
      intro k f hk hf
      have e : (xup M a f) 23 1 = M 23 1 := by rw [xup_ne (by omega)]
      refine xg hW k_Reader_startUpTo [2] 40 ?_
      ((repeat' (first | (with_reducible refine And.intro ?_ ?_) | (intro h0; exact absurd h0 (by decide)) | (intro _) | ((conv => whnf); (first | (with_reducible refine And.intro ?_ ?_) | (intro h0; exact absurd h0 (by decide)) | (intro _) | (rw [hT]) | (refine hW.1 _ _ _ _ _ _ (c_earSize ?_) (by first | decide | omega) (by decide) (Nat.le_of_ble_eq_true rfl)))))); (all_goals (try omega)); (all_goals (try exact Nat.le_of_ble_eq_true rfl)); (all_goals (try ((conv => whnf); (first | (refine hW.2.1 _ _ ?_) | (change X _ _ _ _ _ _) | (change C _ _ _ _ _ _ _))))); (all_goals (try simp only [xup_at, xup_ne, xup_up, ne_eq, Nat.reduceEqDiff, not_false_eq_true, Int.toNat_natCast, x_lcmp] at *)); (all_goals (try omega)))
      exact hq f fun j hj => hf j (by omega)
    | succ m ih =>
      intro k f hk hf
      have e : (xup M a f) 23 1 = M 23 1 := by rw [xup_ne (by omega)]
      refine xg hW k_Reader_startUpTo [2] 40 ?_
      ((repeat' (first | (with_reducible refine And.intro ?_ ?_) | (intro h0; exact absurd h0 (by decide)) | (intro _) | ((conv => whnf); (first | (with_reducible refine And.intro ?_ ?_) | (intro h0; exact absurd h0 (by decide)) | (intro _) | (rw [hT]) | (refine hW.1 _ _ _ _ _ _ (c_earSize ?_) (by first | decide | omega) (by decide) (Nat.le_of_ble_eq_true rfl)))))); (all_goals (try omega)); (all_goals (try exact Nat.le_of_ble_eq_true rfl)); (all_goals (try ((conv => whnf); (first | (refine hW.2.1 _ _ ?_) | (change X _ _ _ _ _ _) | (change C _ _ _ _ _ _ _))))); (all_goals (try simp only [xup_at, xup_ne, xup_up, ne_eq, Nat.reduceEqDiff, not_false_eq_true, Int.toNat_natCast, x_lcmp] at *)); (all_goals (try omega)))
      refine ih (k + 1) _ (by omega) fun j hj => ?_
      by_cases q : j = k
      · rw [q, xup_at]
      · rw [xup_ne q]; exact hf j (by omega)
  refine xg hW k_Reader_startUpTo [2] 40 ?_
  ((repeat' (first | (with_reducible refine And.intro ?_ ?_) | (intro h0; exact absurd h0 (by decide)) | (intro _) | ((conv => whnf); (first | (with_reducible refine And.intro ?_ ?_) | (intro h0; exact absurd h0 (by decide)) | (intro _))))); (all_goals (try omega)); (all_goals (try exact Nat.le_of_ble_eq_true rfl)); (all_goals (try ((conv => whnf); (first | (refine hW.2.1 _ _ ?_) | (change X _ _ _ _ _ _) | (change C _ _ _ _ _ _ _))))); (all_goals (try simp only [xup_at, xup_ne, xup_up, ne_eq, Nat.reduceEqDiff, not_false_eq_true, Int.toNat_natCast, x_lcmp] at *)); (all_goals (try omega)))
  have := loop (n + 1) 0 (M a) (by omega) (fun j hj => absurd hj (Nat.not_lt_zero j))
  rw [xup_id] at this
  exact this
set_option maxRecDepth 100000 in
theorem c_startFrom {M : xM} {Q : Option xV → xM → Prop} {a : Nat} (ha : rowA a) (hn : 0 ≤ M 23 1 ∧ M 23 1 ≤ 60) (hq : ∀ f : Nat → Int, (∀ j : Nat, (j : Int) ≤ M 23 1 → f j = 3 * (M 23 1 - j)) → Q none (xup M a f)) : xm 2 m_Reader_startFrom [xR (some 25), xR (some a)] M Q := by
  obtain ⟨n, hnn⟩ := Int.eq_ofNat_of_zero_le hn.1
  obtain ⟨hT, ha28⟩ := ha
  (refine xm_of (own := "DrumTongue$Reader") rfl (by decide +kernel) tk_Reader [some (xR (some 25)), some (xR (some a)), none] (Nat.le_of_ble_eq_true rfl) rfl ?_; intro D nx X C P hW)
  have loop : ∀ (m k : Nat) (f : Nat → Int), k + m = n + 1 → (∀ j : Nat, j < k → f j = 3 * (M 23 1 - j)) → X 2 [some (xR (some 25)), some (xR (some a)), some (xI (k : Int))] [] (xup M a f, D, nx) 0 0 := by
    intro m
    induction m with
    | zero =>
      intro k f hk hf
      have e : (xup M a f) 23 1 = M 23 1 := by rw [xup_ne (by omega)]
      refine xg hW k_Reader_startFrom [2] 40 ?_
      ((repeat' (first | (with_reducible refine And.intro ?_ ?_) | (intro h0; exact absurd h0 (by decide)) | (intro _) | ((conv => whnf); (first | (with_reducible refine And.intro ?_ ?_) | (intro h0; exact absurd h0 (by decide)) | (intro _) | (rw [hT]) | (refine hW.1 _ _ _ _ _ _ (c_earSize ?_) (by first | decide | omega) (by decide) (Nat.le_of_ble_eq_true rfl)))))); (all_goals (try omega)); (all_goals (try exact Nat.le_of_ble_eq_true rfl)); (all_goals (try ((conv => whnf); (first | (refine hW.2.1 _ _ ?_) | (change X _ _ _ _ _ _) | (change C _ _ _ _ _ _ _))))); (all_goals (try simp only [xup_at, xup_ne, xup_up, ne_eq, Nat.reduceEqDiff, not_false_eq_true, Int.toNat_natCast, x_lcmp] at *)); (all_goals (try omega)))
      exact hq f fun j hj => hf j (by omega)
    | succ m ih =>
      intro k f hk hf
      have e : (xup M a f) 23 1 = M 23 1 := by rw [xup_ne (by omega)]
      refine xg hW k_Reader_startFrom [2] 40 ?_
      ((repeat' (first | (with_reducible refine And.intro ?_ ?_) | (intro h0; exact absurd h0 (by decide)) | (intro _) | ((conv => whnf); (first | (with_reducible refine And.intro ?_ ?_) | (intro h0; exact absurd h0 (by decide)) | (intro _) | (rw [hT]) | (refine hW.1 _ _ _ _ _ _ (c_earSize ?_) (by first | decide | omega) (by decide) (Nat.le_of_ble_eq_true rfl)))))); (all_goals (try omega)); (all_goals (try exact Nat.le_of_ble_eq_true rfl)); (all_goals (try ((conv => whnf); (first | (refine hW.2.1 _ _ ?_) | (change X _ _ _ _ _ _) | (change C _ _ _ _ _ _ _))))); (all_goals (try simp only [xup_at, xup_ne, xup_up, ne_eq, Nat.reduceEqDiff, not_false_eq_true, Int.toNat_natCast, x_lcmp] at *)); (all_goals (try omega)))
      refine ih (k + 1) _ (by omega) fun j hj => ?_
      by_cases q : j = k
      · rw [q, xup_at, e]
      · rw [xup_ne q]; exact hf j (by omega)
  refine xg hW k_Reader_startFrom [2] 40 ?_
  ((repeat' (first | (with_reducible refine And.intro ?_ ?_) | (intro h0; exact absurd h0 (by decide)) | (intro _) | ((conv => whnf); (first | (with_reducible refine And.intro ?_ ?_) | (intro h0; exact absurd h0 (by decide)) | (intro _))))); (all_goals (try omega)); (all_goals (try exact Nat.le_of_ble_eq_true rfl)); (all_goals (try ((conv => whnf); (first | (refine hW.2.1 _ _ ?_) | (change X _ _ _ _ _ _) | (change C _ _ _ _ _ _ _))))); (all_goals (try simp only [xup_at, xup_ne, xup_up, ne_eq, Nat.reduceEqDiff, not_false_eq_true, Int.toNat_natCast, x_lcmp] at *)); (all_goals (try omega)))
  have := loop (n + 1) 0 (M a) (by omega) (fun j hj => absurd hj (Nat.not_lt_zero j))
  rw [xup_id] at this
  exact this
/-- costs in bounds, over the places 0 .. n -/
def cRg (n : Nat) (f : Nat → Int) : Prop := ∀ j, j ≤ n → 0 ≤ f j ∧ f j ≤ 1000000
set_option maxRecDepth 100000 in
set_option maxHeartbeats 4000000 in
theorem c_beatBehind {M : xM} {Q : Option xV → xM → Prop} {a : Nat} {b : Int} (ha : rowA a) (he : earOk M) (hb : 0 ≤ b ∧ b ≤ 1) (hr : cRg (M 23 1).toNat (M a)) (hq : ∀ f : Nat → Int, (∀ j : Nat, (j : Int) ≤ M 23 1 → f j = fwd (M 24) b (M a) j) → Q none (xup M a f)) : xm 2 m_Reader_putBeatBehind [xR (some 25), xI b, xR (some a)] M Q := by
  obtain ⟨n1, n2, n3⟩ := id he
  obtain ⟨n, hnn⟩ := Int.eq_ofNat_of_zero_le n1
  obtain ⟨hT, ha28⟩ := ha
  have hr0 := hr 0 (by omega)
  (refine xm_of (own := "DrumTongue$Reader") rfl (by decide +kernel) tk_Reader [some (xR (some 25)), some (xI b), some (xR (some a)), none, none, none, none] (Nat.le_of_ble_eq_true rfl) rfl ?_; intro D nx X C P hW)
  have loop : ∀ (m k : Nat) (f : Nat → Int) (v5 v6 : Option xV), k + m = n → (∀ j, j ≤ k → f j = fwd (M 24) b (M a) j) → (∀ j, k < j → f j = M a j) → X 28 [some (xR (some 25)), some (xI b), some (xR (some a)), some (xI (M a k)), some (xI ((k : Int) + 1)), v5, v6] [] (xup M a f, D, nx) 0 0 := by
    intro m
    induction m with
    | zero =>
      intro k f v5 v6 hk hf hf2
      have e : (xup M a f) 23 1 = M 23 1 := by rw [xup_ne (by omega)]
      refine xg hW k_Reader_putBeatBehind [28] 40 ?_
      ((repeat' (first | (with_reducible refine And.intro ?_ ?_) | (intro h0; exact absurd h0 (by decide)) | (intro _) | ((conv => whnf); (first | (with_reducible refine And.intro ?_ ?_) | (intro h0; exact absurd h0 (by decide)) | (intro _) | (rw [hT]) | (refine hW.1 _ _ _ _ _ _ (c_earSize ?_) (by first | decide | omega) (by decide) (Nat.le_of_ble_eq_true rfl)))))); (all_goals (try omega)); (all_goals (try exact Nat.le_of_ble_eq_true rfl)); (all_goals (try ((conv => whnf); (first | (refine hW.2.1 _ _ ?_) | (change X _ _ _ _ _ _) | (change C _ _ _ _ _ _ _))))); (all_goals (try simp only [xup_at, xup_ne, xup_up, ne_eq, Nat.reduceEqDiff, not_false_eq_true, Int.toNat_natCast, x_lcmp] at *)); (all_goals (try omega)))
      exact hq f fun j hj => hf j (by omega)
    | succ m ih =>
      intro k f v5 v6 hk hf hf2
      have e : (xup M a f) 23 1 = M 23 1 := by rw [xup_ne (by omega)]
      have e24 : (xup M a f) 24 = M 24 := xup_ne (by omega)
      have r1 := hr (k + 1) (by omega)
      have r2 := hr k (by omega)
      have r3 := fwd_rg (H := M 24) (b := b) hr k (by omega)
      have g1 : f ((k : Int) + 1).toNat = M a (k + 1) := by rw [show ((k : Int) + 1).toNat = k + 1 by omega]; exact hf2 (k + 1) (by omega)
      have g2 : f ((k : Int) + 1 - 1).toNat = fwd (M 24) b (M a) k := by rw [show ((k : Int) + 1 - 1).toNat = k by omega]; exact hf k (Nat.le_refl _)
      have c0 := cst_0 (M 24 k) b
      have c2 := cst_2 (M 24 k) b
      have g3 : (xup M a f) 24 ((k : Int) + 1 - 1).toNat = M 24 k := by rw [e24, show ((k : Int) + 1 - 1).toNat = k by omega]
      have n4 := n3 k
      refine xg hW k_Reader_putBeatBehind [28] 40 ?_
      ((repeat' (first | (with_reducible refine And.intro ?_ ?_) | (intro h0; exact absurd h0 (by decide)) | (intro _) | ((conv => whnf); (first | (with_reducible refine And.intro ?_ ?_) | (intro h0; exact absurd h0 (by decide)) | (intro _) | (rw [hT]) | (refine hW.1 _ _ _ _ _ _ (c_earSize ?_) (by first | decide | omega) (by decide) (Nat.le_of_ble_eq_true rfl)) | (refine hW.1 _ _ _ _ _ _ (c_earAt ?_) (by first | decide | omega) (by decide) (Nat.le_of_ble_eq_true rfl)) | (refine hW.1 _ _ _ _ _ _ (c_costOf ?_) (by first | decide | omega) (by decide) (Nat.le_of_ble_eq_true rfl)))))); (all_goals (try omega)); (all_goals (try exact Nat.le_of_ble_eq_true rfl)); (all_goals (try ((conv => whnf); (first | (refine hW.2.1 _ _ ?_) | (change X _ _ _ _ _ _) | (change C _ _ _ _ _ _ _))))); (all_goals (try simp only [xup_at, xup_ne, xup_up, ne_eq, Nat.reduceEqDiff, not_false_eq_true, Int.toNat_natCast, x_lcmp] at *)); (all_goals (try omega)))
      all_goals trace_state
      all_goals sorry
  refine xg hW k_Reader_putBeatBehind [28] 40 ?_
  ((repeat' (first | (with_reducible refine And.intro ?_ ?_) | (intro h0; exact absurd h0 (by decide)) | (intro _) | ((conv => whnf); (first | (with_reducible refine And.intro ?_ ?_) | (intro h0; exact absurd h0 (by decide)) | (intro _) | (rw [hT]))))); (all_goals (try omega)); (all_goals (try exact Nat.le_of_ble_eq_true rfl)); (all_goals (try ((conv => whnf); (first | (refine hW.2.1 _ _ ?_) | (change X _ _ _ _ _ _) | (change C _ _ _ _ _ _ _))))); (all_goals (try simp only [xup_at, xup_ne, xup_up, ne_eq, Nat.reduceEqDiff, not_false_eq_true, Int.toNat_natCast, x_lcmp] at *)); (all_goals (try omega)))
  all_goals trace_state
  all_goals sorry
