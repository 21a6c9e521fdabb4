/-! reading: rows of costs -/
set_option maxRecDepth 100000 in
theorem c_costOf {M : xM} {Q : Option xV → xM → Prop} {h b : Int} (hq : (xrg h ∧ xrg b) ∧ Q (some (xI (cst h b))) M) : xm 1 m_Reader_costOf [xI h, xI b] M Q := by
  obtain ⟨⟨h1, h2⟩, h3⟩ := hq
  unfold cst at h3
  (refine xm_of (own := "DrumTongue$Reader") rfl (by decide +kernel) tk_Reader [some (xI h), some (xI b)] (Nat.le_of_ble_eq_true rfl) rfl ?_; intro D nx X C P hW)
  refine xg hW k_Reader_costOf [] 40 ?_
  ((repeat' (first | (with_reducible refine And.intro ?_ ?_) | (intro h0; exact absurd h0 (by decide)) | (intro _) | ((conv => whnf); (first | (with_reducible refine And.intro ?_ ?_) | (intro h0; exact absurd h0 (by decide)) | (intro _))))); (all_goals (try omega)); (all_goals (try exact Nat.le_of_ble_eq_true rfl)); (all_goals (try ((conv => whnf); (first | (refine hW.2.1 _ _ ?_) | (change X _ _ _ _ _ _) | (change C _ _ _ _ _ _ _))))); (all_goals (try simp only [xup_at, xup_ne, xup_up, ne_eq, Nat.reduceEqDiff, not_false_eq_true, Int.toNat_natCast, x_lcmp] at *)); (all_goals (try omega)))
  all_goals exact xq h3 (by omega)
/-- a row of costs at a: its table, away from what is read of the heard -/
def rowA (a : Nat) : Prop := xT0 a = some (.inr (0, 61, none)) ∧ 28 < a
set_option maxRecDepth 100000 in
theorem c_startUpTo {M : xM} {Q : Option xV → xM → Prop} {a : Nat} (ha : rowA a) (hn : 0 ≤ M 23 1 ∧ M 23 1 ≤ 60) (hq : ∀ f : Nat → Int, (∀ j : Nat, (j : Int) ≤ M 23 1 → f j = 3 * j) → Q none (xup M a f)) : xm 2 m_Reader_startUpTo [xR (some 25), xR (some a)] M Q := by
  obtain ⟨n, hnn⟩ := Int.eq_ofNat_of_zero_le hn.1
  obtain ⟨hT, ha28⟩ := ha
  (refine xm_of (own := "DrumTongue$Reader") rfl (by decide +kernel) tk_Reader [some (xR (some 25)), some (xR (some a)), none] (Nat.le_of_ble_eq_true rfl) rfl ?_; intro D nx X C P hW)
  have loop : ∀ (m k : Nat) (f : Nat → Int), k + m = n + 1 → (∀ j, j < k → f j = 3 * j) → X 2 [some (xR (some 25)), some (xR (some a)), some (xI (k : Int))] [] (xup M a f, D, nx) 0 0 := by
    intro m
    induction m with
    | zero =>
      intro k f hk hf
      have e : (xup M a f) 23 1 = M 23 1 := by rw [xup_ne (by omega)]
      refine xg hW k_Reader_startUpTo [2] 40 ?_
      ((repeat' (first | (with_reducible refine And.intro ?_ ?_) | (intro h0; exact absurd h0 (by decide)) | (intro _) | ((conv => whnf); (first | (with_reducible refine And.intro ?_ ?_) | (intro h0; exact absurd h0 (by decide)) | (intro _) | (rw [hT]) | (refine hW.1 _ _ _ _ _ _ (c_earSize ?_) (by first | decide | omega) (by decide) (Nat.le_of_ble_eq_true rfl)))))); (all_goals (try omega)); (all_goals (try exact Nat.le_of_ble_eq_true rfl)); (all_goals (try ((conv => whnf); (first | (refine hW.2.1 _ _ ?_) | (change X _ _ _ _ _ _) | (change C _ _ _ _ _ _ _))))); (all_goals (try simp only [xup_at, xup_ne, xup_up, ne_eq, Nat.reduceEqDiff, not_false_eq_true, Int.toNat_natCast, x_lcmp] at *)); (all_goals (try omega)))
      exact hq f fun j hj => hf j (by omega)
    | succ m ih =>
      intro k f hk hf
      have e : (xup M a f) 23 1 = M 23 1 := by rw [xup_ne (by omega)]
      refine xg hW k_Reader_startUpTo [2] 40 ?_
      ((repeat' (first | (with_reducible refine And.intro ?_ ?_) | (intro h0; exact absurd h0 (by decide)) | (intro _) | ((conv => whnf); (first | (with_reducible refine And.intro ?_ ?_) | (intro h0; exact absurd h0 (by decide)) | (intro _) | (rw [hT]) | (refine hW.1 _ _ _ _ _ _ (c_earSize ?_) (by first | decide | omega) (by decide) (Nat.le_of_ble_eq_true rfl)))))); (all_goals (try omega)); (all_goals (try exact Nat.le_of_ble_eq_true rfl)); (all_goals (try ((conv => whnf); (first | (refine hW.2.1 _ _ ?_) | (change X _ _ _ _ _ _) | (change C _ _ _ _ _ _ _))))); (all_goals (try simp only [xup_at, xup_ne, xup_up, ne_eq, Nat.reduceEqDiff, not_false_eq_true, Int.toNat_natCast, x_lcmp] at *)); (all_goals (try omega)))
      refine ih (k + 1) _ (by omega) fun j hj => ?_
      by_cases q : j = k
      · rw [q, xup_at]
      · rw [xup_ne q]; exact hf j (by omega)
  refine xg hW k_Reader_startUpTo [2] 40 ?_
  ((repeat' (first | (with_reducible refine And.intro ?_ ?_) | (intro h0; exact absurd h0 (by decide)) | (intro _) | ((conv => whnf); (first | (with_reducible refine And.intro ?_ ?_) | (intro h0; exact absurd h0 (by decide)) | (intro _))))); (all_goals (try omega)); (all_goals (try exact Nat.le_of_ble_eq_true rfl)); (all_goals (try ((conv => whnf); (first | (refine hW.2.1 _ _ ?_) | (change X _ _ _ _ _ _) | (change C _ _ _ _ _ _ _))))); (all_goals (try simp only [xup_at, xup_ne, xup_up, ne_eq, Nat.reduceEqDiff, not_false_eq_true, Int.toNat_natCast, x_lcmp] at *)); (all_goals (try omega)))
  have := loop (n + 1) 0 (M a) (by omega) (fun j hj => absurd hj (Nat.not_lt_zero j))
  rw [xup_id] at this
  exact this
set_option maxRecDepth 100000 in
theorem c_startFrom {M : xM} {Q : Option xV → xM → Prop} {a : Nat} (ha : rowA a) (hn : 0 ≤ M 23 1 ∧ M 23 1 ≤ 60) (hq : ∀ f : Nat → Int, (∀ j : Nat, (j : Int) ≤ M 23 1 → f j = 3 * (M 23 1 - j)) → Q none (xup M a f)) : xm 2 m_Reader_startFrom [xR (some 25), xR (some a)] M Q := by
  obtain ⟨n, hnn⟩ := Int.eq_ofNat_of_zero_le hn.1
  obtain ⟨hT, ha28⟩ := ha
  (refine xm_of (own := "DrumTongue$Reader") rfl (by decide +kernel) tk_Reader [some (xR (some 25)), some (xR (some a)), none] (Nat.le_of_ble_eq_true rfl) rfl ?_; intro D nx X C P hW)
  have loop : ∀ (m k : Nat) (f : Nat → Int), k + m = n + 1 → (∀ j : Nat, j < k → f j = 3 * (M 23 1 - j)) → X 2 [some (xR (some 25)), some (xR (some a)), some (xI (k : Int))] [] (xup M a f, D, nx) 0 0 := by
    intro m
    induction m with
    | zero =>
      intro k f hk hf
      have e : (xup M a f) 23 1 = M 23 1 := by rw [xup_ne (by omega)]
      refine xg hW k_Reader_startFrom [2] 40 ?_
      ((repeat' (first | (with_reducible refine And.intro ?_ ?_) | (intro h0; exact absurd h0 (by decide)) | (intro _) | ((conv => whnf); (first | (with_reducible refine And.intro ?_ ?_) | (intro h0; exact absurd h0 (by decide)) | (intro _) | (rw [hT]) | (refine hW.1 _ _ _ _ _ _ (c_earSize ?_) (by first | decide | omega) (by decide) (Nat.le_of_ble_eq_true rfl)))))); (all_goals (try omega)); (all_goals (try exact Nat.le_of_ble_eq_true rfl)); (all_goals (try ((conv => whnf); (first | (refine hW.2.1 _ _ ?_) | (change X _ _ _ _ _ _) | (change C _ _ _ _ _ _ _))))); (all_goals (try simp only [xup_at, xup_ne, xup_up, ne_eq, Nat.reduceEqDiff, not_false_eq_true, Int.toNat_natCast, x_lcmp] at *)); (all_goals (try omega)))
      exact hq f fun j hj => hf j (by omega)
    | succ m ih =>
      intro k f hk hf
      have e : (xup M a f) 23 1 = M 23 1 := by rw [xup_ne (by omega)]
      refine xg hW k_Reader_startFrom [2] 40 ?_
      ((repeat' (first | (with_reducible refine And.intro ?_ ?_) | (intro h0; exact absurd h0 (by decide)) | (intro _) | ((conv => whnf); (first | (with_reducible refine And.intro ?_ ?_) | (intro h0; exact absurd h0 (by decide)) | (intro _) | (rw [hT]) | (refine hW.1 _ _ _ _ _ _ (c_earSize ?_) (by first | decide | omega) (by decide) (Nat.le_of_ble_eq_true rfl)))))); (all_goals (try omega)); (all_goals (try exact Nat.le_of_ble_eq_true rfl)); (all_goals (try ((conv => whnf); (first | (refine hW.2.1 _ _ ?_) | (change X _ _ _ _ _ _) | (change C _ _ _ _ _ _ _))))); (all_goals (try simp only [xup_at, xup_ne, xup_up, ne_eq, Nat.reduceEqDiff, not_false_eq_true, Int.toNat_natCast, x_lcmp] at *)); (all_goals (try omega)))
      refine ih (k + 1) _ (by omega) fun j hj => ?_
      by_cases q : j = k
      · rw [q, xup_at, e]
      · rw [xup_ne q]; exact hf j (by omega)
  refine xg hW k_Reader_startFrom [2] 40 ?_
  ((repeat' (first | (with_reducible refine And.intro ?_ ?_) | (intro h0; exact absurd h0 (by decide)) | (intro _) | ((conv => whnf); (first | (with_reducible refine And.intro ?_ ?_) | (intro h0; exact absurd h0 (by decide)) | (intro _))))); (all_goals (try omega)); (all_goals (try exact Nat.le_of_ble_eq_true rfl)); (all_goals (try ((conv => whnf); (first | (refine hW.2.1 _ _ ?_) | (change X _ _ _ _ _ _) | (change C _ _ _ _ _ _ _))))); (all_goals (try simp only [xup_at, xup_ne, xup_up, ne_eq, Nat.reduceEqDiff, not_false_eq_true, Int.toNat_natCast, x_lcmp] at *)); (all_goals (try omega)))
  have := loop (n + 1) 0 (M a) (by omega) (fun j hj => absurd hj (Nat.not_lt_zero j))
  rw [xup_id] at this
  exact this
/-- costs in bounds, over the places 0 .. n -/
def cRg (n : Nat) (f : Nat → Int) : Prop := ∀ j, j ≤ n → 0 ≤ f j ∧ f j ≤ 2000000
set_option maxRecDepth 100000 in
set_option maxHeartbeats 4000000 in
theorem c_beatBehind {M : xM} {Q : Option xV → xM → Prop} {a : Nat} {b : Int} (ha : rowA a) (he : earOk M) (hr : cRg (M 23 1).toNat (M a)) (hq : (0 ≤ b ∧ b ≤ 1) ∧ ∀ f : Nat → Int, (∀ j : Nat, (j : Int) ≤ M 23 1 → f j = fwd (M 24) b (M a) j) → Q none (xup M a f)) : xm 2 m_Reader_putBeatBehind [xR (some 25), xI b, xR (some a)] M Q := by
  obtain ⟨hb, hq⟩ := hq
  obtain ⟨n1, n2, n3⟩ := id he
  obtain ⟨n, hnn⟩ := Int.eq_ofNat_of_zero_le n1
  obtain ⟨hT, ha28⟩ := ha
  have hr0 := hr 0 (by omega)
  (refine xm_of (own := "DrumTongue$Reader") rfl (by decide +kernel) tk_Reader [some (xR (some 25)), some (xI b), some (xR (some a)), none, none, none, none] (Nat.le_of_ble_eq_true rfl) rfl ?_; intro D nx X C P hW)
  have loop : ∀ (m k : Nat) (f : Nat → Int) (v5 v6 : Option xV), k + m = n → (∀ j, j ≤ k → f j = fwd (M 24) b (M a) j) → (∀ j, k < j → f j = M a j) → X 28 [some (xR (some 25)), some (xI b), some (xR (some a)), some (xI (M a k)), some (xI ((k : Int) + 1)), v5, v6] [] (xup M a f, D, nx) 0 0 := by
    intro m
    induction m with
    | zero =>
      intro k f v5 v6 hk hf hf2
      have e : (xup M a f) 23 1 = M 23 1 := by rw [xup_ne (by omega)]
      refine xg hW k_Reader_putBeatBehind [28] 40 ?_
      ((repeat' (first | (with_reducible refine And.intro ?_ ?_) | (intro h0; exact absurd h0 (by decide)) | (intro _) | ((conv => whnf); (first | (with_reducible refine And.intro ?_ ?_) | (intro h0; exact absurd h0 (by decide)) | (intro _) | (rw [hT]) | (refine hW.1 _ _ _ _ _ _ (c_earSize ?_) (by first | decide | omega) (by decide) (Nat.le_of_ble_eq_true rfl)))))); (all_goals (try omega)); (all_goals (try exact Nat.le_of_ble_eq_true rfl)); (all_goals (try ((conv => whnf); (first | (refine hW.2.1 _ _ ?_) | (change X _ _ _ _ _ _) | (change C _ _ _ _ _ _ _))))); (all_goals (try simp only [xup_at, xup_ne, xup_up, ne_eq, Nat.reduceEqDiff, not_false_eq_true, Int.toNat_natCast, x_lcmp] at *)); (all_goals (try omega)))
      exact hq f fun j hj => hf j (by omega)
    | succ m ih =>
      intro k f v5 v6 hk hf hf2
      have e : (xup M a f) 23 1 = M 23 1 := by rw [xup_ne (by omega)]
      have e24 : (xup M a f) 24 = M 24 := xup_ne (by omega)
      have r1 := hr (k + 1) (by omega)
      have r2 := hr k (by omega)
      have r3 := fwd_rg (H := M 24) (b := b) hr k (by omega)
      have g1 : f ((k : Int) + 1).toNat = M a (k + 1) := by rw [show ((k : Int) + 1).toNat = k + 1 by omega]; exact hf2 (k + 1) (by omega)
      have g2 : f ((k : Int) + 1 - 1).toNat = fwd (M 24) b (M a) k := by rw [show ((k : Int) + 1 - 1).toNat = k by omega]; exact hf k (Nat.le_refl _)
      have c0 := cst_0 (M 24 k) b
      have c2 := cst_2 (M 24 k) b
      have g3 : (xup M a f) 24 ((k : Int) + 1 - 1).toNat = M 24 k := by rw [e24, show ((k : Int) + 1 - 1).toNat = k by omega]
      have n4 := n3 k
      refine xg hW k_Reader_putBeatBehind [28] 40 ?_
      ((repeat' (first | (with_reducible refine And.intro ?_ ?_) | (intro h0; exact absurd h0 (by decide)) | (intro _) | ((conv => whnf); (first | (with_reducible refine And.intro ?_ ?_) | (intro h0; exact absurd h0 (by decide)) | (intro _) | (rw [hT]) | (refine hW.1 _ _ _ _ _ _ (c_earSize ?_) (by first | decide | omega) (by decide) (Nat.le_of_ble_eq_true rfl)) | (refine hW.1 _ _ _ _ _ _ (c_earAt ?_) (by first | decide | omega) (by decide) (Nat.le_of_ble_eq_true rfl)) | (refine hW.1 _ _ _ _ _ _ (c_costOf ?_) (by first | decide | omega) (by decide) (Nat.le_of_ble_eq_true rfl)))))); (all_goals (try omega)); (all_goals (try exact Nat.le_of_ble_eq_true rfl)); (all_goals (try ((conv => whnf); (first | (refine hW.2.1 _ _ ?_) | (change X _ _ _ _ _ _) | (change C _ _ _ _ _ _ _))))); (all_goals (try simp only [xup_at, xup_ne, xup_up, ne_eq, Nat.reduceEqDiff, not_false_eq_true, Int.toNat_natCast, x_lcmp] at *)); (all_goals (try omega)))
      · rw [g3]; omega
      · rw [g3]; omega
      rw [g1, g2, g3]
      have h5 := fun (f : Nat → Int) => ih (k + 1) f (some (xI (M a (k + 1)))) (some (xI (M a k + cst (M 24 k) b))) (by omega)
      rw [show ((k + 1 : Nat) : Int) = (k : Int) + 1 by omega] at h5
      refine h5 _ (fun j hj => ?_) (fun j hj => ?_)
      · by_cases q : j = k + 1
        · rw [q, show ((k : Int) + 1).toNat = k + 1 by omega, xup_at, fwd]
        · rw [xup_ne (by omega)]; exact hf j (by omega)
      · rw [xup_ne (by omega)]; exact hf2 j (by omega)
  refine xg hW k_Reader_putBeatBehind [28] 40 ?_
  ((repeat' (first | (with_reducible refine And.intro ?_ ?_) | (intro h0; exact absurd h0 (by decide)) | (intro _) | ((conv => whnf); (first | (with_reducible refine And.intro ?_ ?_) | (intro h0; exact absurd h0 (by decide)) | (intro _) | (rw [hT]))))); (all_goals (try omega)); (all_goals (try exact Nat.le_of_ble_eq_true rfl)); (all_goals (try ((conv => whnf); (first | (refine hW.2.1 _ _ ?_) | (change X _ _ _ _ _ _) | (change C _ _ _ _ _ _ _))))); (all_goals (try simp only [xup_at, xup_ne, xup_up, ne_eq, Nat.reduceEqDiff, not_false_eq_true, Int.toNat_natCast, x_lcmp] at *)); (all_goals (try omega)))
  refine loop n 0 _ none none (by omega) (fun j hj => ?_) (fun j hj => ?_)
  · rw [show j = 0 by omega, fwd]; exact xup_at _ _ _
  · rw [xup_ne (by omega)]
set_option maxRecDepth 100000 in
set_option maxHeartbeats 4000000 in
theorem c_beatFront {M : xM} {Q : Option xV → xM → Prop} {a : Nat} {b : Int} (ha : rowA a) (he : earOk M) (hr : cRg (M 23 1).toNat (M a)) (hq : (0 ≤ b ∧ b ≤ 1) ∧ ∀ f : Nat → Int, (∀ j : Nat, (j : Int) ≤ M 23 1 → f j = bwd (M 24) b (M 23 1).toNat (M a) j) → Q none (xup M a f)) : xm 2 m_Reader_putBeatInFront [xR (some 25), xI b, xR (some a)] M Q := by
  obtain ⟨hb, hq⟩ := hq
  obtain ⟨n1, n2, n3⟩ := id he
  obtain ⟨n, hnn⟩ := Int.eq_ofNat_of_zero_le n1
  obtain ⟨hT, ha28⟩ := ha
  have hr0 := hr n (by omega)
  rw [show (M 23 1).toNat = n by omega] at hq hr
  (refine xm_of (own := "DrumTongue$Reader") rfl (by decide +kernel) tk_Reader [some (xR (some 25)), some (xI b), some (xR (some a)), none, none, none, none, none] (Nat.le_of_ble_eq_true rfl) rfl ?_; intro D nx X C P hW)
  have loop : ∀ (k : Nat) (i : Int) (f : Nat → Int) (v6 v7 : Option xV), i = (k : Int) - 1 → k ≤ n → (∀ j, k ≤ j → j ≤ n → f j = bwd (M 24) b n (M a) j) → (∀ j, j < k → f j = M a j) → X 44 [some (xR (some 25)), some (xI b), some (xR (some a)), some (xI (n : Int)), some (xI (M a k)), some (xI i), v6, v7] [] (xup M a f, D, nx) 0 0 := by
    intro k
    induction k with
    | zero =>
      intro i f v6 v7 hi hk hf hf2
      refine xg hW k_Reader_putBeatInFront [44] 40 ?_
      ((repeat' (first | (with_reducible refine And.intro ?_ ?_) | (intro h0; exact absurd h0 (by decide)) | (intro _) | ((conv => whnf); (first | (with_reducible refine And.intro ?_ ?_) | (intro h0; exact absurd h0 (by decide)) | (intro _) | (rw [hT]) | (refine hW.1 _ _ _ _ _ _ (c_earSize ?_) (by first | decide | omega) (by decide) (Nat.le_of_ble_eq_true rfl)))))); (all_goals (try omega)); (all_goals (try exact Nat.le_of_ble_eq_true rfl)); (all_goals (try ((conv => whnf); (first | (refine hW.2.1 _ _ ?_) | (change X _ _ _ _ _ _) | (change C _ _ _ _ _ _ _))))); (all_goals (try simp only [xup_at, xup_ne, xup_up, ne_eq, Nat.reduceEqDiff, not_false_eq_true, Int.toNat_natCast, x_lcmp] at *)); (all_goals (try omega)))
      exact hq f fun j hj => hf j (by omega) (by omega)
    | succ k ih =>
      intro i f v6 v7 hi hk hf hf2
      have e : (xup M a f) 23 1 = M 23 1 := by rw [xup_ne (by omega)]
      have e24 : (xup M a f) 24 = M 24 := xup_ne (by omega)
      have r1 := hr (k + 1) (by omega)
      have r2 := hr k (by omega)
      have r3 := bwd_rg (H := M 24) (b := b) hr (k + 1) (by omega)
      have g1 : f i.toNat = M a k := by rw [show i.toNat = k by omega]; exact hf2 k (by omega)
      have g2 : f (i + 1).toNat = bwd (M 24) b n (M a) (k + 1) := by rw [show (i + 1).toNat = k + 1 by omega]; exact hf (k + 1) (Nat.le_refl _) (by omega)
      have c0 := cst_0 (M 24 k) b
      have c2 := cst_2 (M 24 k) b
      have g3 : (xup M a f) 24 i.toNat = M 24 k := by rw [e24, show i.toNat = k by omega]
      have n4 := n3 k
      refine xg hW k_Reader_putBeatInFront [44] 40 ?_
      ((repeat' (first | (with_reducible refine And.intro ?_ ?_) | (intro h0; exact absurd h0 (by decide)) | (intro _) | ((conv => whnf); (first | (with_reducible refine And.intro ?_ ?_) | (intro h0; exact absurd h0 (by decide)) | (intro _) | (rw [hT]) | (refine hW.1 _ _ _ _ _ _ (c_earSize ?_) (by first | decide | omega) (by decide) (Nat.le_of_ble_eq_true rfl)) | (refine hW.1 _ _ _ _ _ _ (c_earAt ?_) (by first | decide | omega) (by decide) (Nat.le_of_ble_eq_true rfl)) | (refine hW.1 _ _ _ _ _ _ (c_costOf ?_) (by first | decide | omega) (by decide) (Nat.le_of_ble_eq_true rfl)))))); (all_goals (try omega)); (all_goals (try exact Nat.le_of_ble_eq_true rfl)); (all_goals (try ((conv => whnf); (first | (refine hW.2.1 _ _ ?_) | (change X _ _ _ _ _ _) | (change C _ _ _ _ _ _ _))))); (all_goals (try simp only [xup_at, xup_ne, xup_up, ne_eq, Nat.reduceEqDiff, not_false_eq_true, Int.toNat_natCast, x_lcmp] at *)); (all_goals (try omega)))
      · rw [g3]; omega
      · rw [g3]; omega
      rw [g1, g2, g3]
      refine ih (i + -1) _ (some (xI (M a k))) (some (xI (M a (k + 1) + cst (M 24 k) b))) (by omega) (by omega) (fun j hj hj2 => ?_) (fun j hj => ?_)
      · by_cases q : j = k
        · rw [q, show i.toNat = k by omega, xup_at, bwd_lt (show k < n by omega)]
        · rw [xup_ne (by omega)]; exact hf j (by omega) hj2
      · rw [xup_ne (by omega)]; exact hf2 j (by omega)
  refine xg hW k_Reader_putBeatInFront [44] 40 ?_
  ((repeat' (first | (with_reducible refine And.intro ?_ ?_) | (intro h0; exact absurd h0 (by decide)) | (intro _) | ((conv => whnf); (first | (with_reducible refine And.intro ?_ ?_) | (intro h0; exact absurd h0 (by decide)) | (intro _) | (rw [hT]) | (refine hW.1 _ _ _ _ _ _ (c_earSize ?_) (by first | decide | omega) (by decide) (Nat.le_of_ble_eq_true rfl)))))); (all_goals (try omega)); (all_goals (try exact Nat.le_of_ble_eq_true rfl)); (all_goals (try ((conv => whnf); (first | (refine hW.2.1 _ _ ?_) | (change X _ _ _ _ _ _) | (change C _ _ _ _ _ _ _))))); (all_goals (try simp only [xup_at, xup_ne, xup_up, ne_eq, Nat.reduceEqDiff, not_false_eq_true, Int.toNat_natCast, x_lcmp] at *)); (all_goals (try omega)))
  rw [show min (M 23 1) ((61 : Nat) - 1 : Int) = (n : Int) by omega]
  refine loop n _ _ none none rfl (Nat.le_refl _) (fun j hj hk => ?_) (fun j hj => ?_)
  · rw [show j = n by omega, bwd_n]; exact xup_at _ _ _
  · exact xup_ne (by omega)
theorem phOk_up {M : xM} {a : Nat} {f : Nat → Int} (h : 28 < a) (hp : phOk M) : phOk (xup M a f) := by
  have e5 : (xup M a f) 15 = M 15 := xup_ne (by omega)
  have e6 : (xup M a f) 16 = M 16 := xup_ne (by omega)
  have e7 : (xup M a f) 17 = M 17 := xup_ne (by omega)
  unfold phOk
  rw [e5, e6, e7]
  exact hp
theorem earOk_up {M : xM} {a : Nat} {f : Nat → Int} (h : 28 < a) (hp : earOk M) : earOk (xup M a f) := by
  have e5 : (xup M a f) 23 = M 23 := xup_ne (by omega)
  have e6 : (xup M a f) 24 = M 24 := xup_ne (by omega)
  unfold earOk
  rw [e5, e6]
  exact hp
/-- the phrase of word w behind, and in front -/
def wF (M : xM) (w : Nat) (f : Nat → Int) : Nat → Int := fwN (M 24) (btOf (M 16 w) (M 17 w)) f (M 16 w).toNat
def wB (M : xM) (w : Nat) (g : Nat → Int) : Nat → Int := bwN (M 24) (btOf (M 16 w) (M 17 w)) (M 23 1).toNat (M 16 w).toNat g (M 16 w).toNat
/-- of w is a phrase -/
def hP (M : xM) (w : Int) : Prop := 0 ≤ w ∧ w < 10 ∧ M 15 w.toNat ≠ -1
def cR (n : Int) (f : Nat → Int) : Prop := ∀ j : Nat, (j : Int) ≤ n → 0 ≤ f j ∧ f j ≤ 1900000
set_option maxRecDepth 100000 in
set_option maxHeartbeats 4000000 in
theorem c_putBehind {M : xM} {Q : Option xV → xM → Prop} {a : Nat} {w : Int} (ha : rowA a) (he : earOk M) (hp : phOk M) (hw : hP M w) (hr : cR (M 23 1) (M a)) (hq : ∀ f : Nat → Int, (∀ j : Nat, (j : Int) ≤ M 23 1 → f j = wF M w.toNat (M a) j) → Q none (xup M a f)) : xm 3 m_Reader_putBehind [xR (some 25), xI w, xR (some a)] M Q := by
  obtain ⟨n1, n2, n3⟩ := id he
  obtain ⟨w1, w2, w3⟩ := id hw
  obtain ⟨-, -, p0⟩ := hp w.toNat (by omega)
  obtain ⟨p1, p2, p3, p4, p5⟩ := p0 w3
  obtain ⟨n, hnn⟩ := Int.eq_ofNat_of_zero_le n1
  obtain ⟨z, hz⟩ := Int.eq_ofNat_of_zero_le (show 0 ≤ M 16 w.toNat by omega)
  have ha28 := ha.2
  (refine xm_of (own := "DrumTongue$Reader") rfl (by decide +kernel) tk_Reader [some (xR (some 25)), some (xI w), some (xR (some a)), none, none] (Nat.le_of_ble_eq_true rfl) rfl ?_; intro D nx X C P hW)
  have loop : ∀ (m k : Nat) (f : Nat → Int), k + m = z → (∀ j, j ≤ n → f j = fwN (M 24) (btOf (M 16 w.toNat) (M 17 w.toNat)) (M a) k j) → X 12 [some (xR (some 25)), some (xI w), some (xR (some a)), some (xI (z : Int)), some (xI (k : Int))] [] (xup M a f, D, nx) 0 0 := by
    intro m
    induction m with
    | zero =>
      intro k f hk hf
      refine xg hW k_Reader_putBehind [12] 40 ?_
      ((repeat' (first | (with_reducible refine And.intro ?_ ?_) | (intro h0; exact absurd h0 (by decide)) | (intro _) | ((conv => whnf); (first | (with_reducible refine And.intro ?_ ?_) | (intro h0; exact absurd h0 (by decide)) | (intro _))))); (all_goals (try omega)); (all_goals (try exact Nat.le_of_ble_eq_true rfl)); (all_goals (try ((conv => whnf); (first | (refine hW.2.1 _ _ ?_) | (change X _ _ _ _ _ _) | (change C _ _ _ _ _ _ _))))); (all_goals (try simp only [xup_at, xup_ne, xup_up, ne_eq, Nat.reduceEqDiff, not_false_eq_true, Int.toNat_natCast, x_lcmp] at *)); (all_goals (try omega)))
      exact hq f fun j hj => (hf j (by omega)).trans (by unfold wF; rw [show (M 16 w.toNat).toNat = k by omega])
    | succ m ih =>
      intro k f hk hf
      have e5 : (xup M a f) 15 = M 15 := xup_ne (by omega)
      have e6 : (xup M a f) 16 = M 16 := xup_ne (by omega)
      have e7 : (xup M a f) 17 = M 17 := xup_ne (by omega)
      have e24 : (xup M a f) 24 = M 24 := xup_ne (by omega)
      have e23 : (xup M a f) 23 = M 23 := xup_ne (by omega)
      have ea : (xup M a f) a = f := xup_at _ _ _
      have hp' := phOk_up (f := f) ha28 hp
      have he' := earOk_up (f := f) ha28 he
      have b1 := btOf_rg (M 16 w.toNat) (M 17 w.toNat) k
      have r1 := fun j hj => fwN_rg (H := M 24) (β := btOf (M 16 w.toNat) (M 17 w.toNat)) (f := M a) (n := n) (B := 1900000) (fun j hj => hr j (by omega)) k j hj
      have hr' : cRg ((xup M a f) 23 1).toNat ((xup M a f) a) := by
        intro j hj
        rw [e23] at hj
        rw [ea, hf j (by omega)]
        have := r1 j (by omega)
        omega
      refine xg hW k_Reader_putBehind [12] 40 ?_
      ((repeat' (first | (with_reducible refine And.intro ?_ ?_) | (intro h0; exact absurd h0 (by decide)) | (intro _) | ((conv => whnf); (first | (with_reducible refine And.intro ?_ ?_) | (intro h0; exact absurd h0 (by decide)) | (intro _) | (rw [e6]) | (rw [e7]) | (refine hW.1 _ _ _ _ _ _ (c_phraseBeatY hp' ?_) (by first | decide | omega) (by decide) (Nat.le_of_ble_eq_true rfl)) | (refine hW.1 _ _ _ _ _ _ (c_beatBehind ha he' hr' ?_) (by first | decide | omega) (by decide) (Nat.le_of_ble_eq_true rfl)))))); (all_goals (try omega)); (all_goals (try exact Nat.le_of_ble_eq_true rfl)); (all_goals (try ((conv => whnf); (first | (refine hW.2.1 _ _ ?_) | (change X _ _ _ _ _ _) | (change C _ _ _ _ _ _ _))))); (all_goals (try simp only [xup_at, xup_ne, xup_up, ne_eq, Nat.reduceEqDiff, not_false_eq_true, Int.toNat_natCast, x_lcmp] at *)); (all_goals (try omega)))
      · exact w3 (by rw [← e5]; assumption)
      · show (k : Int) < M 16 w.toNat
        omega
      rename_i f' hf'
      refine ih (k + 1) f' (by omega) fun j hj => (hf' j (by rw [e23]; omega)).trans ?_
      rw [e24, fwN]
      exact fwd_congr (n := n) hf j hj
  refine xg hW k_Reader_putBehind [12] 40 ?_
  ((repeat' (first | (with_reducible refine And.intro ?_ ?_) | (intro h0; exact absurd h0 (by decide)) | (intro _) | ((conv => whnf); (first | (with_reducible refine And.intro ?_ ?_) | (intro h0; exact absurd h0 (by decide)) | (intro _) | (refine hW.1 _ _ _ _ _ _ (c_phraseSizeY hp ?_) (by first | decide | omega) (by decide) (Nat.le_of_ble_eq_true rfl)))))); (all_goals (try omega)); (all_goals (try exact Nat.le_of_ble_eq_true rfl)); (all_goals (try ((conv => whnf); (first | (refine hW.2.1 _ _ ?_) | (change X _ _ _ _ _ _) | (change C _ _ _ _ _ _ _))))); (all_goals (try simp only [xup_at, xup_ne, xup_up, ne_eq, Nat.reduceEqDiff, not_false_eq_true, Int.toNat_natCast, x_lcmp] at *)); (all_goals (try omega)))
  have := loop z 0 (M a) (by omega) (fun j hj => rfl)
  rw [xup_id] at this
  rw [hz]
  exact this
set_option maxRecDepth 100000 in
set_option maxHeartbeats 4000000 in
theorem c_putInFront {M : xM} {Q : Option xV → xM → Prop} {a : Nat} {w : Int} (ha : rowA a) (he : earOk M) (hp : phOk M) (hw : hP M w) (hr : cR (M 23 1) (M a)) (hq : ∀ f : Nat → Int, (∀ j : Nat, (j : Int) ≤ M 23 1 → f j = wB M w.toNat (M a) j) → Q none (xup M a f)) : xm 3 m_Reader_putInFront [xR (some 25), xI w, xR (some a)] M Q := by
  obtain ⟨n1, n2, n3⟩ := id he
  obtain ⟨w1, w2, w3⟩ := id hw
  obtain ⟨-, -, p0⟩ := hp w.toNat (by omega)
  obtain ⟨p1, p2, p3, p4, p5⟩ := p0 w3
  obtain ⟨n, hnn⟩ := Int.eq_ofNat_of_zero_le n1
  obtain ⟨z, hz⟩ := Int.eq_ofNat_of_zero_le (show 0 ≤ M 16 w.toNat by omega)
  have ha28 := ha.2
  unfold wB at hq
  rw [hz, show (z : Int).toNat = z by omega, show (M 23 1).toNat = n by omega] at hq
  (refine xm_of (own := "DrumTongue$Reader") rfl (by decide +kernel) tk_Reader [some (xR (some 25)), some (xI w), some (xR (some a)), none] (Nat.le_of_ble_eq_true rfl) rfl ?_; intro D nx X C P hW)
  have loop : ∀ (m k : Nat) (i : Int) (f : Nat → Int), i = (m : Int) - 1 → k + m = z → (∀ j, j ≤ n → f j = bwN (M 24) (btOf (z : Int) (M 17 w.toNat)) n z (M a) k j) → X 11 [some (xR (some 25)), some (xI w), some (xR (some a)), some (xI i)] [] (xup M a f, D, nx) 0 0 := by
    intro m
    induction m with
    | zero =>
      intro k i f hi hk hf
      refine xg hW k_Reader_putInFront [11] 40 ?_
      ((repeat' (first | (with_reducible refine And.intro ?_ ?_) | (intro h0; exact absurd h0 (by decide)) | (intro _) | ((conv => whnf); (first | (with_reducible refine And.intro ?_ ?_) | (intro h0; exact absurd h0 (by decide)) | (intro _))))); (all_goals (try omega)); (all_goals (try exact Nat.le_of_ble_eq_true rfl)); (all_goals (try ((conv => whnf); (first | (refine hW.2.1 _ _ ?_) | (change X _ _ _ _ _ _) | (change C _ _ _ _ _ _ _))))); (all_goals (try simp only [xup_at, xup_ne, xup_up, ne_eq, Nat.reduceEqDiff, not_false_eq_true, Int.toNat_natCast, x_lcmp] at *)); (all_goals (try omega)))
      rw [show k = z by omega] at hf
      exact hq f fun j hj => hf j (by omega)
    | succ m ih =>
      intro k i f hi hk hf
      have e5 : (xup M a f) 15 = M 15 := xup_ne (by omega)
      have e6 : (xup M a f) 16 = M 16 := xup_ne (by omega)
      have e7 : (xup M a f) 17 = M 17 := xup_ne (by omega)
      have e24 : (xup M a f) 24 = M 24 := xup_ne (by omega)
      have e23 : (xup M a f) 23 = M 23 := xup_ne (by omega)
      have ea : (xup M a f) a = f := xup_at _ _ _
      have hp' := phOk_up (f := f) ha28 hp
      have he' := earOk_up (f := f) ha28 he
      have b1 := btOf_rg (z : Int) (M 17 w.toNat) i.toNat
      have r1 := fun j hj => bwN_rg (H := M 24) (β := btOf (z : Int) (M 17 w.toNat)) (g := M a) (n := n) (m := z) (B := 1900000) (fun j hj => hr j (by omega)) k j hj
      have hr' : cRg ((xup M a f) 23 1).toNat ((xup M a f) a) := by
        intro j hj
        rw [e23] at hj
        rw [ea, hf j (by omega)]
        have := r1 j (by omega)
        omega
      refine xg hW k_Reader_putInFront [11] 40 ?_
      ((repeat' (first | (with_reducible refine And.intro ?_ ?_) | (intro h0; exact absurd h0 (by decide)) | (intro _) | ((conv => whnf); (first | (with_reducible refine And.intro ?_ ?_) | (intro h0; exact absurd h0 (by decide)) | (intro _) | (rw [e5]) | (rw [e6]) | (rw [e7]) | (rw [hz]) | (refine hW.1 _ _ _ _ _ _ (c_phraseBeatY hp' ?_) (by first | decide | omega) (by decide) (Nat.le_of_ble_eq_true rfl)) | (refine hW.1 _ _ _ _ _ _ (c_beatFront ha he' hr' ?_) (by first | decide | omega) (by decide) (Nat.le_of_ble_eq_true rfl)))))); (all_goals (try omega)); (all_goals (try exact Nat.le_of_ble_eq_true rfl)); (all_goals (try ((conv => whnf); (first | (refine hW.2.1 _ _ ?_) | (change X _ _ _ _ _ _) | (change C _ _ _ _ _ _ _))))); (all_goals (try simp only [xup_at, xup_ne, xup_up, ne_eq, Nat.reduceEqDiff, not_false_eq_true, Int.toNat_natCast, x_lcmp] at *)); (all_goals (try omega)))
      · exact w3 (by rw [← e5]; assumption)
      · show i < (z : Int)
        omega
      rename_i f' hf'
      refine ih (k + 1) (i + -1) f' (by omega) (by omega) fun j hj => (hf' j (by rw [e23]; omega)).trans ?_
      rw [e24, e23, bwN, show (M 23 1).toNat = n by omega, show i.toNat = z - 1 - k by omega]
      exact bwd_congr (n := n) hf j hj
  refine xg hW k_Reader_putInFront [11] 40 ?_
  ((repeat' (first | (with_reducible refine And.intro ?_ ?_) | (intro h0; exact absurd h0 (by decide)) | (intro _) | ((conv => whnf); (first | (with_reducible refine And.intro ?_ ?_) | (intro h0; exact absurd h0 (by decide)) | (intro _) | (rw [hz]) | (refine hW.1 _ _ _ _ _ _ (c_phraseSizeY hp ?_) (by first | decide | omega) (by decide) (Nat.le_of_ble_eq_true rfl)))))); (all_goals (try omega)); (all_goals (try exact Nat.le_of_ble_eq_true rfl)); (all_goals (try ((conv => whnf); (first | (refine hW.2.1 _ _ ?_) | (change X _ _ _ _ _ _) | (change C _ _ _ _ _ _ _))))); (all_goals (try simp only [xup_at, xup_ne, xup_up, ne_eq, Nat.reduceEqDiff, not_false_eq_true, Int.toNat_natCast, x_lcmp] at *)); (all_goals (try omega)))
  have := loop z 0 ((z : Int) - 1) (M a) rfl (by omega) (fun j hj => rfl)
  rw [xup_id] at this
  exact this
set_option maxRecDepth 100000 in
theorem c_copy {M : xM} {Q : Option xV → xM → Prop} {a b : Nat} (ha : rowA a) (hb : rowA b) (hq : ∀ f : Nat → Int, (∀ j : Nat, j < 61 → f j = M a j) → Q none (xup M b f)) : xm 1 m_Reader_copy [xR (some 25), xR (some a), xR (some b)] M Q := by
  obtain ⟨hT, ha28⟩ := ha
  obtain ⟨hT', hb28⟩ := hb
  (refine xm_of (own := "DrumTongue$Reader") rfl (by decide +kernel) tk_Reader [some (xR (some 25)), some (xR (some a)), some (xR (some b))] (Nat.le_of_ble_eq_true rfl) rfl ?_; intro D nx X C P hW)
  refine xg hW k_Reader_copy [] 40 ?_
  ((repeat' (first | (with_reducible refine And.intro ?_ ?_) | (intro h0; exact absurd h0 (by decide)) | (intro _) | ((conv => whnf); (first | (with_reducible refine And.intro ?_ ?_) | (intro h0; exact absurd h0 (by decide)) | (intro _) | (rw [hT]) | (rw [hT']))))); (all_goals (try omega)); (all_goals (try exact Nat.le_of_ble_eq_true rfl)); (all_goals (try ((conv => whnf); (first | (refine hW.2.1 _ _ ?_) | (change X _ _ _ _ _ _) | (change C _ _ _ _ _ _ _))))); (all_goals (try simp only [xup_at, xup_ne, xup_up, ne_eq, Nat.reduceEqDiff, not_false_eq_true, Int.toNat_natCast, x_lcmp] at *)); (all_goals (try omega)))
  refine hq _ fun j hj => ?_
  unfold va_cpy
  rw [show (Int.toNat 0) = 0 from rfl, show (min ((61 : Nat) : Int) (61 : Nat)).toNat = 61 by omega]
  simp only [Nat.zero_le, Nat.zero_add, Nat.sub_zero, true_and, hj, if_true]
set_option maxRecDepth 100000 in
set_option maxHeartbeats 4000000 in
theorem c_takeLower {M : xM} {Q : Option xV → xM → Prop} {a b : Nat} (ha : rowA a) (hb : rowA b) (hab : a ≠ b) (hn : 0 ≤ M 23 1 ∧ M 23 1 ≤ 60) (hra : cRg (M 23 1).toNat (M a)) (hrb : cRg (M 23 1).toNat (M b)) (hq : ∀ f : Nat → Int, (∀ j : Nat, (j : Int) ≤ M 23 1 → f j = min (M b j) (M a j)) → Q none (xup M b f)) : xm 2 m_Reader_takeLower [xR (some 25), xR (some a), xR (some b)] M Q := by
  obtain ⟨n, hnn⟩ := Int.eq_ofNat_of_zero_le hn.1
  obtain ⟨hT, ha28⟩ := ha
  obtain ⟨hT', hb28⟩ := hb
  (refine xm_of (own := "DrumTongue$Reader") rfl (by decide +kernel) tk_Reader [some (xR (some 25)), some (xR (some a)), some (xR (some b)), none] (Nat.le_of_ble_eq_true rfl) rfl ?_; intro D nx X C P hW)
  have loop : ∀ (m k : Nat) (f : Nat → Int), k + m = n + 1 → (∀ j, j < k → f j = min (M b j) (M a j)) → (∀ j, k ≤ j → f j = M b j) → X 2 [some (xR (some 25)), some (xR (some a)), some (xR (some b)), some (xI (k : Int))] [] (xup M b f, D, nx) 0 0 := by
    intro m
    induction m with
    | zero =>
      intro k f hk hf hf2
      have e : (xup M b f) 23 1 = M 23 1 := by rw [xup_ne (by omega)]
      refine xg hW k_Reader_takeLower [2] 40 ?_
      ((repeat' (first | (with_reducible refine And.intro ?_ ?_) | (intro h0; exact absurd h0 (by decide)) | (intro _) | ((conv => whnf); (first | (with_reducible refine And.intro ?_ ?_) | (intro h0; exact absurd h0 (by decide)) | (intro _) | (rw [hT]) | (rw [hT']) | (refine hW.1 _ _ _ _ _ _ (c_earSize ?_) (by first | decide | omega) (by decide) (Nat.le_of_ble_eq_true rfl)))))); (all_goals (try omega)); (all_goals (try exact Nat.le_of_ble_eq_true rfl)); (all_goals (try ((conv => whnf); (first | (refine hW.2.1 _ _ ?_) | (change X _ _ _ _ _ _) | (change C _ _ _ _ _ _ _))))); (all_goals (try simp only [xup_at, xup_ne, xup_up, ne_eq, Nat.reduceEqDiff, not_false_eq_true, Int.toNat_natCast, x_lcmp] at *)); (all_goals (try omega)))
      exact hq f fun j hj => hf j (by omega)
    | succ m ih =>
      intro k f hk hf hf2
      have e : (xup M b f) 23 1 = M 23 1 := by rw [xup_ne (by omega)]
      have ea : (xup M b f) a = M a := xup_ne (by omega)
      have g : f k = M b k := hf2 k (by omega)
      have r1 := hra k (by omega)
      have r2 := hrb k (by omega)
      refine xg hW k_Reader_takeLower [2] 40 ?_
      ((repeat' (first | (with_reducible refine And.intro ?_ ?_) | (intro h0; exact absurd h0 (by decide)) | (intro _) | ((conv => whnf); (first | (with_reducible refine And.intro ?_ ?_) | (intro h0; exact absurd h0 (by decide)) | (intro _) | (rw [hT]) | (rw [hT']) | (rw [ea]) | (refine hW.1 _ _ _ _ _ _ (c_earSize ?_) (by first | decide | omega) (by decide) (Nat.le_of_ble_eq_true rfl)))))); (all_goals (try omega)); (all_goals (try exact Nat.le_of_ble_eq_true rfl)); (all_goals (try ((conv => whnf); (first | (refine hW.2.1 _ _ ?_) | (change X _ _ _ _ _ _) | (change C _ _ _ _ _ _ _))))); (all_goals (try simp only [xup_at, xup_ne, xup_up, ne_eq, Nat.reduceEqDiff, not_false_eq_true, Int.toNat_natCast, x_lcmp] at *)); (all_goals (try omega)))
      · show -2147483648 ≤ M a k
        omega
      · show M a k < 2147483648
        omega
      refine ih (k + 1) _ (by omega) (fun j hj => ?_) (fun j hj => ?_)
      · by_cases q : j = k
        · rw [q, xup_at, g]
        · rw [xup_ne q]; exact hf j (by omega)
      · rw [xup_ne (by omega)]; exact hf2 j (by omega)
  refine xg hW k_Reader_takeLower [2] 40 ?_
  ((repeat' (first | (with_reducible refine And.intro ?_ ?_) | (intro h0; exact absurd h0 (by decide)) | (intro _) | ((conv => whnf); (first | (with_reducible refine And.intro ?_ ?_) | (intro h0; exact absurd h0 (by decide)) | (intro _))))); (all_goals (try omega)); (all_goals (try exact Nat.le_of_ble_eq_true rfl)); (all_goals (try ((conv => whnf); (first | (refine hW.2.1 _ _ ?_) | (change X _ _ _ _ _ _) | (change C _ _ _ _ _ _ _))))); (all_goals (try simp only [xup_at, xup_ne, xup_up, ne_eq, Nat.reduceEqDiff, not_false_eq_true, Int.toNat_natCast, x_lcmp] at *)); (all_goals (try omega)))
  have := loop (n + 1) 0 (M b) (by omega) (fun j hj => absurd hj (Nat.not_lt_zero j)) (fun j hj => rfl)
  rw [xup_id] at this
  exact this
set_option maxRecDepth 100000 in
set_option maxHeartbeats 4000000 in
theorem c_leastTogether {M : xM} {Q : Option xV → xM → Prop} {a b : Nat} (ha : rowA a) (hb : rowA b) (hn : 0 ≤ M 23 1 ∧ M 23 1 ≤ 60) (hra : cR (M 23 1) (M a)) (hrb : cR (M 23 1) (M b)) (hq : Q (some (xI (min 1000000 (mt (M a) (M b) (M 23 1).toNat)))) M) : xm 2 m_Reader_leastTogether [xR (some 25), xR (some a), xR (some b)] M Q := by
  obtain ⟨n, hnn⟩ := Int.eq_ofNat_of_zero_le hn.1
  obtain ⟨hT, ha28⟩ := ha
  obtain ⟨hT', hb28⟩ := hb
  rw [show (M 23 1).toNat = n by omega] at hq
  (refine xm_of (own := "DrumTongue$Reader") rfl (by decide +kernel) tk_Reader [some (xR (some 25)), some (xR (some a)), some (xR (some b)), none, none] (Nat.le_of_ble_eq_true rfl) rfl ?_; intro D nx X C P hW)
  have loop : ∀ (m k : Nat), k + m = n → X 6 [some (xR (some 25)), some (xR (some a)), some (xR (some b)), some (xI (min 1000000 (mt (M a) (M b) k))), some (xI ((k : Int) + 1))] [] (M, D, nx) 0 0 := by
    intro m
    induction m with
    | zero =>
      intro k hk
      refine xg hW k_Reader_leastTogether [6] 40 ?_
      ((repeat' (first | (with_reducible refine And.intro ?_ ?_) | (intro h0; exact absurd h0 (by decide)) | (intro _) | ((conv => whnf); (first | (with_reducible refine And.intro ?_ ?_) | (intro h0; exact absurd h0 (by decide)) | (intro _) | (rw [hT]) | (rw [hT']) | (refine hW.1 _ _ _ _ _ _ (c_earSize ?_) (by first | decide | omega) (by decide) (Nat.le_of_ble_eq_true rfl)))))); (all_goals (try omega)); (all_goals (try exact Nat.le_of_ble_eq_true rfl)); (all_goals (try ((conv => whnf); (first | (refine hW.2.1 _ _ ?_) | (change X _ _ _ _ _ _) | (change C _ _ _ _ _ _ _))))); (all_goals (try simp only [xup_at, xup_ne, xup_up, ne_eq, Nat.reduceEqDiff, not_false_eq_true, Int.toNat_natCast, x_lcmp] at *)); (all_goals (try omega)))
      rw [show k = n by omega]
      exact hq
    | succ m ih =>
      intro k hk
      have r1 := hra (k + 1) (by omega)
      have r2 := hrb (k + 1) (by omega)
      have r3 := mt_at (f := M a) (g := M b) k
      have e : ((k : Int) + 1).toNat = k + 1 := by omega
      have r4 : 0 ≤ mt (M a) (M b) k := by
        obtain ⟨j, h1, h2⟩ := r3
        have := hra j (by omega)
        have := hrb j (by omega)
        omega
      refine xg hW k_Reader_leastTogether [6] 40 ?_
      ((repeat' (first | (with_reducible refine And.intro ?_ ?_) | (intro h0; exact absurd h0 (by decide)) | (intro _) | ((conv => whnf); (first | (with_reducible refine And.intro ?_ ?_) | (intro h0; exact absurd h0 (by decide)) | (intro _) | (rw [hT]) | (rw [hT']) | (rw [e]) | (refine hW.1 _ _ _ _ _ _ (c_earSize ?_) (by first | decide | omega) (by decide) (Nat.le_of_ble_eq_true rfl)))))); (all_goals (try omega)); (all_goals (try exact Nat.le_of_ble_eq_true rfl)); (all_goals (try ((conv => whnf); (first | (refine hW.2.1 _ _ ?_) | (change X _ _ _ _ _ _) | (change C _ _ _ _ _ _ _))))); (all_goals (try simp only [xup_at, xup_ne, xup_up, ne_eq, Nat.reduceEqDiff, not_false_eq_true, Int.toNat_natCast, x_lcmp] at *)); (all_goals (try omega)))
      · show -2147483648 ≤ M a (k + 1) + M b (k + 1)
        omega
      · show M a (k + 1) + M b (k + 1) < 2147483648
        omega
      have := ih (k + 1) (by omega)
      rw [mt, show ((k + 1 : Nat) : Int) = (k : Int) + 1 by omega, ← Int.min_assoc] at this
      exact this
  have r1 := hra 0 (by omega)
  have r2 := hrb 0 (by omega)
  refine xg hW k_Reader_leastTogether [6] 40 ?_
  ((repeat' (first | (with_reducible refine And.intro ?_ ?_) | (intro h0; exact absurd h0 (by decide)) | (intro _) | ((conv => whnf); (first | (with_reducible refine And.intro ?_ ?_) | (intro h0; exact absurd h0 (by decide)) | (intro _) | (rw [hT]) | (rw [hT']) | (refine hW.1 _ _ _ _ _ _ (c_earSize ?_) (by first | decide | omega) (by decide) (Nat.le_of_ble_eq_true rfl)))))); (all_goals (try omega)); (all_goals (try exact Nat.le_of_ble_eq_true rfl)); (all_goals (try ((conv => whnf); (first | (refine hW.2.1 _ _ ?_) | (change X _ _ _ _ _ _) | (change C _ _ _ _ _ _ _))))); (all_goals (try simp only [xup_at, xup_ne, xup_up, ne_eq, Nat.reduceEqDiff, not_false_eq_true, Int.toNat_natCast, x_lcmp] at *)); (all_goals (try omega)))
  refine xg hW k_Reader_leastTogether [6] 40 ?_
  ((repeat' (first | (with_reducible refine And.intro ?_ ?_) | (intro h0; exact absurd h0 (by decide)) | (intro _) | ((conv => whnf); (first | (with_reducible refine And.intro ?_ ?_) | (intro h0; exact absurd h0 (by decide)) | (intro _) | (rw [hT]) | (rw [hT']) | (refine hW.1 _ _ _ _ _ _ (c_earSize ?_) (by first | decide | omega) (by decide) (Nat.le_of_ble_eq_true rfl)))))); (all_goals (try omega)); (all_goals (try exact Nat.le_of_ble_eq_true rfl)); (all_goals (try ((conv => whnf); (first | (refine hW.2.1 _ _ ?_) | (change X _ _ _ _ _ _) | (change C _ _ _ _ _ _ _))))); (all_goals (try simp only [xup_at, xup_ne, xup_up, ne_eq, Nat.reduceEqDiff, not_false_eq_true, Int.toNat_natCast, x_lcmp] at *)); (all_goals (try omega)))
  · show -2147483648 ≤ M a 0 + M b 0
    omega
  · show M a 0 + M b 0 < 2147483648
    omega
  have := loop n 0 (by omega)
  rw [mt] at this
  exact this
