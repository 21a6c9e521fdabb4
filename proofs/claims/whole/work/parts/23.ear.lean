/-! THE HEARD -/
def earOk (M : xM) : Prop := 0 ≤ M 23 1 ∧ M 23 1 ≤ 60 ∧ ∀ j : Nat, -1 ≤ M 24 j ∧ M 24 j ≤ 1
set_option maxRecDepth 100000 in
theorem c_earSize {M : xM} {Q : Option xV → xM → Prop} (h : Q (some (xI (M 23 1))) M) : xm 1 m_Ear_size [xR (some 23)] M Q := by
  (refine xm_of (own := "DrumTongue$Ear") rfl (by decide +kernel) tk_Ear [some (xR (some 23))] (Nat.le_of_ble_eq_true rfl) rfl ?_; intro D nx X C P hW)
  refine xg hW k_Ear_size [] 40 ?_
  ((repeat' (first | (with_reducible refine And.intro ?_ ?_) | (intro h0; exact absurd h0 (by decide)) | (intro _) | ((conv => whnf); (first | (with_reducible refine And.intro ?_ ?_) | (intro h0; exact absurd h0 (by decide)) | (intro _))))); (all_goals (try omega)); (all_goals (try exact Nat.le_of_ble_eq_true rfl)); (all_goals (try ((conv => whnf); (first | (refine hW.2.1 _ _ ?_) | (change X _ _ _ _ _ _) | (change C _ _ _ _ _ _ _))))); (all_goals (try simp only [xup_at, xup_ne, xup_up, ne_eq, Nat.reduceEqDiff, not_false_eq_true, Int.toNat_natCast] at *)); (all_goals (try omega)))
  all_goals exact h
set_option maxRecDepth 100000 in
theorem c_earRoom {M : xM} {Q : Option xV → xM → Prop} (h : Q (some (xI (60 - M 23 1))) M) : xm 1 m_Ear_room [xR (some 23)] M Q := by
  (refine xm_of (own := "DrumTongue$Ear") rfl (by decide +kernel) tk_Ear [some (xR (some 23))] (Nat.le_of_ble_eq_true rfl) rfl ?_; intro D nx X C P hW)
  refine xg hW k_Ear_room [] 40 ?_
  ((repeat' (first | (with_reducible refine And.intro ?_ ?_) | (intro h0; exact absurd h0 (by decide)) | (intro _) | ((conv => whnf); (first | (with_reducible refine And.intro ?_ ?_) | (intro h0; exact absurd h0 (by decide)) | (intro _))))); (all_goals (try omega)); (all_goals (try exact Nat.le_of_ble_eq_true rfl)); (all_goals (try ((conv => whnf); (first | (refine hW.2.1 _ _ ?_) | (change X _ _ _ _ _ _) | (change C _ _ _ _ _ _ _))))); (all_goals (try simp only [xup_at, xup_ne, xup_up, ne_eq, Nat.reduceEqDiff, not_false_eq_true, Int.toNat_natCast] at *)); (all_goals (try omega)))
  all_goals exact h
set_option maxRecDepth 100000 in
theorem c_earAt {M : xM} {Q : Option xV → xM → Prop} {i : Int} (h : (0 ≤ i ∧ i < M 23 1 ∧ M 23 1 ≤ 60) ∧ Q (some (xI (M 24 i.toNat))) M) : xm 1 m_Ear_at [xR (some 23), xI i] M Q := by
  obtain ⟨⟨h1, h2, h3⟩, h4⟩ := h
  (refine xm_of (own := "DrumTongue$Ear") rfl (by decide +kernel) tk_Ear [some (xR (some 23)), some (xI i)] (Nat.le_of_ble_eq_true rfl) rfl ?_; intro D nx X C P hW)
  refine xg hW k_Ear_at [] 40 ?_
  ((repeat' (first | (with_reducible refine And.intro ?_ ?_) | (intro h0; exact absurd h0 (by decide)) | (intro _) | ((conv => whnf); (first | (with_reducible refine And.intro ?_ ?_) | (intro h0; exact absurd h0 (by decide)) | (intro _))))); (all_goals (try omega)); (all_goals (try exact Nat.le_of_ble_eq_true rfl)); (all_goals (try ((conv => whnf); (first | (refine hW.2.1 _ _ ?_) | (change X _ _ _ _ _ _) | (change C _ _ _ _ _ _ _))))); (all_goals (try simp only [xup_at, xup_ne, xup_up, ne_eq, Nat.reduceEqDiff, not_false_eq_true, Int.toNat_natCast] at *)); (all_goals (try omega)))
  all_goals exact h4
def earAdd (M : xM) (v : Int) : xM := xup (xup M 24 (xup (M 24) (M 23 1).toNat v)) 23 (xup (M 23) 1 (M 23 1 + 1))
set_option maxRecDepth 100000 in
theorem c_earAdd {M : xM} {Q : Option xV → xM → Prop} {v : Int} (h : (0 ≤ M 23 1 ∧ M 23 1 < 60) ∧ Q (some (xI (M 23 1 + 1))) (earAdd M v)) : xm 1 m_Ear_add [xR (some 23), xI v] M Q := by
  obtain ⟨⟨h1, h2⟩, h3⟩ := h
  unfold earAdd at h3
  (refine xm_of (own := "DrumTongue$Ear") rfl (by decide +kernel) tk_Ear [some (xR (some 23)), some (xI v)] (Nat.le_of_ble_eq_true rfl) rfl ?_; intro D nx X C P hW)
  refine xg hW k_Ear_add [] 40 ?_
  ((repeat' (first | (with_reducible refine And.intro ?_ ?_) | (intro h0; exact absurd h0 (by decide)) | (intro _) | ((conv => whnf); (first | (with_reducible refine And.intro ?_ ?_) | (intro h0; exact absurd h0 (by decide)) | (intro _))))); (all_goals (try omega)); (all_goals (try exact Nat.le_of_ble_eq_true rfl)); (all_goals (try ((conv => whnf); (first | (refine hW.2.1 _ _ ?_) | (change X _ _ _ _ _ _) | (change C _ _ _ _ _ _ _))))); (all_goals (try simp only [xup_at, xup_ne, xup_up, ne_eq, Nat.reduceEqDiff, not_false_eq_true, Int.toNat_natCast] at *)); (all_goals (try omega)))
  all_goals exact h3
set_option maxRecDepth 100000 in
theorem c_earChange {M : xM} {Q : Option xV → xM → Prop} {i v : Int} (h : (0 ≤ i ∧ i < M 23 1 ∧ M 23 1 ≤ 60) ∧ Q none (xup M 24 (xup (M 24) i.toNat v))) : xm 1 m_Ear_change [xR (some 23), xI i, xI v] M Q := by
  obtain ⟨⟨h1, h2, h3⟩, h4⟩ := h
  (refine xm_of (own := "DrumTongue$Ear") rfl (by decide +kernel) tk_Ear [some (xR (some 23)), some (xI i), some (xI v)] (Nat.le_of_ble_eq_true rfl) rfl ?_; intro D nx X C P hW)
  refine xg hW k_Ear_change [] 40 ?_
  ((repeat' (first | (with_reducible refine And.intro ?_ ?_) | (intro h0; exact absurd h0 (by decide)) | (intro _) | ((conv => whnf); (first | (with_reducible refine And.intro ?_ ?_) | (intro h0; exact absurd h0 (by decide)) | (intro _))))); (all_goals (try omega)); (all_goals (try exact Nat.le_of_ble_eq_true rfl)); (all_goals (try ((conv => whnf); (first | (refine hW.2.1 _ _ ?_) | (change X _ _ _ _ _ _) | (change C _ _ _ _ _ _ _))))); (all_goals (try simp only [xup_at, xup_ne, xup_up, ne_eq, Nat.reduceEqDiff, not_false_eq_true, Int.toNat_natCast] at *)); (all_goals (try omega)))
  all_goals exact h4
/-- what stands behind place i comes one place ahead, up to place k -/
def shf (f : Nat → Int) (i k : Nat) : Nat → Int := fun j => if i ≤ j ∧ j < k then f (j + 1) else f j
set_option maxRecDepth 100000 in
theorem c_earTake {M : xM} {Q : Option xV → xM → Prop} {i : Nat} (h : ((i : Int) < M 23 1 ∧ M 23 1 ≤ 60) ∧ Q none (xup (xup M 24 (shf (M 24) i (M 23 1 - 1).toNat)) 23 (xup (M 23) 1 (M 23 1 - 1)))) : xm 1 m_Ear_takeOut [xR (some 23), xI i] M Q := by
  obtain ⟨⟨h1, h2⟩, h3⟩ := h
  obtain ⟨n, hn⟩ : ∃ n : Nat, M 23 1 = (n : Int) + 1 := ⟨(M 23 1).toNat - 1, by omega⟩
  rw [show (M 23 1 - 1).toNat = n by omega] at h3
  (refine xm_of (own := "DrumTongue$Ear") rfl (by decide +kernel) tk_Ear [some (xR (some 23)), some (xI (i : Int)), none] (Nat.le_of_ble_eq_true rfl) rfl ?_; intro D nx X C P hW)
  have loop : ∀ (m k : Nat), k + m = n → i ≤ k → X 17 [some (xR (some 23)), some (xI (i : Int)), some (xI ((k : Int) + 1))] [] (xup M 24 (shf (M 24) i k), D, nx) 0 0 := by
    intro m
    induction m with
    | zero =>
      intro k hk hik
      obtain rfl : k = n := by omega
      refine xg hW k_Ear_takeOut [17] 40 ?_
      ((repeat' (first | (with_reducible refine And.intro ?_ ?_) | (intro h0; exact absurd h0 (by decide)) | (intro _) | ((conv => whnf); (first | (with_reducible refine And.intro ?_ ?_) | (intro h0; exact absurd h0 (by decide)) | (intro _))))); (all_goals (try omega)); (all_goals (try exact Nat.le_of_ble_eq_true rfl)); (all_goals (try ((conv => whnf); (first | (refine hW.2.1 _ _ ?_) | (change X _ _ _ _ _ _) | (change C _ _ _ _ _ _ _))))); (all_goals (try simp only [xup_at, xup_ne, xup_up, ne_eq, Nat.reduceEqDiff, not_false_eq_true, Int.toNat_natCast] at *)); (all_goals (try omega)))
      all_goals exact h3
    | succ m ih =>
      intro k hk hik
      refine xg hW k_Ear_takeOut [17] 40 ?_
      ((repeat' (first | (with_reducible refine And.intro ?_ ?_) | (intro h0; exact absurd h0 (by decide)) | (intro _) | ((conv => whnf); (first | (with_reducible refine And.intro ?_ ?_) | (intro h0; exact absurd h0 (by decide)) | (intro _))))); (all_goals (try omega)); (all_goals (try exact Nat.le_of_ble_eq_true rfl)); (all_goals (try ((conv => whnf); (first | (refine hW.2.1 _ _ ?_) | (change X _ _ _ _ _ _) | (change C _ _ _ _ _ _ _))))); (all_goals (try simp only [xup_at, xup_ne, xup_up, ne_eq, Nat.reduceEqDiff, not_false_eq_true, Int.toNat_natCast] at *)); (all_goals (try omega)))
      have e : xup (shf (M 24) i k) k (shf (M 24) i k (k + 1)) = shf (M 24) i (k + 1) := by
        funext j
        simp only [xup, shf]
        by_cases q : j = k
        · subst q
          rw [if_pos rfl, if_neg (by omega), if_pos (by omega)]
        · rw [if_neg q]
          by_cases q2 : i ≤ j ∧ j < k
          · rw [if_pos q2, if_pos (by omega)]
          · rw [if_neg q2, if_neg (by omega)]
      rw [show ((k : Int) + 1 - 1).toNat = k by omega, show ((k : Int) + 1).toNat = k + 1 by omega, e]
      exact ih (k + 1) (by omega) (by omega)
  have e0 : shf (M 24) i i = M 24 := by
    funext j
    simp only [shf]
    rw [if_neg (by omega)]
  refine xg hW k_Ear_takeOut [17] 40 ?_
  ((repeat' (first | (with_reducible refine And.intro ?_ ?_) | (intro h0; exact absurd h0 (by decide)) | (intro _) | ((conv => whnf); (first | (with_reducible refine And.intro ?_ ?_) | (intro h0; exact absurd h0 (by decide)) | (intro _))))); (all_goals (try omega)); (all_goals (try exact Nat.le_of_ble_eq_true rfl)); (all_goals (try ((conv => whnf); (first | (refine hW.2.1 _ _ ?_) | (change X _ _ _ _ _ _) | (change C _ _ _ _ _ _ _))))); (all_goals (try simp only [xup_at, xup_ne, xup_up, ne_eq, Nat.reduceEqDiff, not_false_eq_true, Int.toNat_natCast] at *)); (all_goals (try omega)))
  have := loop (n - i) i (by omega) (Nat.le_refl _)
  rw [e0, xup_id] at this
  exact this
set_option maxRecDepth 100000 in
theorem c_earEmpty {M : xM} {Q : Option xV → xM → Prop} (h : Q (some (xI (M 23 1))) (xup M 23 (xup (M 23) 1 0))) : xm 1 m_Ear_empty [xR (some 23)] M Q := by
  (refine xm_of (own := "DrumTongue$Ear") rfl (by decide +kernel) tk_Ear [some (xR (some 23)), none] (Nat.le_of_ble_eq_true rfl) rfl ?_; intro D nx X C P hW)
  refine xg hW k_Ear_empty [] 40 ?_
  ((repeat' (first | (with_reducible refine And.intro ?_ ?_) | (intro h0; exact absurd h0 (by decide)) | (intro _) | ((conv => whnf); (first | (with_reducible refine And.intro ?_ ?_) | (intro h0; exact absurd h0 (by decide)) | (intro _))))); (all_goals (try omega)); (all_goals (try exact Nat.le_of_ble_eq_true rfl)); (all_goals (try ((conv => whnf); (first | (refine hW.2.1 _ _ ?_) | (change X _ _ _ _ _ _) | (change C _ _ _ _ _ _ _))))); (all_goals (try simp only [xup_at, xup_ne, xup_up, ne_eq, Nat.reduceEqDiff, not_false_eq_true, Int.toNat_natCast] at *)); (all_goals (try omega)))
  all_goals exact h
def cntG (f : Nat → Int) : Nat → Int
  | 0 => 0
  | k + 1 => cntG f k + (if f k = -1 then 1 else 0)
def mixH (f : Nat → Int) (h : Int) : Nat → Int
  | 0 => h
  | k + 1 => 31 * mixH f h k + f k
set_option maxRecDepth 100000 in
theorem c_earGaps {M : xM} {Q : Option xV → xM → Prop} (he : earOk M) (h : Q (some (xI (cntG (M 24) (M 23 1).toNat))) M) : xm 1 m_Ear_gaps [xR (some 23)] M Q := by
  obtain ⟨h1, h2, h3⟩ := he
  obtain ⟨n, hn⟩ := Int.eq_ofNat_of_zero_le h1
  rw [show (M 23 1).toNat = n by omega] at h
  (refine xm_of (own := "DrumTongue$Ear") rfl (by decide +kernel) tk_Ear [some (xR (some 23)), none, none] (Nat.le_of_ble_eq_true rfl) rfl ?_; intro D nx X C P hW)
  have loop : ∀ (m k : Nat), k + m = n → X 4 [some (xR (some 23)), some (xI (cntG (M 24) k)), some (xI (k : Int))] [] (M, D, nx) 0 0 := by
    intro m
    induction m with
    | zero =>
      intro k hk
      obtain rfl : k = n := by omega
      refine xg hW k_Ear_gaps [4] 40 ?_
      ((repeat' (first | (with_reducible refine And.intro ?_ ?_) | (intro h0; exact absurd h0 (by decide)) | (intro _) | ((conv => whnf); (first | (with_reducible refine And.intro ?_ ?_) | (intro h0; exact absurd h0 (by decide)) | (intro _))))); (all_goals (try omega)); (all_goals (try exact Nat.le_of_ble_eq_true rfl)); (all_goals (try ((conv => whnf); (first | (refine hW.2.1 _ _ ?_) | (change X _ _ _ _ _ _) | (change C _ _ _ _ _ _ _))))); (all_goals (try simp only [xup_at, xup_ne, xup_up, ne_eq, Nat.reduceEqDiff, not_false_eq_true, Int.toNat_natCast] at *)); (all_goals (try omega)))
      all_goals exact h
    | succ m ih =>
      intro k hk
      have g := h3 k
      have h5 := ih (k + 1) (by omega)
      rw [cntG] at h5
      refine xg hW k_Ear_gaps [4] 40 ?_
      ((repeat' (first | (with_reducible refine And.intro ?_ ?_) | (intro h0; exact absurd h0 (by decide)) | (intro _) | ((conv => whnf); (first | (with_reducible refine And.intro ?_ ?_) | (intro h0; exact absurd h0 (by decide)) | (intro _))))); (all_goals (try omega)); (all_goals (try exact Nat.le_of_ble_eq_true rfl)); (all_goals (try ((conv => whnf); (first | (refine hW.2.1 _ _ ?_) | (change X _ _ _ _ _ _) | (change C _ _ _ _ _ _ _))))); (all_goals (try simp only [xup_at, xup_ne, xup_up, ne_eq, Nat.reduceEqDiff, not_false_eq_true, Int.toNat_natCast] at *)); (all_goals (try omega)))
      · rw [if_neg (by assumption)] at h5
        exact h5
      · rw [if_pos (by assumption)] at h5
        exact h5
  refine xg hW k_Ear_gaps [4] 40 ?_
  ((repeat' (first | (with_reducible refine And.intro ?_ ?_) | (intro h0; exact absurd h0 (by decide)) | (intro _) | ((conv => whnf); (first | (with_reducible refine And.intro ?_ ?_) | (intro h0; exact absurd h0 (by decide)) | (intro _))))); (all_goals (try omega)); (all_goals (try exact Nat.le_of_ble_eq_true rfl)); (all_goals (try ((conv => whnf); (first | (refine hW.2.1 _ _ ?_) | (change X _ _ _ _ _ _) | (change C _ _ _ _ _ _ _))))); (all_goals (try simp only [xup_at, xup_ne, xup_up, ne_eq, Nat.reduceEqDiff, not_false_eq_true, Int.toNat_natCast] at *)); (all_goals (try omega)))
  exact loop n 0 (by omega)
set_option maxRecDepth 100000 in
theorem c_earMix {M : xM} {Q : Option xV → xM → Prop} {h : Int} (he : earOk M) (hq : Q (some (xJ (mixH (M 24) h (M 23 1).toNat))) M) : xm 1 m_Ear_mixInto [xR (some 23), xJ h] M Q := by
  obtain ⟨h1, h2, h3⟩ := he
  obtain ⟨n, hn⟩ := Int.eq_ofNat_of_zero_le h1
  rw [show (M 23 1).toNat = n by omega] at hq
  (refine xm_of (own := "DrumTongue$Ear") rfl (by decide +kernel) tk_Ear [some (xR (some 23)), some (xJ h), none, none, none, none] (Nat.le_of_ble_eq_true rfl) rfl ?_; intro D nx X C P hW)
  have loop : ∀ (m k : Nat), k + m = n → X 5 [some (xR (some 23)), some (xJ h), none, some (xJ (mixH (M 24) h k)), none, some (xI (k : Int))] [] (M, D, nx) 0 0 := by
    intro m
    induction m with
    | zero =>
      intro k hk
      obtain rfl : k = n := by omega
      refine xg hW k_Ear_mixInto [5] 40 ?_
      ((repeat' (first | (with_reducible refine And.intro ?_ ?_) | (intro h0; exact absurd h0 (by decide)) | (intro _) | ((conv => whnf); (first | (with_reducible refine And.intro ?_ ?_) | (intro h0; exact absurd h0 (by decide)) | (intro _))))); (all_goals (try omega)); (all_goals (try exact Nat.le_of_ble_eq_true rfl)); (all_goals (try ((conv => whnf); (first | (refine hW.2.1 _ _ ?_) | (change X _ _ _ _ _ _) | (change C _ _ _ _ _ _ _))))); (all_goals (try simp only [xup_at, xup_ne, xup_up, ne_eq, Nat.reduceEqDiff, not_false_eq_true, Int.toNat_natCast] at *)); (all_goals (try omega)))
      all_goals exact hq
    | succ m ih =>
      intro k hk
      have g := h3 k
      refine xg hW k_Ear_mixInto [5] 40 ?_
      ((repeat' (first | (with_reducible refine And.intro ?_ ?_) | (intro h0; exact absurd h0 (by decide)) | (intro _) | ((conv => whnf); (first | (with_reducible refine And.intro ?_ ?_) | (intro h0; exact absurd h0 (by decide)) | (intro _))))); (all_goals (try omega)); (all_goals (try exact Nat.le_of_ble_eq_true rfl)); (all_goals (try ((conv => whnf); (first | (refine hW.2.1 _ _ ?_) | (change X _ _ _ _ _ _) | (change C _ _ _ _ _ _ _))))); (all_goals (try simp only [xup_at, xup_ne, xup_up, ne_eq, Nat.reduceEqDiff, not_false_eq_true, Int.toNat_natCast] at *)); (all_goals (try omega)))
      exact ih (k + 1) (by omega)
  refine xg hW k_Ear_mixInto [5] 40 ?_
  ((repeat' (first | (with_reducible refine And.intro ?_ ?_) | (intro h0; exact absurd h0 (by decide)) | (intro _) | ((conv => whnf); (first | (with_reducible refine And.intro ?_ ?_) | (intro h0; exact absurd h0 (by decide)) | (intro _))))); (all_goals (try omega)); (all_goals (try exact Nat.le_of_ble_eq_true rfl)); (all_goals (try ((conv => whnf); (first | (refine hW.2.1 _ _ ?_) | (change X _ _ _ _ _ _) | (change C _ _ _ _ _ _ _))))); (all_goals (try simp only [xup_at, xup_ne, xup_up, ne_eq, Nat.reduceEqDiff, not_false_eq_true, Int.toNat_natCast] at *)); (all_goals (try omega)))
  exact loop n 0 (by omega)
