/-! reading: mixing, doubt -/
set_option maxRecDepth 100000 in
theorem c_readMix {M : xM} {Q : Option xV → xM → Prop} {h : Int} (hn : 0 ≤ M 25 3 ∧ M 25 3 ≤ 12) (hr : ∀ i : Nat, (i : Int) < M 25 3 → xrg (M 26 i)) (hq : Q (some (xJ (mixH (M 26) h (M 25 3).toNat))) M) : xm 1 m_Reader_mixInto [xR (some 25), xJ h] M Q := by
  obtain ⟨h1, h2⟩ := hn
  obtain ⟨n, hn⟩ := Int.eq_ofNat_of_zero_le h1
  rw [show (M 25 3).toNat = n by omega] at hq
  (refine xm_of (own := "DrumTongue$Reader") rfl (by decide +kernel) tk_Reader [some (xR (some 25)), some (xJ h), none, none, none, none] (Nat.le_of_ble_eq_true rfl) rfl ?_; intro D nx X C P hW)
  have loop : ∀ (m k : Nat), k + m = n → X 5 [some (xR (some 25)), some (xJ h), none, some (xJ (mixH (M 26) h k)), none, some (xI (k : Int))] [] (M, D, nx) 0 0 := by
    intro m
    induction m with
    | zero =>
      intro k hk
      obtain rfl : k = n := by omega
      refine xg hW k_Reader_mixInto [5] 40 ?_
      ((repeat' (first | (with_reducible refine And.intro ?_ ?_) | (intro h0; exact absurd h0 (by decide)) | (intro _) | ((conv => whnf); (first | (with_reducible refine And.intro ?_ ?_) | (intro h0; exact absurd h0 (by decide)) | (intro _))))); (all_goals (try omega)); (all_goals (try exact Nat.le_of_ble_eq_true rfl)); (all_goals (try ((conv => whnf); (first | (refine hW.2.1 _ _ ?_) | (change X _ _ _ _ _ _) | (change C _ _ _ _ _ _ _))))); (all_goals (try simp only [xup_at, xup_ne, xup_up, ne_eq, Nat.reduceEqDiff, not_false_eq_true, Int.toNat_natCast, x_lcmp] at *)); (all_goals (try omega)))
      all_goals exact hq
    | succ m ih =>
      intro k hk
      have g := hr k (by omega)
      unfold xrg at g
      refine xg hW k_Reader_mixInto [5] 40 ?_
      ((repeat' (first | (with_reducible refine And.intro ?_ ?_) | (intro h0; exact absurd h0 (by decide)) | (intro _) | ((conv => whnf); (first | (with_reducible refine And.intro ?_ ?_) | (intro h0; exact absurd h0 (by decide)) | (intro _))))); (all_goals (try omega)); (all_goals (try exact Nat.le_of_ble_eq_true rfl)); (all_goals (try ((conv => whnf); (first | (refine hW.2.1 _ _ ?_) | (change X _ _ _ _ _ _) | (change C _ _ _ _ _ _ _))))); (all_goals (try simp only [xup_at, xup_ne, xup_up, ne_eq, Nat.reduceEqDiff, not_false_eq_true, Int.toNat_natCast, x_lcmp] at *)); (all_goals (try omega)))
      exact ih (k + 1) (by omega)
  refine xg hW k_Reader_mixInto [5] 40 ?_
  ((repeat' (first | (with_reducible refine And.intro ?_ ?_) | (intro h0; exact absurd h0 (by decide)) | (intro _) | ((conv => whnf); (first | (with_reducible refine And.intro ?_ ?_) | (intro h0; exact absurd h0 (by decide)) | (intro _))))); (all_goals (try omega)); (all_goals (try exact Nat.le_of_ble_eq_true rfl)); (all_goals (try ((conv => whnf); (first | (refine hW.2.1 _ _ ?_) | (change X _ _ _ _ _ _) | (change C _ _ _ _ _ _ _))))); (all_goals (try simp only [xup_at, xup_ne, xup_up, ne_eq, Nat.reduceEqDiff, not_false_eq_true, Int.toNat_natCast, x_lcmp] at *)); (all_goals (try omega)))
  exact loop n 0 (by omega)
/-- the words of now before place i behind each other, and those after it -/
def arF (M : xM) (s : Nat → Int) : Nat → (Nat → Int)
  | 0 => fun j => 3 * j
  | i + 1 => wF M (s i).toNat (arF M s i)
/-- the k last of n words in front -/
def arB (M : xM) (s : Nat → Int) (n : Nat) : Nat → (Nat → Int)
  | 0 => fun j => 3 * (M 23 1 - j)
  | k + 1 => wB M (s (n - (k + 1))).toNat (arB M s n k)
set_option maxRecDepth 100000 in
set_option maxHeartbeats 2000000 in
theorem c_weighAround {M M' : xM} {Q : Option xV → xM → Prop} {i n : Nat} (fr : frE M M') (hk : rdOk M) (hn : n ≤ 12) (hi : i < n) (e5 : M' 25 5 = (n : Int)) (hw : ∀ q, q < n → hP M (M' 27 q)) (hq : ∀ M'', (∀ a, a ≠ 42 ∧ a ≠ 43 → M'' a = M' a) → (∀ j : Nat, (j : Int) ≤ M 23 1 → M'' 42 j = arF M (M' 27) i j) → (∀ j : Nat, (j : Int) ≤ M 23 1 → M'' 43 j = arB M (M' 27) n (n - i - 1) j) → Q none M'') : xm 4 m_Reader_weighAround [xR (some 25), xI (i : Int)] M' Q := by
  obtain ⟨⟨n1, n2, n3⟩, hp, hw1, hw2⟩ := id hk
  have e23 := fr 23 (by omega)
  have nn : 0 ≤ M' 23 1 ∧ M' 23 1 ≤ 60 := by rw [e23]; exact ⟨n1, n2⟩
  have uF : ∀ q, q ≤ n → ∀ j : Nat, (j : Int) ≤ M 23 1 → 0 ≤ arF M (M' 27) q j ∧ arF M (M' 27) q j ≤ 180 + 54 * q := by
    intro q
    induction q with
    | zero =>
      intro _ j hj
      show 0 ≤ 3 * (j : Int) ∧ 3 * (j : Int) ≤ 180 + 54 * ((0 : Nat) : Int)
      omega
    | succ q ih =>
      intro hq j hj
      obtain ⟨w1, w2, w3⟩ := hw q (by omega)
      rw [arF]
      have := wF_rg hk (by omega) w3 (ih (by omega)) j hj
      omega
  have uB : ∀ q, q ≤ n → ∀ j : Nat, (j : Int) ≤ M 23 1 → 0 ≤ arB M (M' 27) n q j ∧ arB M (M' 27) n q j ≤ 180 + 54 * q := by
    intro q
    induction q with
    | zero =>
      intro _ j hj
      show 0 ≤ 3 * (M 23 1 - (j : Int)) ∧ 3 * (M 23 1 - (j : Int)) ≤ 180 + 54 * ((0 : Nat) : Int)
      omega
    | succ q ih =>
      intro hq j hj
      obtain ⟨w1, w2, w3⟩ := hw (n - (q + 1)) (by omega)
      rw [arB]
      have := wB_rg hk (by omega) w3 (ih (by omega)) j hj
      omega
  (refine xm_of (own := "DrumTongue$Reader") rfl (by decide +kernel) tk_Reader [some (xR (some 25)), some (xI (i : Int)), none] (Nat.le_of_ble_eq_true rfl) rfl ?_; intro D nx X C P hW)
  have second : ∀ (m k : Nat) (M1 : xM) (z : Int), k + m = n - i - 1 → z = (n : Int) - k - 1 → (∀ a, a ≠ 42 ∧ a ≠ 43 → M1 a = M' a) → (∀ j : Nat, (j : Int) ≤ M 23 1 → M1 42 j = arF M (M' 27) i j) → (∀ j : Nat, (j : Int) ≤ M 23 1 → M1 43 j = arB M (M' 27) n k j) → X 61 [some (xR (some 25)), some (xI (i : Int)), some (xI z)] [] (M1, D, nx) 0 0 := by
    intro m
    induction m with
    | zero =>
      intro k M1 z hkm hz h1 h2 h3
      refine xg hW k_Reader_weighAround [10, 61] 40 ?_
      ((repeat' (first | (with_reducible refine And.intro ?_ ?_) | (intro h0; exact absurd h0 (by decide)) | (intro _) | ((conv => whnf); (first | (with_reducible refine And.intro ?_ ?_) | (intro h0; exact absurd h0 (by decide)) | (intro _))))); (all_goals (try omega)); (all_goals (try exact Nat.le_of_ble_eq_true rfl)); (all_goals (try ((conv => whnf); (first | (refine hW.2.1 _ _ ?_) | (change X _ _ _ _ _ _) | (change C _ _ _ _ _ _ _))))); (all_goals (try simp only [xup_at, xup_ne, xup_up, ne_eq, Nat.reduceEqDiff, not_false_eq_true, Int.toNat_natCast, x_lcmp] at *)); (all_goals (try omega)))
      rw [show k = n - i - 1 by omega] at h3
      exact hq M1 h1 h2 h3
    | succ m ih =>
      intro k M1 z hkm hz h1 h2 h3
      have fr1 : frE M M1 := fun a ha => by rw [h1 a (by omega)]; exact fr a ha
      have hw' := hw z.toNat (by omega)
      have e27 : M1 27 z.toNat = M' 27 z.toNat := by rw [h1 27 (by omega)]
      have hr' : cR (M 23 1) (M1 43) := by
        intro j hj
        rw [h3 j hj]
        have := uB k (by omega) j hj
        omega
      obtain ⟨y1, y2, y3⟩ := id hw'
      refine xg hW k_Reader_weighAround [10, 61] 40 ?_
      ((repeat' (first | (with_reducible refine And.intro ?_ ?_) | (intro h0; exact absurd h0 (by decide)) | (intro _) | ((conv => whnf); (first | (with_reducible refine And.intro ?_ ?_) | (intro h0; exact absurd h0 (by decide)) | (intro _) | (rw [e27]) | (refine hW.1 _ _ _ _ _ _ (c_front fr1 hk rowA_43 hr' hw' ?_) (by first | decide | omega) (by decide) (Nat.le_of_ble_eq_true rfl)))))); (all_goals (try omega)); (all_goals (try exact Nat.le_of_ble_eq_true rfl)); (all_goals (try ((conv => whnf); (first | (refine hW.2.1 _ _ ?_) | (change X _ _ _ _ _ _) | (change C _ _ _ _ _ _ _))))); (all_goals (try simp only [xup_at, xup_ne, xup_up, ne_eq, Nat.reduceEqDiff, not_false_eq_true, Int.toNat_natCast, x_lcmp] at *)); (all_goals (try omega)))
      rename_i f hf
      refine ih (k + 1) _ (z + -1) (by omega) (by omega) (fun a ha => ?_) (fun j hj => ?_) (fun j hj => ?_)
      · rw [xup_ne (by omega)]; exact h1 a ha
      · rw [xup_ne (by omega)]; exact h2 j hj
      · rw [xup_at, hf j hj, arB, show n - (k + 1) = z.toNat by omega]
        exact wB_congr _ n1 h3 j hj
  have first : ∀ (m k : Nat) (M1 : xM), k + m = i → (∀ a, a ≠ 42 ∧ a ≠ 43 → M1 a = M' a) → (∀ j : Nat, (j : Int) ≤ M 23 1 → M1 42 j = arF M (M' 27) k j) → X 10 [some (xR (some 25)), some (xI (i : Int)), some (xI (k : Int))] [] (M1, D, nx) 0 0 := by
    intro m
    induction m with
    | zero =>
      intro k M1 hkm h1 h2
      have e : M1 25 5 = (n : Int) := by rw [h1 25 (by omega)]; exact e5
      have e3 : M1 23 = M 23 := by rw [h1 23 (by omega)]; exact e23
      have nn' : 0 ≤ M1 23 1 ∧ M1 23 1 ≤ 60 := by rw [e3]; exact ⟨n1, n2⟩
      refine xg hW k_Reader_weighAround [10, 61] 40 ?_
      ((repeat' (first | (with_reducible refine And.intro ?_ ?_) | (intro h0; exact absurd h0 (by decide)) | (intro _) | ((conv => whnf); (first | (with_reducible refine And.intro ?_ ?_) | (intro h0; exact absurd h0 (by decide)) | (intro _) | (rw [e]) | (refine hW.1 _ _ _ _ _ _ (c_startFrom rowA_43 nn' ?_) (by first | decide | omega) (by decide) (Nat.le_of_ble_eq_true rfl)))))); (all_goals (try omega)); (all_goals (try exact Nat.le_of_ble_eq_true rfl)); (all_goals (try ((conv => whnf); (first | (refine hW.2.1 _ _ ?_) | (change X _ _ _ _ _ _) | (change C _ _ _ _ _ _ _))))); (all_goals (try simp only [xup_at, xup_ne, xup_up, ne_eq, Nat.reduceEqDiff, not_false_eq_true, Int.toNat_natCast, x_lcmp] at *)); (all_goals (try omega)))
      rename_i f hf
      rw [show k = i by omega] at h2
      refine second (n - i - 1) 0 _ _ (by omega) (by omega) (fun a ha => ?_) (fun j hj => ?_) (fun j hj => ?_)
      · rw [xup_ne (by omega)]; exact h1 a ha
      · rw [xup_ne (by omega)]; exact h2 j hj
      · rw [xup_at, hf j (by rw [e3]; exact hj), e3]; rfl
    | succ m ih =>
      intro k M1 hkm h1 h2
      have fr1 : frE M M1 := fun a ha => by rw [h1 a (by omega)]; exact fr a ha
      have hw' := hw k (by omega)
      have e27 : M1 27 k = M' 27 k := by rw [h1 27 (by omega)]
      have hw2 : hP M (M1 27 (k : Int).toNat) := by rw [Int.toNat_natCast, e27]; exact hw'
      have hr' : cR (M 23 1) (M1 42) := by
        intro j hj
        rw [h2 j hj]
        have := uF k (by omega) j hj
        omega
      obtain ⟨y1, y2, y3⟩ := id hw'
      refine xg hW k_Reader_weighAround [10, 61] 40 ?_
      ((repeat' (first | (with_reducible refine And.intro ?_ ?_) | (intro h0; exact absurd h0 (by decide)) | (intro _) | ((conv => whnf); (first | (with_reducible refine And.intro ?_ ?_) | (intro h0; exact absurd h0 (by decide)) | (intro _) | (rw [e27]) | (refine hW.1 _ _ _ _ _ _ (c_behind fr1 hk rowA_42 hr' hw2 ?_) (by first | decide | omega) (by decide) (Nat.le_of_ble_eq_true rfl)))))); (all_goals (try omega)); (all_goals (try exact Nat.le_of_ble_eq_true rfl)); (all_goals (try ((conv => whnf); (first | (refine hW.2.1 _ _ ?_) | (change X _ _ _ _ _ _) | (change C _ _ _ _ _ _ _))))); (all_goals (try simp only [xup_at, xup_ne, xup_up, ne_eq, Nat.reduceEqDiff, not_false_eq_true, Int.toNat_natCast, x_lcmp] at *)); (all_goals (try omega)))
      rename_i f hf
      refine ih (k + 1) _ (by omega) (fun a ha => ?_) (fun j hj => ?_)
      · rw [xup_ne (by omega)]; exact h1 a ha
      · rw [xup_at, hf j hj, arF, e27]
        exact wF_congr _ n1 h2 j hj
  refine xg hW k_Reader_weighAround [10, 61] 40 ?_
  ((repeat' (first | (with_reducible refine And.intro ?_ ?_) | (intro h0; exact absurd h0 (by decide)) | (intro _) | ((conv => whnf); (first | (with_reducible refine And.intro ?_ ?_) | (intro h0; exact absurd h0 (by decide)) | (intro _) | (refine hW.1 _ _ _ _ _ _ (c_startUpTo rowA_42 nn ?_) (by first | decide | omega) (by decide) (Nat.le_of_ble_eq_true rfl)))))); (all_goals (try omega)); (all_goals (try exact Nat.le_of_ble_eq_true rfl)); (all_goals (try ((conv => whnf); (first | (refine hW.2.1 _ _ ?_) | (change X _ _ _ _ _ _) | (change C _ _ _ _ _ _ _))))); (all_goals (try simp only [xup_at, xup_ne, xup_up, ne_eq, Nat.reduceEqDiff, not_false_eq_true, Int.toNat_natCast, x_lcmp] at *)); (all_goals (try omega)))
  rename_i f hf
  refine first i 0 _ (by omega) (fun a ha => xup_ne (by omega)) (fun j hj => ?_)
  rw [xup_at]
  exact hf j (by rw [e23]; exact hj)
/-- the least of the other words at the place between f and g, by how much it is more than off; none: -1 -/
def dbt (M : xM) (f g : Nat → Int) (off x : Int) : Nat → Int
  | 0 => -1
  | w + 1 => if (w : Int) ≠ x ∧ M 15 w ≠ -1 then (if dbt M f g off x w = -1 then min 1000000 (mt (wF M w f) g (M 23 1).toNat) - off else min (dbt M f g off x w) (min 1000000 (mt (wF M w f) g (M 23 1).toNat) - off)) else dbt M f g off x w
theorem dbt_rg {M : xM} {f g : Nat → Int} {off x : Int} (ho : 0 ≤ off ∧ off ≤ 1000000) (hf : ∀ w : Nat, M 15 w ≠ -1 → w < 10 → 0 ≤ mt (wF M w f) g (M 23 1).toNat) : ∀ w, w ≤ 10 → -1000000 ≤ dbt M f g off x w ∧ dbt M f g off x w ≤ 1000000
  | 0, _ => by rw [dbt]; omega
  | w + 1, hw => by
    have h1 := dbt_rg (x := x) ho hf w (by omega)
    rw [dbt]
    by_cases q : (w : Int) ≠ x ∧ M 15 w ≠ -1
    · have h2 := hf w q.2 (by omega)
      rw [if_pos q]
      split <;> omega
    · rw [if_neg q]; exact h1
theorem arF_rg {M : xM} {s : Nat → Int} {n : Nat} (hk : rdOk M) (hw : ∀ q, q < n → hP M (s q)) : ∀ q, q ≤ n → ∀ j : Nat, (j : Int) ≤ M 23 1 → 0 ≤ arF M s q j ∧ arF M s q j ≤ 180 + 54 * q
  | 0, _, j, hj => by
    have := hk.1.2.1
    show 0 ≤ 3 * (j : Int) ∧ 3 * (j : Int) ≤ 180 + 54 * ((0 : Nat) : Int)
    omega
  | q + 1, hq, j, hj => by
    have h2 := hk.2.2
    obtain ⟨w1, w2, w3⟩ := hw q (by omega)
    rw [arF]
    have := wF_rg hk (by omega) w3 (arF_rg hk hw q (by omega)) j hj
    omega
theorem arB_rg {M : xM} {s : Nat → Int} {n : Nat} (hk : rdOk M) (hw : ∀ q, q < n → hP M (s q)) : ∀ q, q ≤ n → ∀ j : Nat, (j : Int) ≤ M 23 1 → 0 ≤ arB M s n q j ∧ arB M s n q j ≤ 180 + 54 * q
  | 0, _, j, hj => by
    have := hk.1.2.1
    show 0 ≤ 3 * (M 23 1 - (j : Int)) ∧ 3 * (M 23 1 - (j : Int)) ≤ 180 + 54 * ((0 : Nat) : Int)
    omega
  | q + 1, hq, j, hj => by
    have h2 := hk.2.2
    obtain ⟨w1, w2, w3⟩ := hw (n - (q + 1)) (by omega)
    rw [arB]
    have := wB_rg hk (by omega) w3 (arB_rg hk hw q (by omega)) j hj
    omega
set_option maxRecDepth 100000 in
set_option maxHeartbeats 2000000 in
theorem c_doubtAt {M M' : xM} {Q : Option xV → xM → Prop} {i n : Nat} (fr : frE M M') (hk : rdOk M) (hn : n ≤ 12) (hi : i < n) (e5 : M' 25 5 = (n : Int)) (ho : 0 ≤ M' 25 6 ∧ M' 25 6 ≤ 1000000) (hw : ∀ q, q < n → hP M (M' 27 q)) (hq : ∀ M'', (∀ a, a ≠ 42 ∧ a ≠ 43 ∧ a ≠ 44 → M'' a = M' a) → Q (some (xI (dbt M (arF M (M' 27) i) (arB M (M' 27) n (n - i - 1)) (M' 25 6) (M' 27 i) (M 3 2).toNat))) M'') : xm 5 m_Reader_doubtAt [xR (some 25), xI (i : Int)] M' Q := by
  obtain ⟨⟨n1, n2, n3⟩, hp, hw1, hw2⟩ := id hk
  obtain ⟨W, hW3⟩ := Int.eq_ofNat_of_zero_le hw1
  rw [show (M 3 2).toNat = W by omega] at hq
  (refine xm_of (own := "DrumTongue$Reader") rfl (by decide +kernel) tk_Reader [some (xR (some 25)), some (xI (i : Int)), none, none, none] (Nat.le_of_ble_eq_true rfl) rfl ?_; intro D nx X C P hW)
  have loop : ∀ (m w : Nat) (M1 : xM) (v4 : Option xV), w + m = W → (∀ a, a ≠ 42 ∧ a ≠ 43 ∧ a ≠ 44 → M1 a = M' a) → (∀ j : Nat, (j : Int) ≤ M 23 1 → M1 42 j = arF M (M' 27) i j) → (∀ j : Nat, (j : Int) ≤ M 23 1 → M1 43 j = arB M (M' 27) n (n - i - 1) j) → X 29 [some (xR (some 25)), some (xI (i : Int)), some (xI (dbt M (arF M (M' 27) i) (arB M (M' 27) n (n - i - 1)) (M' 25 6) (M' 27 i) w)), some (xI (w : Int)), v4] [] (M1, D, nx) 0 0 := by
    have uF := arF_rg hk hw i (by omega)
    have uB := arB_rg hk hw (n - i - 1) (by omega)
    have g0 : ∀ w : Nat, M 15 w ≠ -1 → w < 10 → 0 ≤ mt (wF M w (arF M (M' 27) i)) (arB M (M' 27) n (n - i - 1)) (M 23 1).toNat := fun w h1 h2 => mt_rg (fun j hj => (wF_rg hk h2 h1 uF j (by omega)).1) (fun j hj => (uB j (by omega)).1)
    intro m
    induction m with
    | zero =>
      intro w M1 v4 hwm h1 h2 h3
      have e3 : M1 3 2 = (W : Int) := by rw [h1 3 (by omega), fr 3 (by omega)]; exact hW3
      rw [show w = W by omega]
      refine xg hW k_Reader_doubtAt [29] 40 ?_
      ((repeat' (first | (with_reducible refine And.intro ?_ ?_) | (intro h0; exact absurd h0 (by decide)) | (intro _) | ((conv => whnf); (first | (with_reducible refine And.intro ?_ ?_) | (intro h0; exact absurd h0 (by decide)) | (intro _) | (rw [e3]) | (refine hW.1 _ _ _ _ _ _ (c_wordCount ?_) (by first | decide | omega) (by decide) (Nat.le_of_ble_eq_true rfl)))))); (all_goals (try omega)); (all_goals (try exact Nat.le_of_ble_eq_true rfl)); (all_goals (try ((conv => whnf); (first | (refine hW.2.1 _ _ ?_) | (change X _ _ _ _ _ _) | (change C _ _ _ _ _ _ _))))); (all_goals (try simp only [xup_at, xup_ne, xup_up, ne_eq, Nat.reduceEqDiff, not_false_eq_true, Int.toNat_natCast, x_lcmp] at *)); (all_goals (try omega)))
      any_goals (exact xnn (by omega))
      exact hq M1 h1
    | succ m ih =>
      intro w M1 v4 hwm h1 h2 h3
      have fr1 : frE M M1 := fun a ha => by rw [h1 a (by omega)]; exact fr a ha
      have e3 : M1 3 2 = (W : Int) := by rw [fr1 3 (by omega)]; exact hW3
      have e15 : M1 15 w = M 15 w := by rw [fr1 15 (by omega)]
      have e27 : M1 27 i = M' 27 i := by rw [h1 27 (by omega)]
      have hp' := (rdOk_fr fr1 hk).2.1
      have hw10 : w < 10 := by omega
      have hwi := hw i hi
      obtain ⟨y1, y2, y3⟩ := id hwi
      have d1 := dbt_rg (x := M' 27 i) ho g0 w (by omega)
      have ds : dbt M (arF M (M' 27) i) (arB M (M' 27) n (n - i - 1)) (M' 25 6) (M' 27 i) (w + 1) = _ := dbt.eq_2 ..
      refine xg hW k_Reader_doubtAt [29] 40 ?_
      ((repeat' (first | (with_reducible refine And.intro ?_ ?_) | (intro h0; exact absurd h0 (by decide)) | (intro _) | ((conv => whnf); (first | (with_reducible refine And.intro ?_ ?_) | (intro h0; exact absurd h0 (by decide)) | (intro _) | (rw [e3]) | (rw [e15]) | (rw [e27]) | (refine hW.1 _ _ _ _ _ _ (c_wordCount ?_) (by first | decide | omega) (by decide) (Nat.le_of_ble_eq_true rfl)) | (refine hW.1 _ _ _ _ _ _ (c_hasPhraseI hp' ?_) (by first | decide | omega) (by decide) (Nat.le_of_ble_eq_true rfl)) | (refine hW.1 _ _ _ _ _ _ (c_copy rowA_42 rowA_44 ?_) (by first | decide | omega) (by decide) (Nat.le_of_ble_eq_true rfl)))))); (all_goals (try omega)); (all_goals (try exact Nat.le_of_ble_eq_true rfl)); (all_goals (try ((conv => whnf); (first | (refine hW.2.1 _ _ ?_) | (change X _ _ _ _ _ _) | (change C _ _ _ _ _ _ _))))); (all_goals (try simp only [xup_at, xup_ne, xup_up, ne_eq, Nat.reduceEqDiff, not_false_eq_true, Int.toNat_natCast, x_lcmp] at *)); (all_goals (try omega)))
      any_goals (exact xnn (by omega))
      · rename_i _ hx
        have := ih (w + 1) M1 v4 (by omega) h1 h2 h3
        rw [ds, if_neg (fun hh => hh.1 (by rw [← e27]; exact hx)), show ((w + 1 : Nat) : Int) = (w : Int) + 1 by omega] at this
        exact this
      · rename_i hw0 hx hP1 _ f hf
        have hP2 : M 15 w ≠ -1 := by rw [← e15]; exact hP1
        have hx2 : (w : Int) ≠ M' 27 i := by rw [← e27]; exact hx
        have hh : hP M (w : Int) := ⟨by omega, by omega, by rw [Int.toNat_natCast]; exact hP2⟩
        have fr2 : frE M (xup M1 44 f) := frE_up (by omega) fr1
        have ef : ∀ j : Nat, (j : Int) ≤ M 23 1 → f j = arF M (M' 27) i j := fun j hj => (hf j (by omega)).trans (h2 j hj)
        have hr' : cR (M 23 1) ((xup M1 44 f) 44) := by
          intro j hj
          rw [xup_at, ef j hj]
          have := uF j hj
          omega
        ((repeat' (first | (with_reducible refine And.intro ?_ ?_) | (intro h0; exact absurd h0 (by decide)) | (intro _) | ((conv => whnf); (first | (with_reducible refine And.intro ?_ ?_) | (intro h0; exact absurd h0 (by decide)) | (intro _) | (refine hW.1 _ _ _ _ _ _ (c_behind fr2 hk rowA_44 hr' hh ?_) (by first | decide | omega) (by decide) (Nat.le_of_ble_eq_true rfl)))))); (all_goals (try omega)); (all_goals (try exact Nat.le_of_ble_eq_true rfl)); (all_goals (try ((conv => whnf); (first | (refine hW.2.1 _ _ ?_) | (change X _ _ _ _ _ _) | (change C _ _ _ _ _ _ _))))); (all_goals (try simp only [xup_at, xup_ne, xup_up, ne_eq, Nat.reduceEqDiff, not_false_eq_true, Int.toNat_natCast, x_lcmp] at *)); (all_goals (try omega)))
        rename_i f2 hf2
        have ef2 : ∀ j : Nat, (j : Int) ≤ M 23 1 → f2 j = wF M w (arF M (M' 27) i) j := fun j hj => (hf2 j hj).trans (wF_congr w n1 ef j hj)
        have fr3 : frE M (xup M1 44 f2) := frE_up (by omega) fr1
        have g1 : ∀ j : Nat, (j : Int) ≤ M 23 1 → 0 ≤ wF M w (arF M (M' 27) i) j ∧ wF M w (arF M (M' 27) i) j ≤ 1900000 := fun j hj => by
          have := wF_rg hk hw10 hP2 uF j hj
          omega
        have g2 : ∀ j : Nat, (j : Int) ≤ M 23 1 → 0 ≤ arB M (M' 27) n (n - i - 1) j ∧ arB M (M' 27) n (n - i - 1) j ≤ 1900000 := fun j hj => by
          have := uB j hj
          omega
        have g3 := g0 w hP2 hw10
        have g4 : ∀ j : Nat, (j : Int) ≤ M 23 1 → (xup M1 44 f2) 44 j = wF M w (arF M (M' 27) i) j := fun j hj => by rw [xup_at]; exact ef2 j hj
        have g5 : ∀ j : Nat, (j : Int) ≤ M 23 1 → (xup M1 44 f2) 43 j = arB M (M' 27) n (n - i - 1) j := fun j hj => by rw [xup_ne (by omega)]; exact h3 j hj
        have e25 : M1 25 6 = M' 25 6 := by rw [h1 25 (by omega)]
        rw [if_pos ⟨hx2, hP2⟩] at ds
        have next := fun v => ih (w + 1) (xup M1 44 f2) v (by omega) (fun a ha => by rw [xup_ne (by omega)]; exact h1 a ha) (fun j hj => by rw [xup_ne (by omega)]; exact h2 j hj) (fun j hj => by rw [xup_ne (by omega)]; exact h3 j hj)
        rw [ds, show ((w + 1 : Nat) : Int) = (w : Int) + 1 by omega] at next
        clear ds
        generalize dbt M (arF M (M' 27) i) (arB M (M' 27) n (n - i - 1)) (M' 25 6) (M' 27 i) w = dd at *
        ((repeat' (first | (with_reducible refine And.intro ?_ ?_) | (intro h0; exact absurd h0 (by decide)) | (intro _) | ((conv => whnf); (first | (with_reducible refine And.intro ?_ ?_) | (intro h0; exact absurd h0 (by decide)) | (intro _) | (rw [e25]) | (refine hW.1 _ _ _ _ _ _ (c_lt fr3 hk rowA_44 rowA_43 g4 g5 g1 g2 ?_) (by first | decide | omega) (by decide) (Nat.le_of_ble_eq_true rfl)))))); (all_goals (try omega)); (all_goals (try exact Nat.le_of_ble_eq_true rfl)); (all_goals (try ((conv => whnf); (first | (refine hW.2.1 _ _ ?_) | (change X _ _ _ _ _ _) | (change C _ _ _ _ _ _ _))))); (all_goals (try simp only [xup_at, xup_ne, xup_up, ne_eq, Nat.reduceEqDiff, not_false_eq_true, Int.toNat_natCast, x_lcmp] at *)); (all_goals (try omega)))
        · rename_i hd
          rw [e25]
          simp only [if_neg hd] at next
          exact next _
        · rename_i hd
          rw [e25]
          simp only [if_pos hd] at next
          exact next _
      · rename_i _ hx hP1 _
        have hP2 : M 15 w = -1 := by rw [← e15]; exact hP1
        have := ih (w + 1) M1 v4 (by omega) h1 h2 h3
        rw [ds, if_neg (fun hh => hh.2 hP2), show ((w + 1 : Nat) : Int) = (w : Int) + 1 by omega] at this
        exact this
  refine xg hW k_Reader_doubtAt [29] 40 ?_
  ((repeat' (first | (with_reducible refine And.intro ?_ ?_) | (intro h0; exact absurd h0 (by decide)) | (intro _) | ((conv => whnf); (first | (with_reducible refine And.intro ?_ ?_) | (intro h0; exact absurd h0 (by decide)) | (intro _) | (rw [e5]) | (refine hW.1 _ _ _ _ _ _ (c_weighAround fr hk hn hi e5 hw ?_) (by first | decide | omega) (by decide) (Nat.le_of_ble_eq_true rfl)))))); (all_goals (try omega)); (all_goals (try exact Nat.le_of_ble_eq_true rfl)); (all_goals (try ((conv => whnf); (first | (refine hW.2.1 _ _ ?_) | (change X _ _ _ _ _ _) | (change C _ _ _ _ _ _ _))))); (all_goals (try simp only [xup_at, xup_ne, xup_up, ne_eq, Nat.reduceEqDiff, not_false_eq_true, Int.toNat_natCast, x_lcmp] at *)); (all_goals (try omega)))
  any_goals (exact xnn (by omega))
  rename_i M2 h1 h2 h3
  exact loop W 0 M2 none (by omega) (fun a ha => h1 a (by omega)) h2 h3
/-- of the first k words: the first with the least doubt d, and that doubt (-1: none) -/
def mid (d : Nat → Int) : Nat → Int × Int
  | 0 => (-1, -1)
  | k + 1 => if d k ≠ -1 ∧ ((mid d k).1 = -1 ∨ d k < (mid d k).2) then (k, d k) else mid d k
theorem mid_rg {d : Nat → Int} : ∀ k, (∀ i, i < k → -1000000 ≤ d i ∧ d i ≤ 1000000) → -1 ≤ (mid d k).1 ∧ (mid d k).1 ≤ k ∧ -1000000 ≤ (mid d k).2 ∧ (mid d k).2 ≤ 1000000
  | 0, _ => by rw [mid]; decide
  | k + 1, h => by
    have h1 := mid_rg (d := d) k fun i hi => h i (by omega)
    have h2 := h k (by omega)
    rw [mid]
    split
    · show -1 ≤ (k : Int) ∧ (k : Int) ≤ ((k + 1 : Nat) : Int) ∧ -1000000 ≤ d k ∧ d k ≤ 1000000
      omega
    · omega
set_option maxRecDepth 100000 in
set_option maxHeartbeats 2000000 in
theorem c_mostInDoubt {M M' : xM} {Q : Option xV → xM → Prop} {n : Nat} (fr : frE M M') (hk : rdOk M) (hn : n ≤ 12) (e5 : M' 25 5 = (n : Int)) (ho : 0 ≤ M' 25 6 ∧ M' 25 6 ≤ 1000000) (hw : ∀ q, q < n → hP M (M' 27 q)) (hq : ∀ M'', (∀ a, a ≠ 42 ∧ a ≠ 43 ∧ a ≠ 44 → M'' a = M' a) → Q (some (xI (mid (fun i => dbt M (arF M (M' 27) i) (arB M (M' 27) n (n - i - 1)) (M' 25 6) (M' 27 i) (M 3 2).toNat) n).1)) M'') : xm 6 m_Reader_mostInDoubt [xR (some 25)] M' Q := by
  generalize hd : (fun i => dbt M (arF M (M' 27) i) (arB M (M' 27) n (n - i - 1)) (M' 25 6) (M' 27 i) (M 3 2).toNat) = d at hq
  (refine xm_of (own := "DrumTongue$Reader") rfl (by decide +kernel) tk_Reader [some (xR (some 25)), none, none, none, none] (Nat.le_of_ble_eq_true rfl) rfl ?_; intro D nx X C P hW)
  have loop : ∀ (m k : Nat) (M1 : xM) (v : Option xV), k + m = n → (∀ a, a ≠ 42 ∧ a ≠ 43 ∧ a ≠ 44 → M1 a = M' a) → X 6 [some (xR (some 25)), some (xI (mid d k).1), some (xI (mid d k).2), some (xI (k : Int)), v] [] (M1, D, nx) 0 0 := by
    intro m
    induction m with
    | zero =>
      intro k M1 v hkm h1
      have e : M1 25 5 = (n : Int) := by rw [h1 25 (by omega)]; exact e5
      rw [show k = n by omega]
      refine xg hW k_Reader_mostInDoubt [6] 40 ?_
      ((repeat' (first | (with_reducible refine And.intro ?_ ?_) | (intro h0; exact absurd h0 (by decide)) | (intro _) | ((conv => whnf); (first | (with_reducible refine And.intro ?_ ?_) | (intro h0; exact absurd h0 (by decide)) | (intro _) | (rw [e]))))); (all_goals (try omega)); (all_goals (try exact Nat.le_of_ble_eq_true rfl)); (all_goals (try ((conv => whnf); (first | (refine hW.2.1 _ _ ?_) | (change X _ _ _ _ _ _) | (change C _ _ _ _ _ _ _))))); (all_goals (try simp only [xup_at, xup_ne, xup_up, ne_eq, Nat.reduceEqDiff, not_false_eq_true, Int.toNat_natCast, x_lcmp] at *)); (all_goals (try omega)))
      any_goals (exact xnn (by omega))
      exact hq M1 h1
    | succ m ih =>
      intro k M1 v hkm h1
      have e : M1 25 5 = (n : Int) := by rw [h1 25 (by omega)]; exact e5
      have e6 : M1 25 6 = M' 25 6 := by rw [h1 25 (by omega)]
      have e7 : M1 27 = M' 27 := h1 27 (by omega)
      have fr1 : frE M M1 := fun a ha => by rw [h1 a (by omega)]; exact fr a ha
      have cd : ∀ Q : Option xV → xM → Prop, (∀ M'', (∀ a, a ≠ 42 ∧ a ≠ 43 ∧ a ≠ 44 → M'' a = M' a) → Q (some (xI (d k))) M'') → xm 5 m_Reader_doubtAt [xR (some 25), xI (k : Int)] M1 Q := by
        intro Q hQ
        refine c_doubtAt fr1 hk hn (show k < n by omega) e (by rw [e6]; exact ho) (by rw [e7]; exact hw) fun M'' hM => ?_
        rw [e6, e7]
        have := hQ M'' fun a ha => (hM a ha).trans (h1 a ha)
        rw [← hd] at this
        exact this
      have hdr : ∀ i, i < n → -1000000 ≤ d i ∧ d i ≤ 1000000 := fun i hi => by
        rw [← hd]
        refine dbt_rg ho (fun w h1 h2 => mt_rg (fun j hj => (wF_rg hk h2 h1 (arF_rg hk hw i (by omega)) j ?_).1) (fun j hj => (arB_rg hk hw (n - i - 1) (by omega) j ?_).1)) _ ?_
        · have := hk.1.1; omega
        · have := hk.1.1; omega
        · have := hk.2.2; omega
      have r1 := mid_rg (d := d) k fun i hi => hdr i (by omega)
      have r2 := hdr k (by omega)
      have ms : mid d (k + 1) = if d k ≠ -1 ∧ ((mid d k).1 = -1 ∨ d k < (mid d k).2) then ((k : Int), d k) else mid d k := by rw [mid]
      have next := fun (M2 : xM) (v : Option xV) (h2 : ∀ a, a ≠ 42 ∧ a ≠ 43 ∧ a ≠ 44 → M2 a = M' a) => ih (k + 1) M2 v (by omega) h2
      rw [ms, show ((k + 1 : Nat) : Int) = (k : Int) + 1 by omega] at next
      clear ms hd
      generalize mid d k = mm at *
      refine xg hW k_Reader_mostInDoubt [6] 40 ?_
      ((repeat' (first | (with_reducible refine And.intro ?_ ?_) | (intro h0; exact absurd h0 (by decide)) | (intro _) | ((conv => whnf); (first | (with_reducible refine And.intro ?_ ?_) | (intro h0; exact absurd h0 (by decide)) | (intro _) | (rw [e]) | (refine hW.1 _ _ _ _ _ _ (cd _ ?_) (by first | decide | omega) (by decide) (Nat.le_of_ble_eq_true rfl)))))); (all_goals (try omega)); (all_goals (try exact Nat.le_of_ble_eq_true rfl)); (all_goals (try ((conv => whnf); (first | (refine hW.2.1 _ _ ?_) | (change X _ _ _ _ _ _) | (change C _ _ _ _ _ _ _))))); (all_goals (try simp only [xup_at, xup_ne, xup_up, ne_eq, Nat.reduceEqDiff, not_false_eq_true, Int.toNat_natCast, x_lcmp] at *)); (all_goals (try omega)))
      any_goals (exact xnn (by omega))
      · rename_i M2 h2 h3
        simp only [if_neg (show ¬(¬d k = -1 ∧ (mm.fst = -1 ∨ d k < mm.snd)) from fun hh => hh.1 h3)] at next
        exact next M2 _ h2
      · rename_i M2 h2 h3 h4
        simp only [if_pos (show ¬d k = -1 ∧ (mm.fst = -1 ∨ d k < mm.snd) from ⟨h3, Or.inl h4⟩)] at next
        exact next M2 _ h2
      · rename_i M2 h2 h3 h4 h5
        simp only [if_neg (show ¬(¬d k = -1 ∧ (mm.fst = -1 ∨ d k < mm.snd)) from fun hh => by omega)] at next
        exact next M2 _ h2
      · rename_i M2 h2 h3 h4 h5
        simp only [if_pos (show ¬d k = -1 ∧ (mm.fst = -1 ∨ d k < mm.snd) from ⟨h3, Or.inr h5⟩)] at next
        exact next M2 _ h2
  refine xg hW k_Reader_mostInDoubt [6] 40 ?_
  ((repeat' (first | (with_reducible refine And.intro ?_ ?_) | (intro h0; exact absurd h0 (by decide)) | (intro _) | ((conv => whnf); (first | (with_reducible refine And.intro ?_ ?_) | (intro h0; exact absurd h0 (by decide)) | (intro _))))); (all_goals (try omega)); (all_goals (try exact Nat.le_of_ble_eq_true rfl)); (all_goals (try ((conv => whnf); (first | (refine hW.2.1 _ _ ?_) | (change X _ _ _ _ _ _) | (change C _ _ _ _ _ _ _))))); (all_goals (try simp only [xup_at, xup_ne, xup_up, ne_eq, Nat.reduceEqDiff, not_false_eq_true, Int.toNat_natCast, x_lcmp] at *)); (all_goals (try omega)))
  exact loop n 0 M' none (by omega) fun a _ => rfl
