/-! the reference: how far phrases are apart -/
set_option maxRecDepth 100000 in
set_option maxHeartbeats 1000000 in
theorem z_bitsOf {M : xM} {Q : Option xV → xM → Prop} {w t : Nat} (hz : zOk M) (h : ((w : Int) < M 3 2 ∧ (t : Int) < M 10 2) ∧ Q (some (xI (pN M w t))) M) : xm 1 m_M_bitsOf [xR (some 64), xI (w : Int), xI (t : Int)] M Q := by
  obtain ⟨hw, he, htb, hl, hr, ht, -, -⟩ := hz
  obtain ⟨⟨hw1, ht1⟩, hq⟩ := h
  obtain ⟨x, hg, t31, e70, e71, e72, e73, s1, s2, -, -, hx⟩ := tab_at he hl ht hw1 ht1
  obtain ⟨w0, w10, wb⟩ := hw
  obtain ⟨w1, w2, w3, w4⟩ := wb w hw1
  have hpB := (pB ⟨w0, w10, wb⟩ htb hw1 ht1).2
  obtain ⟨p1, p2, p3, p4⟩ := hpB
  unfold pN at hq p3 p4
  have e66 : M 66 w = M 5 w := (hr.2.2.2.1 w hw1).2
  rw [show 31 * w + t = (31 * (w : Int) + (t : Int)).toNat by omega] at e71 e72 e73
  have w10' : w < 10 := by omega
  obtain ⟨e0, e5, eb⟩ := he
  rcases hx with rfl | ⟨i, rfl, hi⟩ | ⟨i, j, rfl, hi, hj⟩
  · simp only [szT, nuT] at s1 s2
    rw [s1, s2, show ((0 : Int).toNat) = 0 from rfl] at hq
    simp only at e71 e72 e73
    rw [show M 5 w * 2 ^ 0 + 0 = M 5 w by omega, ← e66] at hq
    (refine xm_of (own := "DrumTongueModel") rfl (by decide +kernel) tk_M [some (xR (some 64)), some (xI (w : Int)), some (xI (t : Int)), none, none] (Nat.le_of_ble_eq_true rfl) rfl ?_; intro D nx X C P hW)
    refine xg hW k_M_bitsOf [] 40 ?_
    ((repeat' (first | (with_reducible refine And.intro ?_ ?_) | (intro h0; exact absurd h0 (by decide)) | (intro _) | ((conv => whnf); (first | (with_reducible refine And.intro ?_ ?_) | (intro h0; exact absurd h0 (by decide)) | (intro _))))); (all_goals (try omega)); (all_goals (try exact xnn (by omega))); (all_goals (try exact Nat.le_of_ble_eq_true rfl)); (all_goals (try ((conv => whnf); (first | (refine hW.2.1 _ _ ?_) | (change X _ _ _ _ _ _) | (change C _ _ _ _ _ _ _))))); (all_goals (try simp only [xup_at, xup_ne, xup_up, ne_eq, Nat.reduceEqDiff, not_false_eq_true, Int.toNat_natCast, x_lcmp] at *)); (all_goals (try omega)))
    all_goals exact hq
  · simp only [szT, nuT] at s1 s2
    obtain ⟨b1, b2, b3, b4⟩ := eb i hi
    obtain ⟨f1, f2⟩ := hr.2.2.2.2.1 i hi
    simp only at e71 e72 e73
    rw [s1, s2] at hq p3 p4
    have e := xior (a := M 5 w) (k := M 7 i) (b := M 8 i) w3 b3 (by omega) (by omega) b4 (by omega)
    rw [← e, ← f1, ← f2, ← e66] at hq
    (refine xm_of (own := "DrumTongueModel") rfl (by decide +kernel) tk_M [some (xR (some 64)), some (xI (w : Int)), some (xI (t : Int)), none, none] (Nat.le_of_ble_eq_true rfl) rfl ?_; intro D nx X C P hW)
    refine xg hW k_M_bitsOf [] 40 ?_
    ((repeat' (first | (with_reducible refine And.intro ?_ ?_) | (intro h0; exact absurd h0 (by decide)) | (intro _) | ((conv => whnf); (first | (with_reducible refine And.intro ?_ ?_) | (intro h0; exact absurd h0 (by decide)) | (intro _))))); (all_goals (try omega)); (all_goals (try exact xnn (by omega))); (all_goals (try exact Nat.le_of_ble_eq_true rfl)); (all_goals (try ((conv => whnf); (first | (refine hW.2.1 _ _ ?_) | (change X _ _ _ _ _ _) | (change C _ _ _ _ _ _ _))))); (all_goals (try simp only [xup_at, xup_ne, xup_up, ne_eq, Nat.reduceEqDiff, not_false_eq_true, Int.toNat_natCast, x_lcmp] at *)); (all_goals (try omega)))
    all_goals rw [e72, Int.toNat_natCast]
    all_goals exact hq
  · simp only [szT, nuT] at s1 s2
    obtain ⟨b1, b2, b3, b4⟩ := eb i hi
    obtain ⟨c1, c2, c3, c4⟩ := eb j hj
    obtain ⟨f1, f2⟩ := hr.2.2.2.2.1 i hi
    obtain ⟨g1, g2⟩ := hr.2.2.2.2.1 j hj
    simp only at e71 e72 e73
    rw [s1, s2] at hq p3 p4
    have q1 := xmul_lt w3 w4 b3 b4
    have q2 : (2 : Int) ^ ((M 4 w).toNat + (M 7 i).toNat) ≤ 2 ^ 12 := xpow_le (by omega)
    have q3 := xmul_lt q1.1 q1.2 c3 c4
    have q4 : (2 : Int) ^ ((M 4 w).toNat + (M 7 i).toNat + (M 7 j).toNat) ≤ 2 ^ 18 := xpow_le (by omega)
    have e := xior (a := M 5 w) (k := M 7 i) (b := M 8 i) w3 b3 (by omega) (by omega) b4 (by omega)
    have e' := xior (a := M 5 w * 2 ^ (M 7 i).toNat + M 8 i) (k := M 7 j) (b := M 8 j) q1.1 c3 (by omega) (by omega) c4 (by omega)
    have ev : M 5 w * 2 ^ (M 7 i + M 7 j).toNat + (M 8 i * 2 ^ (M 7 j).toNat + M 8 j) = (M 5 w * 2 ^ (M 7 i).toNat + M 8 i) * 2 ^ (M 7 j).toNat + M 8 j := by
      rw [show (M 7 i + M 7 j).toNat = (M 7 i).toNat + (M 7 j).toNat by omega, Int.pow_add, Int.add_mul, Int.mul_assoc, Int.add_assoc]
    rw [ev, ← e', ← e, ← f1, ← f2, ← g1, ← g2, ← e66] at hq
    (refine xm_of (own := "DrumTongueModel") rfl (by decide +kernel) tk_M [some (xR (some 64)), some (xI (w : Int)), some (xI (t : Int)), none, none] (Nat.le_of_ble_eq_true rfl) rfl ?_; intro D nx X C P hW)
    refine xg hW k_M_bitsOf [] 40 ?_
    ((repeat' (first | (with_reducible refine And.intro ?_ ?_) | (intro h0; exact absurd h0 (by decide)) | (intro _) | ((conv => whnf); (first | (with_reducible refine And.intro ?_ ?_) | (intro h0; exact absurd h0 (by decide)) | (intro _))))); (all_goals (try omega)); (all_goals (try exact xnn (by omega))); (all_goals (try exact Nat.le_of_ble_eq_true rfl)); (all_goals (try ((conv => whnf); (first | (refine hW.2.1 _ _ ?_) | (change X _ _ _ _ _ _) | (change C _ _ _ _ _ _ _))))); (all_goals (try simp only [xup_at, xup_ne, xup_up, ne_eq, Nat.reduceEqDiff, not_false_eq_true, Int.toNat_natCast, x_lcmp] at *)); (all_goals (try omega)))
    all_goals rw [e72, e73, Int.toNat_natCast, Int.toNat_natCast]
    all_goals exact hq
set_option maxRecDepth 100000 in
set_option maxHeartbeats 600000 in
theorem z_ones {M : xM} {Q : Option xV → xM → Prop} {v : Nat} (h : v < 2 ^ 18 ∧ Q (some (xI (ones v : Nat))) M) : xm 1 m_M_ones [xI (v : Int)] M Q := by
  obtain ⟨hv, h⟩ := h
  (refine xm_of (own := "DrumTongueModel") rfl (by decide +kernel) tk_M [some (xI (v : Int)), none, none] (Nat.le_of_ble_eq_true rfl) rfl ?_; intro D nx X C P hW)
  have loop : ∀ (m k : Nat), k + m = 20 → X 4 [some (xI (v : Int)), some (xI (onesU v k : Nat)), some (xI (k : Int))] [] (M, D, nx) 0 0 := by
    intro m
    induction m with
    | zero =>
      intro k hk
      obtain rfl : k = 20 := by omega
      refine xg hW k_M_ones [4] 40 ?_
      ((repeat' (first | (with_reducible refine And.intro ?_ ?_) | (intro h0; exact absurd h0 (by decide)) | (intro _) | ((conv => whnf); (first | (with_reducible refine And.intro ?_ ?_) | (intro h0; exact absurd h0 (by decide)) | (intro _))))); (all_goals (try omega)); (all_goals (try exact xnn (by omega))); (all_goals (try exact Nat.le_of_ble_eq_true rfl)); (all_goals (try ((conv => whnf); (first | (refine hW.2.1 _ _ ?_) | (change X _ _ _ _ _ _) | (change C _ _ _ _ _ _ _))))); (all_goals (try simp only [xup_at, xup_ne, xup_up, ne_eq, Nat.reduceEqDiff, not_false_eq_true, Int.toNat_natCast, x_lcmp] at *)); (all_goals (try omega)))
      all_goals exact h
    | succ m ih =>
      intro k hk
      have e : ((onesU v k : Nat) : Int) + x_iand (x_ishr (v : Int) (k : Int)) 1 = (onesU v (k + 1) : Nat) := by
        rw [onesU, xbit (by omega) (by omega) (by omega) (by omega), Int.toNat_natCast, Int.toNat_natCast, Int.natCast_add]
      have h5 := ih (k + 1) (by omega)
      refine xg hW k_M_ones [4] 40 ?_
      ((repeat' (first | (with_reducible refine And.intro ?_ ?_) | (intro h0; exact absurd h0 (by decide)) | (intro _) | ((conv => whnf); (first | (with_reducible refine And.intro ?_ ?_) | (intro h0; exact absurd h0 (by decide)) | (intro _))))); (all_goals (try omega)); (all_goals (try exact xnn (by omega))); (all_goals (try exact Nat.le_of_ble_eq_true rfl)); (all_goals (try ((conv => whnf); (first | (refine hW.2.1 _ _ ?_) | (change X _ _ _ _ _ _) | (change C _ _ _ _ _ _ _))))); (all_goals (try simp only [xup_at, xup_ne, xup_up, ne_eq, Nat.reduceEqDiff, not_false_eq_true, Int.toNat_natCast, x_lcmp] at *)); (all_goals (try omega)))
      rw [e]
      exact h5
  refine xg hW k_M_ones [4] 40 ?_
  ((repeat' (first | (with_reducible refine And.intro ?_ ?_) | (intro h0; exact absurd h0 (by decide)) | (intro _) | ((conv => whnf); (first | (with_reducible refine And.intro ?_ ?_) | (intro h0; exact absurd h0 (by decide)) | (intro _))))); (all_goals (try omega)); (all_goals (try exact xnn (by omega))); (all_goals (try exact Nat.le_of_ble_eq_true rfl)); (all_goals (try ((conv => whnf); (first | (refine hW.2.1 _ _ ?_) | (change X _ _ _ _ _ _) | (change C _ _ _ _ _ _ _))))); (all_goals (try simp only [xup_at, xup_ne, xup_up, ne_eq, Nat.reduceEqDiff, not_false_eq_true, Int.toNat_natCast, x_lcmp] at *)); (all_goals (try omega)))
  exact loop 20 0 (by omega)
theorem onesU_zero {v : Nat} : ∀ {k : Nat}, onesU v k = 0 → ∀ i, i < k → v.testBit i = false
  | 0, _, i, hi => absurd hi (by omega)
  | k + 1, h, i, hi => by
    rw [onesU] at h
    by_cases c : i = k
    · rw [c, Nat.testBit_eq_decide_div_mod_eq, ← Nat.shiftRight_eq_div_pow]
      simp only [decide_eq_false_iff_not]
      omega
    · exact onesU_zero (k := k) (by omega) i (by omega)
theorem ones_zero {v : Nat} (hv : v < 2 ^ 18) (h : ones v = 0) : v = 0 := by
  apply Nat.eq_of_testBit_eq
  intro i
  rw [Nat.zero_testBit]
  by_cases c : i < 20
  · exact onesU_zero h i c
  · exact Nat.testBit_lt_two_pow (Nat.lt_of_lt_of_le hv (Nat.pow_le_pow_right (by decide) (by omega)))
theorem ones_at0 : ones 0 = 0 := by decide
theorem xor_zero {x y : Nat} (h : x ^^^ y = 0) : x = y := by
  have : x ^^^ (x ^^^ y) = x := by rw [h, Nat.xor_zero]
  rw [← Nat.xor_assoc, Nat.xor_self, Nat.zero_xor] at this
  exact this.symm
theorem ones_xor {x y : Nat} (hx : x < 2 ^ 18) (hy : y < 2 ^ 18) : 0 < ones (x ^^^ y) ↔ x ≠ y := by
  constructor
  · rintro h rfl
    rw [Nat.xor_self, ones_at0] at h
    exact absurd h (by decide)
  · intro h
    rcases Nat.eq_zero_or_pos (ones (x ^^^ y)) with c | c
    · exact absurd (xor_zero (ones_zero (Nat.xor_lt_two_pow hx hy) c)) h
    · exact c
theorem dif_comm (a n b m : Int) : dif a n b m = dif b m a n := by
  unfold dif
  rw [Nat.xor_comm, Int.min_comm]
/-- how far two rows are apart -/
def farS (a n b m : Int) : Int := dif a n b m + (if 0 ≤ a - b then a - b else -(a - b))
theorem dif_gt {a b : Int} {n m : Nat} (h : b < a) : dif a n b m = (ones ((n >>> (a - b).toNat) ^^^ m) : Nat) := by
  unfold dif
  rw [Int.min_eq_right (by omega), Int.toNat_natCast, Int.toNat_natCast, Int.sub_self]
  rfl
theorem dif_le {a b : Int} {n m : Nat} (h : a ≤ b) : dif a n b m = (ones (n ^^^ (m >>> (b - a).toNat)) : Nat) := by
  unfold dif
  rw [Int.min_eq_left h, Int.toNat_natCast, Int.toNat_natCast, Int.sub_self]
  rfl
set_option maxRecDepth 100000 in
set_option maxHeartbeats 1000000 in
theorem z_apart {M : xM} {Q : Option xV → xM → Prop} {w p v q : Nat} (hz : zOk M) (h : ((w : Int) < M 3 2 ∧ (p : Int) < M 10 2 ∧ (v : Int) < M 3 2 ∧ (q : Int) < M 10 2) ∧ Q (some (xI (farS (pS M w p) (pN M w p) (pS M v q) (pN M v q)))) M) : xm 2 m_M_apart [xR (some 64), xI (w : Int), xI (p : Int), xI (v : Int), xI (q : Int)] M Q := by
  obtain ⟨⟨h1, h2, h3, h4⟩, hq⟩ := h
  obtain ⟨hw, he, htb, hl, hr, ht, -, -⟩ := id hz
  obtain ⟨-, -, t31, e70, -, -, -, -, -, -, -, -⟩ := tab_at he hl ht h1 h2
  obtain ⟨-, -, t31', e70', -, -, -, -, -, -, -, -⟩ := tab_at he hl ht h3 h4
  obtain ⟨-, p1, p2, p3, p4⟩ := pB hw htb h1 h2
  obtain ⟨-, q1, q2, q3, q4⟩ := pB hw htb h3 h4
  have w10 := hw.2.1
  rw [show 31 * w + p = (31 * (w : Int) + (p : Int)).toNat by omega] at e70
  rw [show 31 * v + q = (31 * (v : Int) + (q : Int)).toNat by omega] at e70'
  have cb1 : ∀ Q' : Option xV → xM → Prop, Q' (some (xI (pN M w p))) M → xm 1 m_M_bitsOf [xR (some 64), xI (w : Int), xI (p : Int)] M Q' := fun Q' h => z_bitsOf hz ⟨⟨h1, h2⟩, h⟩
  have cb2 : ∀ Q' : Option xV → xM → Prop, Q' (some (xI (pN M v q))) M → xm 1 m_M_bitsOf [xR (some 64), xI (v : Int), xI (q : Int)] M Q' := fun Q' h => z_bitsOf hz ⟨⟨h3, h4⟩, h⟩
  unfold farS at hq
  obtain ⟨n, hn⟩ := Int.eq_ofNat_of_zero_le p3
  obtain ⟨m, hm⟩ := Int.eq_ofNat_of_zero_le q3
  rw [hn] at hq cb1 p4
  rw [hm] at hq cb2 q4
  generalize pS M w p = a at *
  generalize pS M v q = b at *
  (refine xm_of (own := "DrumTongueModel") rfl (by decide +kernel) tk_M [some (xR (some 64)), some (xI (w : Int)), some (xI (p : Int)), some (xI (v : Int)), some (xI (q : Int)), none, none, none, none] (Nat.le_of_ble_eq_true rfl) rfl ?_; intro D nx X C P hW)
  refine xg hW k_M_apart [] 40 ?_
  ((repeat' (first | (with_reducible refine And.intro ?_ ?_) | (intro h0; exact absurd h0 (by decide)) | (intro _) | ((conv => whnf); (first | (with_reducible refine And.intro ?_ ?_) | (intro h0; exact absurd h0 (by decide)) | (intro _) | (rw [e70]) | (rw [e70']) | (refine hW.1 _ _ _ _ _ _ (cb1 _ ?_) (by first | decide | omega) (by decide) (Nat.le_of_ble_eq_true rfl)) | (refine hW.1 _ _ _ _ _ _ (cb2 _ ?_) (by first | decide | omega) (by decide) (Nat.le_of_ble_eq_true rfl)))))); (all_goals (try omega)); (all_goals (try exact xnn (by omega))); (all_goals (try exact Nat.le_of_ble_eq_true rfl)); (all_goals (try ((conv => whnf); (first | (refine hW.2.1 _ _ ?_) | (change X _ _ _ _ _ _) | (change C _ _ _ _ _ _ _))))); (all_goals (try simp only [xup_at, xup_ne, xup_up, ne_eq, Nat.reduceEqDiff, not_false_eq_true, Int.toNat_natCast, x_lcmp] at *)); (all_goals (try omega)))
  · have b1 := Nat.shiftRight_le m (b - a).toNat
    rw [dif_le (by omega)] at hq
    rw [xshr_i (by omega) (by omega) (by omega) (by omega), Int.toNat_natCast, xn_xor (by omega) (by omega)]
    refine hW.1 _ _ _ _ _ _ (z_ones ⟨Nat.xor_lt_two_pow (by omega) (by omega), ?_⟩) (by decide) (by decide) (Nat.le_of_ble_eq_true rfl)
    generalize ones (n ^^^ (m >>> (b - a).toNat)) = o at *
    rw [show ((o : Nat) : Int) + (if 0 ≤ a - b then a - b else -(a - b)) = (o : Int) + b - a by split <;> omega] at hq
    ((repeat' (first | (with_reducible refine And.intro ?_ ?_) | (intro h0; exact absurd h0 (by decide)) | (intro _) | ((conv => whnf); (first | (with_reducible refine And.intro ?_ ?_) | (intro h0; exact absurd h0 (by decide)) | (intro _))))); (all_goals (try omega)); (all_goals (try exact xnn (by omega))); (all_goals (try exact Nat.le_of_ble_eq_true rfl)); (all_goals (try ((conv => whnf); (first | (refine hW.2.1 _ _ ?_) | (change X _ _ _ _ _ _) | (change C _ _ _ _ _ _ _))))); (all_goals (try simp only [xup_at, xup_ne, xup_up, ne_eq, Nat.reduceEqDiff, not_false_eq_true, Int.toNat_natCast, x_lcmp] at *)); (all_goals (try omega)))
    all_goals exact hq
  · have b1 := Nat.shiftRight_le n (a - b).toNat
    rw [dif_gt (by omega), if_pos (by omega)] at hq
    rw [xshr_i (by omega) (by omega) (by omega) (by omega), Int.toNat_natCast, xn_xor (by omega) (by omega)]
    refine hW.1 _ _ _ _ _ _ (z_ones ⟨Nat.xor_lt_two_pow (by omega) (by omega), ?_⟩) (by decide) (by decide) (Nat.le_of_ble_eq_true rfl)
    generalize ones ((n >>> (a - b).toNat) ^^^ m) = o at *
    rw [show ((o : Nat) : Int) + (a - b) = (o : Int) + a - b by omega] at hq
    ((repeat' (first | (with_reducible refine And.intro ?_ ?_) | (intro h0; exact absurd h0 (by decide)) | (intro _) | ((conv => whnf); (first | (with_reducible refine And.intro ?_ ?_) | (intro h0; exact absurd h0 (by decide)) | (intro _))))); (all_goals (try omega)); (all_goals (try exact xnn (by omega))); (all_goals (try exact Nat.le_of_ble_eq_true rfl)); (all_goals (try ((conv => whnf); (first | (refine hW.2.1 _ _ ?_) | (change X _ _ _ _ _ _) | (change C _ _ _ _ _ _ _))))); (all_goals (try simp only [xup_at, xup_ne, xup_up, ne_eq, Nat.reduceEqDiff, not_false_eq_true, Int.toNat_natCast, x_lcmp] at *)); (all_goals (try omega)))
    all_goals exact hq
set_option maxRecDepth 100000 in
set_option maxHeartbeats 1000000 in
theorem z_isApart {M : xM} {Q : Option xV → xM → Prop} {w p v q : Nat} (hz : zOk M) (h : ((w : Int) < M 3 2 ∧ (p : Int) < M 10 2 ∧ (v : Int) < M 3 2 ∧ (q : Int) < M 10 2) ∧ (apart (pS M v q) (pN M v q) (pS M w p) (pN M w p) (M 2 6) → Q (some (xI 1)) M) ∧ (¬ apart (pS M v q) (pN M v q) (pS M w p) (pN M w p) (M 2 6) → Q (some (xI 0)) M)) : xm 3 m_M_isApart [xR (some 64), xI (w : Int), xI (p : Int), xI (v : Int), xI (q : Int)] M Q := by
  obtain ⟨⟨h1, h2, h3, h4⟩, hy, hno⟩ := h
  obtain ⟨hw, he, htb, hl, hr, ht, hb1, hb9⟩ := id hz
  obtain ⟨-, -, t31, e70, -, -, -, -, -, -, -, -⟩ := tab_at he hl ht h1 h2
  obtain ⟨-, -, t31', e70', -, -, -, -, -, -, -, -⟩ := tab_at he hl ht h3 h4
  obtain ⟨-, p1, p2, p3, p4⟩ := pB hw htb h1 h2
  obtain ⟨-, q1, q2, q3, q4⟩ := pB hw htb h3 h4
  have w10 := hw.2.1
  have e6 : M 64 6 = M 2 6 := hr.2.2.1
  rw [show 31 * w + p = (31 * (w : Int) + (p : Int)).toNat by omega] at e70
  rw [show 31 * v + q = (31 * (v : Int) + (q : Int)).toNat by omega] at e70'
  have cb1 : ∀ Q' : Option xV → xM → Prop, Q' (some (xI (pN M w p))) M → xm 1 m_M_bitsOf [xR (some 64), xI (w : Int), xI (p : Int)] M Q' := fun Q' h => z_bitsOf hz ⟨⟨h1, h2⟩, h⟩
  have cb2 : ∀ Q' : Option xV → xM → Prop, Q' (some (xI (pN M v q))) M → xm 1 m_M_bitsOf [xR (some 64), xI (v : Int), xI (q : Int)] M Q' := fun Q' h => z_bitsOf hz ⟨⟨h3, h4⟩, h⟩
  have ca : ∀ Q' : Option xV → xM → Prop, Q' (some (xI (farS (pS M w p) (pN M w p) (pS M v q) (pN M v q)))) M → xm 2 m_M_apart [xR (some 64), xI (w : Int), xI (p : Int), xI (v : Int), xI (q : Int)] M Q' := fun Q' h => z_apart hz ⟨⟨h1, h2, h3, h4⟩, h⟩
  have eA : apart (pS M v q) (pN M v q) (pS M w p) (pN M w p) (M 2 6) ↔ 0 < dif (pS M w p) (pN M w p) (pS M v q) (pN M v q) ∧ M 2 6 ≤ farS (pS M w p) (pN M w p) (pS M v q) (pN M v q) := by
    unfold apart farS
    rw [dif_comm]
    have : (if 0 ≤ pS M v q - pS M w p then pS M v q - pS M w p else -(pS M v q - pS M w p)) = (if 0 ≤ pS M w p - pS M v q then pS M w p - pS M v q else -(pS M w p - pS M v q)) := by split <;> split <;> omega
    rw [this]
  rw [eA] at hy hno
  clear eA
  have hd := dif_rg (a := pS M w p) (n := pN M w p) (b := pS M v q) (m := pN M v q)
  have hf : -100 ≤ farS (pS M w p) (pN M w p) (pS M v q) (pN M v q) ∧ farS (pS M w p) (pN M w p) (pS M v q) (pN M v q) ≤ 100 := by
    unfold farS
    split <;> omega
  obtain ⟨n, hn⟩ := Int.eq_ofNat_of_zero_le p3
  obtain ⟨m, hm⟩ := Int.eq_ofNat_of_zero_le q3
  rw [hn] at hy hno cb1 p4 ca hd hf
  rw [hm] at hy hno cb2 q4 ca hd hf
  generalize pS M w p = a at *
  generalize pS M v q = b at *
  generalize hF : farS a n b m = F at *
  clear hF
  rcases Int.lt_or_le b a with c | c
  · have b1 := Nat.shiftRight_le n (a - b).toNat
    have hx : 0 < dif a n b m ↔ ((n >>> (a - b).toNat : Nat) : Int) ≠ (m : Int) := by
      have o := ones_xor (x := n >>> (a - b).toNat) (y := m) (by omega) (by omega)
      rw [dif_gt c]
      generalize ones ((n >>> (a - b).toNat) ^^^ m) = z at *
      generalize n >>> (a - b).toNat = y at *
      omega
    have ex := xshr_i (n := (n : Int)) (k := a - b) (by omega) (by omega) (by omega) (by omega)
    rw [Int.toNat_natCast] at ex
    rw [hx, ← ex] at hy hno
    clear hx
    generalize n >>> (a - b).toNat = y at *
    (refine xm_of (own := "DrumTongueModel") rfl (by decide +kernel) tk_M [some (xR (some 64)), some (xI (w : Int)), some (xI (p : Int)), some (xI (v : Int)), some (xI (q : Int)), none, none, none, none, none] (Nat.le_of_ble_eq_true rfl) rfl ?_; intro D nx X C P hW)
    refine xg hW k_M_isApart [] 40 ?_
    ((repeat' (first | (with_reducible refine And.intro ?_ ?_) | (intro h0; exact absurd h0 (by decide)) | (intro _) | ((conv => whnf); (first | (with_reducible refine And.intro ?_ ?_) | (intro h0; exact absurd h0 (by decide)) | (intro _) | (rw [e70]) | (rw [e70']) | (refine hW.1 _ _ _ _ _ _ (cb1 _ ?_) (by first | decide | omega) (by decide) (Nat.le_of_ble_eq_true rfl)) | (refine hW.1 _ _ _ _ _ _ (cb2 _ ?_) (by first | decide | omega) (by decide) (Nat.le_of_ble_eq_true rfl)) | (refine hW.1 _ _ _ _ _ _ (ca _ ?_) (by first | decide | omega) (by decide) (Nat.le_of_ble_eq_true rfl)))))); (all_goals (try omega)); (all_goals (try exact xnn (by omega))); (all_goals (try exact Nat.le_of_ble_eq_true rfl)); (all_goals (try ((conv => whnf); (first | (refine hW.2.1 _ _ ?_) | (change X _ _ _ _ _ _) | (change C _ _ _ _ _ _ _))))); (all_goals (try simp only [xup_at, xup_ne, xup_up, ne_eq, Nat.reduceEqDiff, not_false_eq_true, Int.toNat_natCast, x_lcmp] at *)); (all_goals (try omega)))
    all_goals first | exact hy ⟨by assumption, by omega⟩ | exact hno (fun z => absurd z.2 (by omega)) | exact hno (fun z => absurd (by assumption) z.1) | trace_state
  · have b1 := Nat.shiftRight_le m (b - a).toNat
    have hx : 0 < dif a n b m ↔ (n : Int) ≠ ((m >>> (b - a).toNat : Nat) : Int) := by
      have o := ones_xor (x := n) (y := m >>> (b - a).toNat) (by omega) (by omega)
      rw [dif_le c]
      generalize ones (n ^^^ (m >>> (b - a).toNat)) = z at *
      generalize m >>> (b - a).toNat = y at *
      omega
    have ex := xshr_i (n := (m : Int)) (k := b - a) (by omega) (by omega) (by omega) (by omega)
    rw [Int.toNat_natCast] at ex
    rw [hx, ← ex] at hy hno
    clear hx
    generalize m >>> (b - a).toNat = y at *
    (refine xm_of (own := "DrumTongueModel") rfl (by decide +kernel) tk_M [some (xR (some 64)), some (xI (w : Int)), some (xI (p : Int)), some (xI (v : Int)), some (xI (q : Int)), none, none, none, none, none] (Nat.le_of_ble_eq_true rfl) rfl ?_; intro D nx X C P hW)
    refine xg hW k_M_isApart [] 40 ?_
    ((repeat' (first | (with_reducible refine And.intro ?_ ?_) | (intro h0; exact absurd h0 (by decide)) | (intro _) | ((conv => whnf); (first | (with_reducible refine And.intro ?_ ?_) | (intro h0; exact absurd h0 (by decide)) | (intro _) | (rw [e70]) | (rw [e70']) | (refine hW.1 _ _ _ _ _ _ (cb1 _ ?_) (by first | decide | omega) (by decide) (Nat.le_of_ble_eq_true rfl)) | (refine hW.1 _ _ _ _ _ _ (cb2 _ ?_) (by first | decide | omega) (by decide) (Nat.le_of_ble_eq_true rfl)) | (refine hW.1 _ _ _ _ _ _ (ca _ ?_) (by first | decide | omega) (by decide) (Nat.le_of_ble_eq_true rfl)))))); (all_goals (try omega)); (all_goals (try exact xnn (by omega))); (all_goals (try exact Nat.le_of_ble_eq_true rfl)); (all_goals (try ((conv => whnf); (first | (refine hW.2.1 _ _ ?_) | (change X _ _ _ _ _ _) | (change C _ _ _ _ _ _ _))))); (all_goals (try simp only [xup_at, xup_ne, xup_up, ne_eq, Nat.reduceEqDiff, not_false_eq_true, Int.toNat_natCast, x_lcmp] at *)); (all_goals (try omega)))
    all_goals first | exact hy ⟨by assumption, by omega⟩ | exact hno (fun z => absurd z.2 (by omega)) | exact hno (fun z => absurd (by assumption) z.1) | trace_state
