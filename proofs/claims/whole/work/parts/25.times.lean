/-! how often each step is drummed -/
def msd (th t : Int) : Nat → Int
  | 0 => 1
  | k + 1 => msd th t k * (if (k : Int) < t then 1000 - th else 1000)
/-- by how many of 1000000000 a step is heard -/
def hby (th t : Int) : Int := 1000000000 - msd th t 3
theorem msd_rg {th t : Int} (h : 0 ≤ th ∧ th ≤ 1000) : (0 ≤ msd th t 1 ∧ msd th t 1 ≤ 1000) ∧ (0 ≤ msd th t 2 ∧ msd th t 2 ≤ 1000000) ∧ 0 ≤ msd th t 3 ∧ msd th t 3 ≤ 1000000000 := by
  have st : ∀ (a b : Int) (k : Nat), 0 ≤ a → a ≤ b → 0 ≤ a * (if (k : Int) < t then 1000 - th else 1000) ∧ a * (if (k : Int) < t then 1000 - th else 1000) ≤ b * 1000 := by
    intro a b k h1 h2
    have h3 : 0 ≤ (if (k : Int) < t then 1000 - th else 1000) ∧ (if (k : Int) < t then 1000 - th else 1000) ≤ 1000 := by split <;> omega
    refine ⟨Int.mul_nonneg h1 h3.1, ?_⟩
    exact Int.mul_le_mul h2 h3.2 h3.1 (by omega)
  have a1 := st 1 1 0 (by decide) (by decide)
  have e1 : msd th t 1 = 1 * (if ((0 : Nat) : Int) < t then 1000 - th else 1000) := rfl
  rw [← e1] at a1
  have a2 := st (msd th t 1) 1000 1 a1.1 a1.2
  have e2 : msd th t 2 = msd th t 1 * (if ((1 : Nat) : Int) < t then 1000 - th else 1000) := rfl
  rw [← e2] at a2
  have a3 := st (msd th t 2) 1000000 2 a2.1 (by omega)
  have e3 : msd th t 3 = msd th t 2 * (if ((2 : Nat) : Int) < t then 1000 - th else 1000) := rfl
  rw [← e3] at a3
  omega
theorem hby_rg {th t : Int} (h : 0 ≤ th ∧ th ≤ 1000) : 0 ≤ hby th t ∧ hby th t ≤ 1000000000 := by
  have := msd_rg (t := t) h
  unfold hby
  omega
theorem its_rg {its g : Int} (h : 0 ≤ its ∧ its ≤ 1000000000) (hg : 0 ≤ g ∧ g ≤ 1000000000) : 0 ≤ its * g ∧ its * g ≤ 1000000000000000000 ∧ 0 ≤ (its * g).tdiv 1000000000 ∧ (its * g).tdiv 1000000000 ≤ its := by
  have h1 := Int.mul_nonneg h.1 hg.1
  have h2 : its * g ≤ its * 1000000000 := Int.mul_le_mul_of_nonneg_left hg.2 h.1
  rw [Int.tdiv_eq_ediv_of_nonneg h1]
  omega
/-- the least sum (0: none), its times -/
abbrev xE2 : Type := Int × (Nat → Int)
def eRec (th : Nat → Int) (c : Int) : Nat → Nat → (Nat → Int) → Int → Int → xE2 → xE2
  | 0, _, row, sum, its, E => if c ≤ its ∧ (E.1 = 0 ∨ sum < E.1) then (sum, row) else E
  | f + 1, k, row, sum, its, E => eRec th c f (k + 1) (xup row k 3) (sum + 3) ((its * hby (th k) 3).tdiv 1000000000) (eRec th c f (k + 1) (xup row k 2) (sum + 2) ((its * hby (th k) 2).tdiv 1000000000) (eRec th c f (k + 1) (xup row k 1) (sum + 1) ((its * hby (th k) 1).tdiv 1000000000) E))
theorem eRec_low {th : Nat → Int} {c : Int} (hth : ∀ k, 0 ≤ th k ∧ th k ≤ 1000) : ∀ (f k : Nat) (row : Nat → Int) (sum its : Int) (E : xE2), 0 ≤ its ∧ its ≤ 1000000000 → its < c → eRec th c f k row sum its E = E
  | 0, _, _, _, _, _, _, h => by rw [eRec, if_neg (by omega)]
  | f + 1, k, row, sum, its, E, h0, h => by
    have a1 := its_rg h0 (hby_rg (t := 1) (hth k))
    have a2 := its_rg h0 (hby_rg (t := 2) (hth k))
    have a3 := its_rg h0 (hby_rg (t := 3) (hth k))
    rw [eRec, eRec_low hth f _ _ _ _ E ⟨by omega, by omega⟩ (by omega), eRec_low hth f _ _ _ _ E ⟨by omega, by omega⟩ (by omega), eRec_low hth f _ _ _ _ E ⟨by omega, by omega⟩ (by omega)]
theorem eRec_high {th : Nat → Int} {c : Int} : ∀ (f k : Nat) (row : Nat → Int) (sum its : Int) (E : xE2), 0 < E.1 → E.1 ≤ sum → eRec th c f k row sum its E = E
  | 0, _, _, _, _, _, h1, h2 => by rw [eRec, if_neg (by omega)]
  | f + 1, k, row, sum, its, E, h1, h2 => by
    rw [eRec, eRec_high f _ _ _ _ E h1 (by omega), eRec_high f _ _ _ _ E h1 (by omega), eRec_high f _ _ _ _ E h1 (by omega)]
def eOk2 (E : xE2) : Prop := 0 ≤ E.1 ∧ E.1 ≤ 100
theorem eRec_ok {th : Nat → Int} {c : Int} : ∀ (f k : Nat) (row : Nat → Int) (sum its : Int) (E : xE2), 0 ≤ sum → sum + 3 * f ≤ 100 → eOk2 E → eOk2 (eRec th c f k row sum its E)
  | 0, _, _, _, _, _, h1, h2, h => by
    rw [eRec]
    split
    · exact ⟨h1, by simp only; omega⟩
    · exact h
  | f + 1, k, row, sum, its, E, h1, h2, h => by
    rw [eRec]
    exact eRec_ok f _ _ _ _ _ (by omega) (by omega) (eRec_ok f _ _ _ _ _ (by omega) (by omega) (eRec_ok f _ _ _ _ _ (by omega) (by omega) h))
set_option maxRecDepth 100000 in
theorem c_heardBy {M : xM} {Q : Option xV → xM → Prop} {th t : Int} (h : ((0 ≤ th ∧ th ≤ 1000) ∧ 1 ≤ t ∧ t ≤ 3) ∧ Q (some (xJ (hby th t))) M) : xm 1 m_Hills_heardBy [xI th, xI t] M Q := by
  obtain ⟨⟨h1, h2, h3⟩, h4⟩ := h
  (refine xm_of (own := "DrumTongue$Hills") rfl (by decide +kernel) tk_Hills [some (xI th), some (xI t), none, none, none] (Nat.le_of_ble_eq_true rfl) rfl ?_; intro D nx X C P hW)
  have loop : ∀ (m k : Nat), k + m = 3 → X 5 [some (xI th), some (xI t), some (xJ (msd th t k)), none, some (xI (k : Int))] [] (M, D, nx) 0 0 := by
    intro m
    induction m with
    | zero =>
      intro k hk
      obtain rfl : k = 3 := by omega
      refine xg hW k_Hills_heardBy [5] 40 ?_
      ((repeat' (first | (with_reducible refine And.intro ?_ ?_) | (intro h0; exact absurd h0 (by decide)) | (intro _) | ((conv => whnf); (first | (with_reducible refine And.intro ?_ ?_) | (intro h0; exact absurd h0 (by decide)) | (intro _))))); (all_goals (try omega)); (all_goals (try exact Nat.le_of_ble_eq_true rfl)); (all_goals (try ((conv => whnf); (first | (refine hW.2.1 _ _ ?_) | (change X _ _ _ _ _ _) | (change C _ _ _ _ _ _ _))))); (all_goals (try simp only [xup_at, xup_ne, xup_up, ne_eq, Nat.reduceEqDiff, not_false_eq_true, Int.toNat_natCast, x_lcmp] at *)); (all_goals (try omega)))
      exact h4
    | succ m ih =>
      intro k hk
      have h5 := ih (k + 1) (by omega)
      rw [msd] at h5
      refine xg hW k_Hills_heardBy [5] 40 ?_
      ((repeat' (first | (with_reducible refine And.intro ?_ ?_) | (intro h0; exact absurd h0 (by decide)) | (intro _) | ((conv => whnf); (first | (with_reducible refine And.intro ?_ ?_) | (intro h0; exact absurd h0 (by decide)) | (intro _))))); (all_goals (try omega)); (all_goals (try exact Nat.le_of_ble_eq_true rfl)); (all_goals (try ((conv => whnf); (first | (refine hW.2.1 _ _ ?_) | (change X _ _ _ _ _ _) | (change C _ _ _ _ _ _ _))))); (all_goals (try simp only [xup_at, xup_ne, xup_up, ne_eq, Nat.reduceEqDiff, not_false_eq_true, Int.toNat_natCast, x_lcmp] at *)); (all_goals (try omega)))
      · rw [if_neg (by omega)] at h5
        exact h5
      · rw [if_pos (by assumption)] at h5
        exact h5
  refine xg hW k_Hills_heardBy [5] 40 ?_
  ((repeat' (first | (with_reducible refine And.intro ?_ ?_) | (intro h0; exact absurd h0 (by decide)) | (intro _) | ((conv => whnf); (first | (with_reducible refine And.intro ?_ ?_) | (intro h0; exact absurd h0 (by decide)) | (intro _))))); (all_goals (try omega)); (all_goals (try exact Nat.le_of_ble_eq_true rfl)); (all_goals (try ((conv => whnf); (first | (refine hW.2.1 _ _ ?_) | (change X _ _ _ _ _ _) | (change C _ _ _ _ _ _ _))))); (all_goals (try simp only [xup_at, xup_ne, xup_up, ne_eq, Nat.reduceEqDiff, not_false_eq_true, Int.toNat_natCast, x_lcmp] at *)); (all_goals (try omega)))
  exact loop 3 0 rfl
set_option maxRecDepth 100000 in
theorem c_chanceBetween {M : xM} {Q : Option xV → xM → Prop} {s d : Nat} (hh : hillOk M) (hs : s < 6) (hd : d < 6) (h : Q (some (xI (if s = d then 0 else cM M s d))) M) : xm 4 m_Hills_chanceBetween [xR (some 45), xI s, xI d] M Q := by
  have t1 : xT0 (47 + (s : Int).toNat) = some (.inr (0, 6, none)) := xT0_c s hs
  have hc := hh s d hs hd
  (refine xm_of (own := "DrumTongue$Hills") rfl (by decide +kernel) tk_Hills [some (xR (some 45)), some (xI (s : Int)), some (xI (d : Int))] (Nat.le_of_ble_eq_true rfl) rfl ?_; intro D nx X C P hW)
  refine xg hW k_Hills_chanceBetween [] 40 ?_
  ((repeat' (first | (with_reducible refine And.intro ?_ ?_) | (intro h0; exact absurd h0 (by decide)) | (intro _) | ((conv => whnf); (first | (with_reducible refine And.intro ?_ ?_) | (intro h0; exact absurd h0 (by decide)) | (intro _) | (rw [t1]) | (refine hW.1 _ _ _ _ _ _ (c_arePair ?_) (by first | decide | omega) (by decide) (Nat.le_of_ble_eq_true rfl)))))); (all_goals (try omega)); (all_goals (try exact Nat.le_of_ble_eq_true rfl)); (all_goals (try ((conv => whnf); (first | (refine hW.2.1 _ _ ?_) | (change X _ _ _ _ _ _) | (change C _ _ _ _ _ _ _))))); (all_goals (try simp only [xup_at, xup_ne, xup_up, ne_eq, Nat.reduceEqDiff, not_false_eq_true, Int.toNat_natCast, x_lcmp] at *)); (all_goals (try omega)))
  · rename_i q _
    have hne : ¬ s = d := fun e => q.2.2.2.2 (by rw [e])
    rw [if_neg hne] at h
    exact h
  · rename_i q _
    have he : s = d := by
      unfold isPair at q
      omega
    rw [if_pos he] at h
    exact h
/-- the search of times: so many steps ns, of the best way p -/
def tmFr (M0 M : xM) : Prop := (∀ a, a ≠ 45 → a ≠ 62 → a ≠ 63 → M a = M0 a) ∧ ∀ k, k ≠ 9 → M 45 k = M0 45 k
def tmAt (M0 : xM) (ns k : Nat) (row : Nat → Int) (E : xE2) (M : xM) : Prop := tmFr M0 M ∧ M 45 9 = E.1 ∧ (∀ j, j < ns → M 63 j = E.2 j) ∧ ∀ j, j < k → M 62 j = row j
/-- the steps' thousandths -/
def thS (c : Nat → Nat → Int) (p : Nat → Nat) (ns k : Nat) : Int := if k < ns then (if p k = p (k + 1) then 0 else c (p k) (p (k + 1))) else 0
theorem thS_rg {c h : Nat → Nat → Int} {p : Nat → Nat} {ns : Nat} (hc : chOk c h) (hp : ∀ i, i ≤ ns → p i < 6) (k : Nat) : 0 ≤ thS c p ns k ∧ thS c p ns k ≤ 1000 := by
  unfold thS
  split
  · split
    · omega
    · exact (hc _ _ (hp k (by omega)) (hp (k + 1) (by omega))).1
  · omega
theorem tmAt_keep {M0 M : xM} {ns k : Nat} {row : Nat → Int} {E : xE2} {sum : Int} (hns : ns ≤ 5) (hk : k = ns) (h : tmAt M0 ns k row E M) : tmAt M0 ns k row (sum, row) (xup (xup M 45 (xup (M 45) 9 sum)) 63 (va_cpy (M 62) (M 63) (Int.toNat 0) (Int.toNat 0) (Int.toNat 6))) := by
  obtain ⟨h1, h2, h3, h4⟩ := h
  refine ⟨⟨fun a a1 a2 a3 => ?_, fun k k1 => ?_⟩, ?_, fun j hj => ?_, fun j hj => ?_⟩
  · rw [xup_ne a3, xup_ne a1]; exact h1.1 a a1 a2 a3
  · rw [xup_ne (by decide), xup_at, xup_ne k1]; exact h1.2 k k1
  · simp only [xup_at, xup_ne, xup_up, ne_eq, Nat.reduceEqDiff, not_false_eq_true, Int.toNat_natCast, x_lcmp]
  · rw [xup_at]
    unfold va_cpy
    rw [if_pos ⟨Nat.zero_le _, by show j < 0 + 6; omega⟩]
    show M 62 (0 + (j - 0)) = _
    rw [Nat.zero_add, Nat.sub_zero]
    exact h4 j (by omega)
  · rw [xup_ne (by decide), xup_ne (by decide)]
    exact h4 j hj
theorem tmAt_try {M0 M : xM} {ns k : Nat} {row : Nat → Int} {E : xE2} {t : Int} (h : tmAt M0 ns k row E M) : tmAt M0 ns (k + 1) (xup row k t) E (xup M 62 (xup (M 62) k t)) := by
  obtain ⟨h1, h2, h3, h4⟩ := h
  refine ⟨⟨fun a a1 a2 a3 => ?_, fun k k1 => ?_⟩, ?_, fun j hj => ?_, fun j hj => ?_⟩
  · rw [xup_ne a2]; exact h1.1 a a1 a2 a3
  · rw [xup_ne (by decide)]; exact h1.2 k k1
  · rw [xup_ne (by decide)]; exact h2
  · rw [xup_ne (by decide)]; exact h3 j hj
  · rw [xup_at]
    by_cases q : j = k
    · rw [q, xup_at, xup_at]
    · rw [xup_ne q, xup_ne q]; exact h4 j (by omega)
theorem tmAt_back {M0 M : xM} {ns k : Nat} {row : Nat → Int} {E : xE2} {t : Int} (h : tmAt M0 ns (k + 1) (xup row k t) E M) : tmAt M0 ns k row E M := by
  obtain ⟨h1, h2, h3, h4⟩ := h
  refine ⟨h1, h2, h3, fun j hj => ?_⟩
  rw [h4 j (by omega), xup_ne (by omega)]
set_option maxRecDepth 100000 in
set_option maxHeartbeats 4000000 in
theorem c_tryTimes {M0 : xM} (hh : hillOk M0) {ns : Nat} {p : Nat → Nat} {c : Int} (hns : 1 ≤ ns ∧ ns ≤ 5) (h4 : M0 45 4 = (ns : Int) + 1) (hp : ∀ i, i ≤ ns → M0 61 i = p i ∧ p i < 6) (hc : 1 ≤ c ∧ c ≤ 1000000000) : ∀ (f : Nat) {k : Nat} {row : Nat → Int} {sum its : Int} {E : xE2} {M : xM} {Q : Option xV → xM → Prop}, k + f = ns → 0 ≤ its ∧ its ≤ 1000000000 → 0 ≤ sum ∧ sum ≤ 3 * k → (k = ns → 1 ≤ sum) → eOk2 E → tmAt M0 ns k row E M → (∀ M', tmAt M0 ns k row (eRec (thS (cM M0) p ns) c f k row sum its E) M' → Q none M') → xm (5 + f) m_Hills_tryTimes [xR (some 45), xI k, xI sum, xJ its, xI c] M Q := by
  have hth := thS_rg (p := p) (ns := ns) hh.ch fun i hi => (hp i hi).2
  intro f
  induction f with
  | zero =>
    intro k row sum its E M Q hk hi hs hs1 hE hA hq
    have e9 : M 45 9 = E.1 := hA.2.1
    have e4 : M 45 4 = (ns : Int) + 1 := by rw [hA.1.2 4 (by decide)]; exact h4
    obtain ⟨o1, o2⟩ := hE
    (refine xm_of (own := "DrumTongue$Hills") rfl (by decide +kernel) tk_Hills [some (xR (some 45)), some (xI (k : Int)), some (xI sum), some (xJ its), none, some (xI c), none, none] (Nat.le_of_ble_eq_true rfl) rfl ?_; intro D nx X C P hW)
    refine xg hW k_Hills_tryTimes [83] 40 ?_
    ((repeat' (first | (with_reducible refine And.intro ?_ ?_) | (intro h0; exact absurd h0 (by decide)) | (intro _) | ((conv => whnf); (first | (with_reducible refine And.intro ?_ ?_) | (intro h0; exact absurd h0 (by decide)) | (intro _))))); (all_goals (try omega)); (all_goals (try exact Nat.le_of_ble_eq_true rfl)); (all_goals (try ((conv => whnf); (first | (refine hW.2.1 _ _ ?_) | (change X _ _ _ _ _ _) | (change C _ _ _ _ _ _ _))))); (all_goals (try simp only [xup_at, xup_ne, xup_up, ne_eq, Nat.reduceEqDiff, not_false_eq_true, Int.toNat_natCast, x_lcmp] at *)); (all_goals (try omega)))
    · refine hq M ?_
      rw [eRec, if_neg (by omega)]
      exact hA
    · refine hq _ ?_
      rw [eRec, if_pos (by omega)]
      exact tmAt_keep hns.2 (by omega) hA
    · refine hq _ ?_
      rw [eRec, if_pos (by omega)]
      exact tmAt_keep hns.2 (by omega) hA
    · refine hq M ?_
      rw [eRec, if_neg (by omega)]
      exact hA
  | succ f ih =>
    intro k row sum its E M Q hk hi hs hs1 hE hA hq
    have e9 : M 45 9 = E.1 := hA.2.1
    have e4 : M 45 4 = (ns : Int) + 1 := by rw [hA.1.2 4 (by decide)]; exact h4
    obtain ⟨o1, o2⟩ := id hE
    obtain ⟨p1, p2⟩ := hp k (by omega)
    obtain ⟨p3, p4⟩ := hp (k + 1) (by omega)
    have m1 : M 61 k = p k := by rw [hA.1.1 61 (by decide) (by decide) (by decide)]; exact p1
    have m2 : M 61 ((k : Int) + 1).toNat = p (k + 1) := by rw [hA.1.1 61 (by decide) (by decide) (by decide), show ((k : Int) + 1).toNat = k + 1 by omega]; exact p3
    have hill : ∀ M' : xM, tmFr M0 M' → hillOk M' := fun M' hf f t hf6 ht6 => by
      rw [hf.1 _ (by omega) (by omega) (by omega), hf.1 _ (by omega) (by omega) (by omega)]
      exact hh f t hf6 ht6
    have hcm : (if p k = p (k + 1) then 0 else cM M (p k) (p (k + 1))) = thS (cM M0) p ns k := by
      unfold thS cM
      rw [if_pos (show k < ns by omega), hA.1.1 _ (by omega) (by omega) (by omega)]
    have r1 := its_rg hi (hby_rg (t := 1) (hth k))
    have r2 := its_rg hi (hby_rg (t := 2) (hth k))
    have r3 := its_rg hi (hby_rg (t := 3) (hth k))
    have hk2 := hth k
    have lowq : its < c → Q none M := fun q => hq M (by rw [eRec_low hth _ _ _ _ _ _ hi q]; exact hA)
    have highq : 0 < E.1 → E.1 ≤ sum → Q none M := fun q1 q2 => hq M (by rw [eRec_high _ _ _ _ _ _ q1 q2]; exact hA)
    rw [eRec] at hq
    (refine xm_of (own := "DrumTongue$Hills") rfl (by decide +kernel) tk_Hills [some (xR (some 45)), some (xI (k : Int)), some (xI sum), some (xJ its), none, some (xI c), none, none] (Nat.le_of_ble_eq_true rfl) rfl ?_; intro D nx X C P hW)
    have go : c ≤ its → ¬ (0 < E.1 ∧ E.1 ≤ sum) → X 60 [some (xR (some 45)), some (xI (k : Int)), some (xI sum), some (xJ its), none, some (xI c), none, none] [] (M, D, nx) 0 0 := by
      intro g1 g2
      refine xg hW k_Hills_tryTimes [] 40 ?_
      ((repeat' (first | (with_reducible refine And.intro ?_ ?_) | (intro h0; exact absurd h0 (by decide)) | (intro _) | ((conv => whnf); (first | (with_reducible refine And.intro ?_ ?_) | (intro h0; exact absurd h0 (by decide)) | (intro _))))); (all_goals (try omega)); (all_goals (try exact Nat.le_of_ble_eq_true rfl)); (all_goals (try ((conv => whnf); (first | (refine hW.2.1 _ _ ?_) | (change X _ _ _ _ _ _) | (change C _ _ _ _ _ _ _))))); (all_goals (try simp only [xup_at, xup_ne, xup_up, ne_eq, Nat.reduceEqDiff, not_false_eq_true, Int.toNat_natCast, x_lcmp] at *)); (all_goals (try omega)))
      rw [m1, m2]
      refine hW.1 _ _ _ _ _ _ (c_chanceBetween (hill M hA.1) p2 p4 ?_) (by omega) (by decide) (Nat.le_of_ble_eq_true rfl)
      rw [hcm]
      have hE1 : eOk2 (eRec (thS (cM M0) p ns) c f (k + 1) (xup row k 1) (sum + 1) ((its * hby (thS (cM M0) p ns k) 1).tdiv 1000000000) E) := eRec_ok f _ _ _ _ _ (by omega) (by omega) hE
      have hE2 : eOk2 (eRec (thS (cM M0) p ns) c f (k + 1) (xup row k 2) (sum + 2) ((its * hby (thS (cM M0) p ns k) 2).tdiv 1000000000) (eRec (thS (cM M0) p ns) c f (k + 1) (xup row k 1) (sum + 1) ((its * hby (thS (cM M0) p ns k) 1).tdiv 1000000000) E)) := eRec_ok f _ _ _ _ _ (by omega) (by omega) hE1
      ((repeat' (first | (with_reducible refine And.intro ?_ ?_) | (intro h0; exact absurd h0 (by decide)) | (intro _) | ((conv => whnf); (first | (with_reducible refine And.intro ?_ ?_) | (intro h0; exact absurd h0 (by decide)) | (intro _) | (refine hW.1 _ _ _ _ _ _ (c_heardBy ?_) (by first | decide | omega) (by decide) (Nat.le_of_ble_eq_true rfl)))))); (all_goals (try omega)); (all_goals (try exact Nat.le_of_ble_eq_true rfl)); (all_goals (try ((conv => whnf); (first | (refine hW.2.1 _ _ ?_) | (change X _ _ _ _ _ _) | (change C _ _ _ _ _ _ _))))); (all_goals (try simp only [xup_at, xup_ne, xup_up, ne_eq, Nat.reduceEqDiff, not_false_eq_true, Int.toNat_natCast, x_lcmp] at *)); (all_goals (try omega)))
      refine hW.1 _ _ _ _ _ _ (ih (k := k + 1) (row := xup row k 1) (by omega) ⟨r1.2.2.1, by omega⟩ ⟨by omega, by omega⟩ (fun _ => by omega) hE (tmAt_try hA) (fun M1 hA1 => ?_)) (by omega) (by decide) (Nat.le_of_ble_eq_true rfl)
      replace hA1 := tmAt_back hA1
      ((repeat' (first | (with_reducible refine And.intro ?_ ?_) | (intro h0; exact absurd h0 (by decide)) | (intro _) | ((conv => whnf); (first | (with_reducible refine And.intro ?_ ?_) | (intro h0; exact absurd h0 (by decide)) | (intro _) | (refine hW.1 _ _ _ _ _ _ (c_heardBy ?_) (by first | decide | omega) (by decide) (Nat.le_of_ble_eq_true rfl)))))); (all_goals (try omega)); (all_goals (try exact Nat.le_of_ble_eq_true rfl)); (all_goals (try ((conv => whnf); (first | (refine hW.2.1 _ _ ?_) | (change X _ _ _ _ _ _) | (change C _ _ _ _ _ _ _))))); (all_goals (try simp only [xup_at, xup_ne, xup_up, ne_eq, Nat.reduceEqDiff, not_false_eq_true, Int.toNat_natCast, x_lcmp] at *)); (all_goals (try omega)))
      all_goals (try simp only [Int.reduceAdd])
      all_goals (try omega)
      refine hW.1 _ _ _ _ _ _ (ih (k := k + 1) (row := xup row k 2) (by omega) ⟨r2.2.2.1, by omega⟩ ⟨by omega, by omega⟩ (fun _ => by omega) hE1 (tmAt_try hA1) (fun M2 hA2 => ?_)) (by omega) (by decide) (Nat.le_of_ble_eq_true rfl)
      replace hA2 := tmAt_back hA2
      ((repeat' (first | (with_reducible refine And.intro ?_ ?_) | (intro h0; exact absurd h0 (by decide)) | (intro _) | ((conv => whnf); (first | (with_reducible refine And.intro ?_ ?_) | (intro h0; exact absurd h0 (by decide)) | (intro _) | (refine hW.1 _ _ _ _ _ _ (c_heardBy ?_) (by first | decide | omega) (by decide) (Nat.le_of_ble_eq_true rfl)))))); (all_goals (try omega)); (all_goals (try exact Nat.le_of_ble_eq_true rfl)); (all_goals (try ((conv => whnf); (first | (refine hW.2.1 _ _ ?_) | (change X _ _ _ _ _ _) | (change C _ _ _ _ _ _ _))))); (all_goals (try simp only [xup_at, xup_ne, xup_up, ne_eq, Nat.reduceEqDiff, not_false_eq_true, Int.toNat_natCast, x_lcmp] at *)); (all_goals (try omega)))
      all_goals (try simp only [Int.reduceAdd])
      all_goals (try omega)
      refine hW.1 _ _ _ _ _ _ (ih (k := k + 1) (row := xup row k 3) (by omega) ⟨r3.2.2.1, by omega⟩ ⟨by omega, by omega⟩ (fun _ => by omega) hE2 (tmAt_try hA2) (fun M3 hA3 => ?_)) (by omega) (by decide) (Nat.le_of_ble_eq_true rfl)
      replace hA3 := tmAt_back hA3
      ((repeat' (first | (with_reducible refine And.intro ?_ ?_) | (intro h0; exact absurd h0 (by decide)) | (intro _) | ((conv => whnf); (first | (with_reducible refine And.intro ?_ ?_) | (intro h0; exact absurd h0 (by decide)) | (intro _))))); (all_goals (try omega)); (all_goals (try exact Nat.le_of_ble_eq_true rfl)); (all_goals (try ((conv => whnf); (first | (refine hW.2.1 _ _ ?_) | (change X _ _ _ _ _ _) | (change C _ _ _ _ _ _ _))))); (all_goals (try simp only [xup_at, xup_ne, xup_up, ne_eq, Nat.reduceEqDiff, not_false_eq_true, Int.toNat_natCast, x_lcmp] at *)); (all_goals (try omega)))
      exact hq M3 hA3
    refine xg hW k_Hills_tryTimes [60] 40 ?_
    ((repeat' (first | (with_reducible refine And.intro ?_ ?_) | (intro h0; exact absurd h0 (by decide)) | (intro _) | ((conv => whnf); (first | (with_reducible refine And.intro ?_ ?_) | (intro h0; exact absurd h0 (by decide)) | (intro _))))); (all_goals (try omega)); (all_goals (try exact Nat.le_of_ble_eq_true rfl)); (all_goals (try ((conv => whnf); (first | (refine hW.2.1 _ _ ?_) | (change X _ _ _ _ _ _) | (change C _ _ _ _ _ _ _))))); (all_goals (try simp only [xup_at, xup_ne, xup_up, ne_eq, Nat.reduceEqDiff, not_false_eq_true, Int.toNat_natCast, x_lcmp] at *)); (all_goals (try omega)))
    · exact lowq (by omega)
    · exact go (by omega) (by omega)
    · exact go (by omega) (by omega)
    · exact highq (by omega) (by omega)
theorem thS_congr {c c' : Nat → Nat → Int} {p : Nat → Nat} {ns : Nat} (h : ∀ f t, f < 6 → c f t = c' f t) (hp : ∀ i, i ≤ ns → p i < 6) : thS c p ns = thS c' p ns := by
  funext k
  unfold thS
  split
  · rw [h _ _ (hp k (by omega))]
  · rfl
def eEq (a b : xE2) : Prop := a.1 = b.1 ∧ (a.1 = 0 ∨ a.2 = b.2)
theorem eRec_eq {th : Nat → Int} {c : Int} : ∀ (f k : Nat) (row : Nat → Int) (sum its : Int) (x y : xE2), eEq x y → eEq (eRec th c f k row sum its x) (eRec th c f k row sum its y)
  | 0, k, row, sum, its, x, y, e => by
    rw [eRec, eRec, ← e.1]
    split
    · exact ⟨rfl, Or.inr rfl⟩
    · exact e
  | f + 1, k, row, sum, its, x, y, e => by
    rw [eRec, eRec]
    exact eRec_eq f _ _ _ _ _ _ (eRec_eq f _ _ _ _ _ _ (eRec_eq f _ _ _ _ _ _ e))
/-- ENOUGH: the least sum (0: none), the times -/
def enR (c h : Nat → Nat → Int) (s d : Nat) (cc : Int) : xE2 := eRec (thS c (hBest c h s d).2.2.2 ((hBest c h s d).2.2.1 - 1)) cc ((hBest c h s d).2.2.1 - 1) 0 (fun _ => 0) 0 1000000000 (0, fun _ => 0)
/-- the hills' scratch may differ, nothing else -/
def hlFr (M M' : xM) : Prop := ∀ a, a ≠ 45 → (a < 60 ∨ 63 < a) → M' a = M a
set_option maxRecDepth 100000 in
set_option maxHeartbeats 4000000 in
theorem c_findEnough {M : xM} {Q : Option xV → xM → Prop} {s d : Nat} {c : Int} (hh0 : hillOk M) (hs : s < 6) (hd : d < 6) (hsd : s ≠ d) (hc : 1 ≤ c ∧ c ≤ 1000000000) (h1 : ∀ M', hlFr M M' → (hBest (cM M) (hM M) s d).1 = 0 ∨ (enR (cM M) (hM M) s d c).1 = 0 → Q (some (xI 0)) M') (h2 : ∀ M', hlFr M M' → 0 < (hBest (cM M) (hM M) s d).1 → 0 < (enR (cM M) (hM M) s d c).1 → M' 45 4 = (hBest (cM M) (hM M) s d).2.2.1 → M' 45 9 = (enR (cM M) (hM M) s d c).1 → (∀ j, j < (hBest (cM M) (hM M) s d).2.2.1 - 1 → M' 63 j = (enR (cM M) (hM M) s d c).2 j) → Q (some (xI 1)) M') : xm 14 m_Hills_findEnough [xR (some 45), xI s, xI d, xI c] M Q := by
  (refine xm_of (own := "DrumTongue$Hills") rfl (by decide +kernel) tk_Hills [some (xR (some 45)), some (xI (s : Int)), some (xI (d : Int)), some (xI c)] (Nat.le_of_ble_eq_true rfl) rfl ?_; intro D nx X C P hW)
  refine xg hW k_Hills_findEnough [] 40 ?_
  ((repeat' (first | (with_reducible refine And.intro ?_ ?_) | (intro h0; exact absurd h0 (by decide)) | (intro _) | ((conv => whnf); (first | (with_reducible refine And.intro ?_ ?_) | (intro h0; exact absurd h0 (by decide)) | (intro _))))); (all_goals (try omega)); (all_goals (try exact Nat.le_of_ble_eq_true rfl)); (all_goals (try ((conv => whnf); (first | (refine hW.2.1 _ _ ?_) | (change X _ _ _ _ _ _) | (change C _ _ _ _ _ _ _))))); (all_goals (try simp only [xup_at, xup_ne, xup_up, ne_eq, Nat.reduceEqDiff, not_false_eq_true, Int.toNat_natCast, x_lcmp] at *)); (all_goals (try omega)))
  have e1 : ∀ a, a ≠ 45 → (xup M 45 (xup (M 45) 9 0)) a = M a := fun a ha => xup_ne ha
  have e45 : ∀ k, k ≠ 9 → (xup M 45 (xup (M 45) 9 0)) 45 k = M 45 k := fun k hk => by rw [xup_at, xup_ne hk]
  have ec : cM (xup M 45 (xup (M 45) 9 0)) = cM M := by funext f t; unfold cM; exact congrFun (e1 (47 + f) (by omega)) t
  have eh : hM (xup M 45 (xup (M 45) 9 0)) = hM M := by funext f t; unfold hM; exact congrFun (e1 (54 + f) (by omega)) t
  have hh1 : hillOk (xup M 45 (xup (M 45) 9 0)) := fun f t hf ht => by rw [e1 _ (by omega), e1 _ (by omega)]; exact hh0 f t hf ht
  have e9 : (xup M 45 (xup (M 45) 9 0)) 45 9 = 0 := by rw [xup_at, xup_at]
  generalize xup M 45 (xup (M 45) 9 0) = M1 at *
  have hok := hBest_ok (s := s) (d := d) hh0.ch hs
  have h1' := h1
  refine hW.1 _ _ _ _ _ _ (c_findBest hh1 hs hd hsd (fun M2 hA hpos => ?_) (fun M2 hA hz => ?_)) (by omega) (by decide) (Nat.le_of_ble_eq_true rfl)
  · rw [ec, eh] at hA hpos
    obtain ⟨o1, o2, o3, o4, o5, o6⟩ := hok
    obtain ⟨u1, u2, u3⟩ := o5 hpos
    obtain ⟨ns, hns⟩ : ∃ ns, (hBest (cM M) (hM M) s d).2.2.1 = ns + 1 := ⟨(hBest (cM M) (hM M) s d).2.2.1 - 1, by omega⟩
    have hh2 : hillOk M2 := fun f t hf ht => by
      rw [hA.1.1 _ (by omega) (by omega) (by omega), hA.1.1 _ (by omega) (by omega) (by omega)]
      exact hh1 f t hf ht
    have p6 : ∀ k, k ≤ ns → (hBest (cM M) (hM M) s d).2.2.2 k < 6 := fun k hk => u3 k (by omega)
    have hp : ∀ i, i ≤ ns → M2 61 i = (hBest (cM M) (hM M) s d).2.2.2 i ∧ (hBest (cM M) (hM M) s d).2.2.2 i < 6 := fun i hi => ⟨hA.2.2.2.2.1 i (by omega), p6 i hi⟩
    have hcc : thS (cM M2) (hBest (cM M) (hM M) s d).2.2.2 ns = thS (cM M) (hBest (cM M) (hM M) s d).2.2.2 ns := thS_congr (fun f t hf => by
      unfold cM
      rw [hA.1.1 _ (by omega) (by omega) (by omega), e1 _ (by omega)]) p6
    have hA2 : tmAt M2 ns 0 (fun _ => 0) (0, M2 63) M2 := ⟨⟨fun _ _ _ _ => rfl, fun _ _ => rfl⟩, by rw [hA.1.2 9 (by decide) (by decide) (by decide)]; exact e9, fun _ _ => rfl, fun j hj => absurd hj (Nat.not_lt_zero j)⟩
    have hen : eEq (eRec (thS (cM M) (hBest (cM M) (hM M) s d).2.2.2 ns) c ns 0 (fun _ => 0) 0 1000000000 (0, M2 63)) (enR (cM M) (hM M) s d c) := by
      unfold enR
      rw [hns, Nat.add_sub_cancel]
      exact eRec_eq _ _ _ _ _ _ _ ⟨rfl, Or.inl rfl⟩
    have hrg : eOk2 (eRec (thS (cM M) (hBest (cM M) (hM M) s d).2.2.2 ns) c ns 0 (fun _ => 0) 0 1000000000 (0, M2 63)) := eRec_ok _ _ _ _ _ _ (by omega) (by omega) ⟨by simp only; omega, by simp only; omega⟩
    have f4 : M2 45 4 = (ns : Int) + 1 := by rw [hA.2.2.2.1, hns]; rfl
    ((repeat' (first | (with_reducible refine And.intro ?_ ?_) | (intro h0; exact absurd h0 (by decide)) | (intro _) | ((conv => whnf); (first | (with_reducible refine And.intro ?_ ?_) | (intro h0; exact absurd h0 (by decide)) | (intro _))))); (all_goals (try omega)); (all_goals (try exact Nat.le_of_ble_eq_true rfl)); (all_goals (try ((conv => whnf); (first | (refine hW.2.1 _ _ ?_) | (change X _ _ _ _ _ _) | (change C _ _ _ _ _ _ _))))); (all_goals (try simp only [xup_at, xup_ne, xup_up, ne_eq, Nat.reduceEqDiff, not_false_eq_true, Int.toNat_natCast, x_lcmp] at *)); (all_goals (try omega)))
    refine hW.1 _ _ _ _ _ _ (c_tryTimes hh2 (ns := ns) ⟨by omega, by omega⟩ f4 hp hc ns (k := 0) (row := fun _ => 0) (by omega) ⟨by decide, by decide⟩ ⟨by decide, by omega⟩ (fun q => by omega) ⟨by simp only; omega, by simp only; omega⟩ hA2 (fun M3 hA3 => ?_)) (by omega) (by decide) (Nat.le_of_ble_eq_true rfl)
    rw [hcc] at hA3
    have g9 := hA3.2.1
    have hfr : hlFr M M3 := fun a a1 a2 => by rw [hA3.1.1 a a1 (by omega) (by omega), hA.1.1 a a1 (by omega) (by omega), e1 a a1]
    obtain ⟨x1, x2⟩ := hrg
    rw [hen.1] at g9 x1 x2
    ((repeat' (first | (with_reducible refine And.intro ?_ ?_) | (intro h0; exact absurd h0 (by decide)) | (intro _) | ((conv => whnf); (first | (with_reducible refine And.intro ?_ ?_) | (intro h0; exact absurd h0 (by decide)) | (intro _))))); (all_goals (try omega)); (all_goals (try exact Nat.le_of_ble_eq_true rfl)); (all_goals (try ((conv => whnf); (first | (refine hW.2.1 _ _ ?_) | (change X _ _ _ _ _ _) | (change C _ _ _ _ _ _ _))))); (all_goals (try simp only [xup_at, xup_ne, xup_up, ne_eq, Nat.reduceEqDiff, not_false_eq_true, Int.toNat_natCast, x_lcmp] at *)); (all_goals (try omega)))
    · exact h1 M3 hfr (Or.inr (by omega))
    · refine h2 M3 hfr hpos (by omega) ?_ g9 (fun j hj => ?_)
      · rw [hA3.1.2 4 (by decide), hA.2.2.2.1]
      · rw [hA3.2.2.1 j (by omega)]
        rcases hen.2 with z | z
        · have := hen.1
          omega
        · rw [z]
  · rw [ec, eh] at hA hz
    ((repeat' (first | (with_reducible refine And.intro ?_ ?_) | (intro h0; exact absurd h0 (by decide)) | (intro _) | ((conv => whnf); (first | (with_reducible refine And.intro ?_ ?_) | (intro h0; exact absurd h0 (by decide)) | (intro _))))); (all_goals (try omega)); (all_goals (try exact Nat.le_of_ble_eq_true rfl)); (all_goals (try ((conv => whnf); (first | (refine hW.2.1 _ _ ?_) | (change X _ _ _ _ _ _) | (change C _ _ _ _ _ _ _))))); (all_goals (try simp only [xup_at, xup_ne, xup_up, ne_eq, Nat.reduceEqDiff, not_false_eq_true, Int.toNat_natCast, x_lcmp] at *)); (all_goals (try omega)))
    refine h1 M2 (fun a a1 a2 => ?_) (Or.inl hz)
    rw [hA.1.1 a a1 (by omega) (by omega)]
    exact e1 a a1
/-- chances and hours of the hill f to those below k, mixed into h -/
def mixR (c g : Nat → Int) (f : Nat) (h : Int) : Nat → Int
  | 0 => h
  | k + 1 => if f = k then mixR c g f h k else 31 * (31 * mixR c g f h k + c k) + g k
def mixG (c g : Nat → Nat → Int) (h : Int) : Nat → Int
  | 0 => h
  | f + 1 => mixR (c f) (g f) f (mixG c g h f) 6
set_option maxRecDepth 100000 in
set_option maxHeartbeats 4000000 in
theorem c_mixHills {M : xM} {Q : Option xV → xM → Prop} {h : Int} (hh : hillOk M) (hq : Q (some (xJ (mixG (cM M) (hM M) h 6))) M) : xm 1 m_Hills_mixInto [xR (some 45), xJ h] M Q := by
  (refine xm_of (own := "DrumTongue$Hills") rfl (by decide +kernel) tk_Hills [some (xR (some 45)), some (xJ h), none, none, none, none, none] (Nat.le_of_ble_eq_true rfl) rfl ?_; intro D nx X C P hW)
  have inner : ∀ (m k f : Nat) (g : Int), k + m = 6 → f < 6 → X 71 [some (xR (some 45)), some (xJ h), none, some (xJ (mixR (cM M f) (hM M f) f g 6)), none, some (xI (f : Int)), some (xI 6)] [] (M, D, nx) 0 0 → X 15 [some (xR (some 45)), some (xJ h), none, some (xJ (mixR (cM M f) (hM M f) f g k)), none, some (xI (f : Int)), some (xI (k : Int))] [] (M, D, nx) 0 0 := by
    intro m
    induction m with
    | zero =>
      intro k f g hk hf kk
      obtain rfl : k = 6 := by omega
      refine xg hW k_Hills_mixInto [5, 15, 71] 40 ?_
      ((repeat' (first | (with_reducible refine And.intro ?_ ?_) | (intro h0; exact absurd h0 (by decide)) | (intro _) | ((conv => whnf); (first | (with_reducible refine And.intro ?_ ?_) | (intro h0; exact absurd h0 (by decide)) | (intro _))))); (all_goals (try omega)); (all_goals (try exact Nat.le_of_ble_eq_true rfl)); (all_goals (try ((conv => whnf); (first | (refine hW.2.1 _ _ ?_) | (change X _ _ _ _ _ _) | (change C _ _ _ _ _ _ _))))); (all_goals (try simp only [xup_at, xup_ne, xup_up, ne_eq, Nat.reduceEqDiff, not_false_eq_true, Int.toNat_natCast, x_lcmp] at *)); (all_goals (try omega)))
      all_goals exact kk
    | succ m ih =>
      intro k f g hk hf kk
      have t1 : xT0 (47 + (f : Int).toNat) = some (.inr (0, 6, none)) := xT0_c f hf
      have t2 : xT0 (54 + (f : Int).toNat) = some (.inr (0, 6, none)) := xT0_h f hf
      obtain ⟨b1, b2, b3, b4⟩ := hh f k hf (by omega)
      have h5 := ih (k + 1) f g (by omega) hf kk
      rw [mixR] at h5
      refine xg hW k_Hills_mixInto [5, 15, 71] 40 ?_
      ((repeat' (first | (with_reducible refine And.intro ?_ ?_) | (intro h0; exact absurd h0 (by decide)) | (intro _) | ((conv => whnf); (first | (with_reducible refine And.intro ?_ ?_) | (intro h0; exact absurd h0 (by decide)) | (intro _) | (rw [t1]) | (rw [t2]))))); (all_goals (try omega)); (all_goals (try exact Nat.le_of_ble_eq_true rfl)); (all_goals (try ((conv => whnf); (first | (refine hW.2.1 _ _ ?_) | (change X _ _ _ _ _ _) | (change C _ _ _ _ _ _ _))))); (all_goals (try simp only [xup_at, xup_ne, xup_up, ne_eq, Nat.reduceEqDiff, not_false_eq_true, Int.toNat_natCast, x_lcmp] at *)); (all_goals (try omega)))
      · rw [if_pos (by omega)] at h5
        exact h5
      · rw [if_neg (by omega)] at h5
        exact h5
  have outer : ∀ (m f : Nat) (v : Option xV), f + m = 6 → X 5 [some (xR (some 45)), some (xJ h), none, some (xJ (mixG (cM M) (hM M) h f)), none, some (xI (f : Int)), v] [] (M, D, nx) 0 0 := by
    intro m
    induction m with
    | zero =>
      intro f v hf
      obtain rfl : f = 6 := by omega
      refine xg hW k_Hills_mixInto [5, 15, 71] 40 ?_
      ((repeat' (first | (with_reducible refine And.intro ?_ ?_) | (intro h0; exact absurd h0 (by decide)) | (intro _) | ((conv => whnf); (first | (with_reducible refine And.intro ?_ ?_) | (intro h0; exact absurd h0 (by decide)) | (intro _))))); (all_goals (try omega)); (all_goals (try exact Nat.le_of_ble_eq_true rfl)); (all_goals (try ((conv => whnf); (first | (refine hW.2.1 _ _ ?_) | (change X _ _ _ _ _ _) | (change C _ _ _ _ _ _ _))))); (all_goals (try simp only [xup_at, xup_ne, xup_up, ne_eq, Nat.reduceEqDiff, not_false_eq_true, Int.toNat_natCast, x_lcmp] at *)); (all_goals (try omega)))
      all_goals exact hq
    | succ m ih =>
      intro f v hf
      refine xg hW k_Hills_mixInto [5, 15, 71] 40 ?_
      ((repeat' (first | (with_reducible refine And.intro ?_ ?_) | (intro h0; exact absurd h0 (by decide)) | (intro _) | ((conv => whnf); (first | (with_reducible refine And.intro ?_ ?_) | (intro h0; exact absurd h0 (by decide)) | (intro _))))); (all_goals (try omega)); (all_goals (try exact Nat.le_of_ble_eq_true rfl)); (all_goals (try ((conv => whnf); (first | (refine hW.2.1 _ _ ?_) | (change X _ _ _ _ _ _) | (change C _ _ _ _ _ _ _))))); (all_goals (try simp only [xup_at, xup_ne, xup_up, ne_eq, Nat.reduceEqDiff, not_false_eq_true, Int.toNat_natCast, x_lcmp] at *)); (all_goals (try omega)))
      refine inner 6 0 f (mixG (cM M) (hM M) h f) rfl (by omega) ?_
      refine xg hW k_Hills_mixInto [5, 15] 40 ?_
      ((repeat' (first | (with_reducible refine And.intro ?_ ?_) | (intro h0; exact absurd h0 (by decide)) | (intro _) | ((conv => whnf); (first | (with_reducible refine And.intro ?_ ?_) | (intro h0; exact absurd h0 (by decide)) | (intro _))))); (all_goals (try omega)); (all_goals (try exact Nat.le_of_ble_eq_true rfl)); (all_goals (try ((conv => whnf); (first | (refine hW.2.1 _ _ ?_) | (change X _ _ _ _ _ _) | (change C _ _ _ _ _ _ _))))); (all_goals (try simp only [xup_at, xup_ne, xup_up, ne_eq, Nat.reduceEqDiff, not_false_eq_true, Int.toNat_natCast, x_lcmp] at *)); (all_goals (try omega)))
      exact ih (f + 1) _ (by omega)
  refine xg hW k_Hills_mixInto [5, 15, 71] 40 ?_
  ((repeat' (first | (with_reducible refine And.intro ?_ ?_) | (intro h0; exact absurd h0 (by decide)) | (intro _) | ((conv => whnf); (first | (with_reducible refine And.intro ?_ ?_) | (intro h0; exact absurd h0 (by decide)) | (intro _))))); (all_goals (try omega)); (all_goals (try exact Nat.le_of_ble_eq_true rfl)); (all_goals (try ((conv => whnf); (first | (refine hW.2.1 _ _ ?_) | (change X _ _ _ _ _ _) | (change C _ _ _ _ _ _ _))))); (all_goals (try simp only [xup_at, xup_ne, xup_up, ne_eq, Nat.reduceEqDiff, not_false_eq_true, Int.toNat_natCast, x_lcmp] at *)); (all_goals (try omega)))
  exact outer 6 0 none rfl
