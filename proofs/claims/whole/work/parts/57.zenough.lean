/-! the reference: enough -/
def itN (th row : Nat → Int) : Nat → Int
  | 0 => 1000000000
  | k + 1 => (itN th row k * hby (th k) (row k)).tdiv 1000000000
def smN (row : Nat → Int) : Nat → Int
  | 0 => 0
  | k + 1 => smN row k + row k
theorem itN_congr {th row row' : Nat → Int} : ∀ k, (∀ j, j < k → row j = row' j) → itN th row k = itN th row' k
  | 0, _ => rfl
  | k + 1, h => by rw [itN, itN, itN_congr k (fun j hj => h j (by omega)), h k (by omega)]
theorem smN_congr {row row' : Nat → Int} : ∀ k, (∀ j, j < k → row j = row' j) → smN row k = smN row' k
  | 0, _ => rfl
  | k + 1, h => by rw [smN, smN, smN_congr k (fun j hj => h j (by omega)), h k (by omega)]
theorem itN_rg {th row : Nat → Int} (h : ∀ k, 0 ≤ th k ∧ th k ≤ 1000) : ∀ k, 0 ≤ itN th row k ∧ itN th row k ≤ 1000000000
  | 0 => ⟨by rw [itN]; decide, by rw [itN]; decide⟩
  | k + 1 => by
    have := its_rg (itN_rg (row := row) h k) (hby_rg (t := row k) (h k))
    have h2 := itN_rg (row := row) h k
    rw [itN]
    omega
theorem smN_rg {row : Nat → Int} : ∀ k, (∀ j, j < k → 1 ≤ row j ∧ row j ≤ 3) → (k : Int) ≤ smN row k ∧ smN row k ≤ 3 * k
  | 0, _ => by rw [smN]; decide
  | k + 1, h => by
    have h1 := smN_rg k (fun j hj => h j (by omega))
    have h2 := h k (by omega)
    rw [smN]
    omega
def enX (X : xS) (D : Nat → Option xE) (nx pc : Nat) (s d c best : Int) (r : xLs) (M : xM) : Prop := X pc (some (xR (some 64)) :: some (xI s) :: some (xI d) :: some (xI c) :: some (xI best) :: r) [] (M, D, nx) 0 0
set_option maxRecDepth 100000 in
set_option maxHeartbeats 1000000 in
theorem z_enF {M : xM} {Q : Option xV → xM → Prop} {k : Nat} {dd : Nat} {D : Nat → Option xE} {nx : Nat} {X : xS} {C : xC} {P : xP} (hW : xWk dd m_M_enoughFor tb_M Q D nx X C P) (hk : k < 6) {side th t : Int} (hs : 0 ≤ side ∧ side < 36) (hth : M 77 side.toNat = th) (ht : M 93 k = t) (rth : 0 ≤ th ∧ th ≤ 1000) (rt : 1 ≤ t ∧ t ≤ 3) {s d c best more its sum : Int} (h : ∀ z : Int, enX X D nx 147 s d c best [some (xI more), some (xJ its), none, some (xI sum), some (xI (k : Int)), some (xI side), some (xJ (msd th t 3)), none, some (xI z)] M) : enX X D nx 100 s d c best [some (xI more), some (xJ its), none, some (xI sum), some (xI (k : Int)), some (xI side), some (xJ 1), none, some (xI 0)] M := by
  have hm := msd_rg (t := t) rth
  have loop : ∀ (m j : Nat), j + m = 3 → enX X D nx 100 s d c best [some (xI more), some (xJ its), none, some (xI sum), some (xI (k : Int)), some (xI side), some (xJ (msd th t j)), none, some (xI (j : Int))] M := by
    intro m
    induction m with
    | zero =>
      intro j hj
      obtain rfl : j = 3 := by omega
      have h5 := h 3
      clear h
      generalize msd th t 3 = f at *
      unfold enX at *
      refine xg hW k_M_enoughFor [100, 147] 40 ?_
      ((repeat' (first | (with_reducible refine And.intro ?_ ?_) | (intro h0; exact absurd h0 (by decide)) | (intro h0; exact absurd rfl h0) | (intro h0; exfalso; clear hW; omega) | (intro _) | ((conv => whnf); (first | (with_reducible refine And.intro ?_ ?_) | (intro h0; exact absurd h0 (by decide)) | (intro h0; exact absurd rfl h0) | (intro h0; exfalso; clear hW; omega) | (intro _))))); (all_goals (try omega)); (all_goals (try exact xnn (by omega))); (all_goals (try exact Nat.le_of_ble_eq_true rfl)); (all_goals (try ((conv => whnf); (first | (refine hW.2.1 _ _ ?_) | (change X _ _ _ _ _ _) | (change C _ _ _ _ _ _ _))))); (all_goals (try simp only [xup_at, xup_ne, xup_up, ne_eq, Nat.reduceEqDiff, not_false_eq_true, Int.toNat_natCast, x_lcmp] at *)); (all_goals (try omega)))
      all_goals exact h5
    | succ m ih =>
      intro j hj
      have h5 := ih (j + 1) (by omega)
      rw [msd] at h5
      have ht' : M 93 ((k : Int).toNat) = t := ht
      clear h ih hm
      generalize msd th t j = f at *
      subst hth
      unfold enX at *
      by_cases q : (j : Int) < t
      · rw [if_pos q] at h5
        refine xg hW k_M_enoughFor [100, 147] 40 ?_
        ((repeat' (first | (with_reducible refine And.intro ?_ ?_) | (intro h0; exact absurd h0 (by decide)) | (intro h0; exact absurd rfl h0) | (intro h0; exfalso; clear hW; omega) | (intro _) | ((conv => whnf); (first | (with_reducible refine And.intro ?_ ?_) | (intro h0; exact absurd h0 (by decide)) | (intro h0; exact absurd rfl h0) | (intro h0; exfalso; clear hW; omega) | (intro _))))); (all_goals (try omega)); (all_goals (try exact xnn (by omega))); (all_goals (try exact Nat.le_of_ble_eq_true rfl)); (all_goals (try ((conv => whnf); (first | (refine hW.2.1 _ _ ?_) | (change X _ _ _ _ _ _) | (change C _ _ _ _ _ _ _))))); (all_goals (try simp only [xup_at, xup_ne, xup_up, ne_eq, Nat.reduceEqDiff, not_false_eq_true, Int.toNat_natCast, x_lcmp] at *)); (all_goals (try omega)))
        all_goals exact h5
      · rw [if_neg q] at h5
        refine xg hW k_M_enoughFor [100, 147] 40 ?_
        ((repeat' (first | (with_reducible refine And.intro ?_ ?_) | (intro h0; exact absurd h0 (by decide)) | (intro h0; exact absurd rfl h0) | (intro h0; exfalso; clear hW; omega) | (intro _) | ((conv => whnf); (first | (with_reducible refine And.intro ?_ ?_) | (intro h0; exact absurd h0 (by decide)) | (intro h0; exact absurd rfl h0) | (intro h0; exfalso; clear hW; omega) | (intro _))))); (all_goals (try omega)); (all_goals (try exact xnn (by omega))); (all_goals (try exact Nat.le_of_ble_eq_true rfl)); (all_goals (try ((conv => whnf); (first | (refine hW.2.1 _ _ ?_) | (change X _ _ _ _ _ _) | (change C _ _ _ _ _ _ _))))); (all_goals (try simp only [xup_at, xup_ne, xup_up, ne_eq, Nat.reduceEqDiff, not_false_eq_true, Int.toNat_natCast, x_lcmp] at *)); (all_goals (try omega)))
        all_goals exact h5
  exact loop 3 0 (by omega)
set_option maxRecDepth 100000 in
set_option maxHeartbeats 1000000 in
theorem z_enE {M : xM} {Q : Option xV → xM → Prop} {ns : Nat} {p : Nat → Nat} {th : Nat → Int} {dd : Nat} {D : Nat → Option xE} {nx : Nat} {X : xS} {C : xC} {P : xP} (hW : xWk dd m_M_enoughFor tb_M Q D nx X C P) (hns : ns ≤ 5) (e29 : M 64 29 = (ns : Int)) (h88 : ∀ k, k ≤ ns → M 88 k = (p k : Int) ∧ p k < 6) (hth : ∀ k, k < ns → M 77 (6 * p k + p (k + 1)) = th k) (rth : ∀ k, 0 ≤ th k ∧ th k ≤ 1000) (rt : ∀ k, k < ns → 1 ≤ M 93 k ∧ M 93 k ≤ 3) {s d c best more : Int} {x10 x11 x12 x13 : Option xV} (h : ∀ (y10 y11 y12 y13 : Option xV) (z : Int), enX X D nx 180 s d c best [some (xI more), some (xJ (itN th (M 93) ns)), none, some (xI (smN (M 93) ns)), some (xI z), y10, y11, y12, y13] M) : enX X D nx 63 s d c best [some (xI more), some (xJ 1000000000), none, some (xI 0), some (xI 0), x10, x11, x12, x13] M := by
  have loop : ∀ (m k : Nat), k + m = ns → ∀ x10 x11 x12 x13, enX X D nx 63 s d c best [some (xI more), some (xJ (itN th (M 93) k)), none, some (xI (smN (M 93) k)), some (xI (k : Int)), x10, x11, x12, x13] M := by
    intro m
    induction m with
    | zero =>
      intro k hk x10 x11 x12 x13
      obtain rfl : k = ns := by omega
      have h5 := h x10 x11 x12 x13 k
      clear h h88 hth rth rt
      generalize itN th (M 93) k = its at *
      generalize smN (M 93) k = sm at *
      unfold enX at *
      refine xg hW k_M_enoughFor [63, 180] 40 ?_
      ((repeat' (first | (with_reducible refine And.intro ?_ ?_) | (intro h0; exact absurd h0 (by decide)) | (intro h0; exact absurd rfl h0) | (intro h0; exfalso; clear hW; omega) | (intro _) | ((conv => whnf); (first | (with_reducible refine And.intro ?_ ?_) | (intro h0; exact absurd h0 (by decide)) | (intro h0; exact absurd rfl h0) | (intro h0; exfalso; clear hW; omega) | (intro _))))); (all_goals (try omega)); (all_goals (try exact xnn (by omega))); (all_goals (try exact Nat.le_of_ble_eq_true rfl)); (all_goals (try ((conv => whnf); (first | (refine hW.2.1 _ _ ?_) | (change X _ _ _ _ _ _) | (change C _ _ _ _ _ _ _))))); (all_goals (try simp only [xup_at, xup_ne, xup_up, ne_eq, Nat.reduceEqDiff, not_false_eq_true, Int.toNat_natCast, x_lcmp] at *)); (all_goals (try omega)))
      all_goals exact h5
    | succ m ih =>
      intro k hk x10 x11 x12 x13
      obtain ⟨g1, g2⟩ := h88 k (by omega)
      obtain ⟨g3, g4⟩ := h88 (k + 1) (by omega)
      have g5 := hth k (by omega)
      have g6 := rt k (by omega)
      have g7 := rth k
      have r1 := itN_rg (row := M 93) rth k
      have r2 := hby_rg (t := M 93 k) g7
      have r3 := its_rg r1 r2
      have r4 := smN_rg (row := M 93) k (fun j hj => rt j (by omega))
      have e1 : M 88 ((k : Int).toNat) = (p k : Int) := g1
      have e2 : M 88 (((k : Int) + 1).toNat) = (p (k + 1) : Int) := by rw [show ((k : Int) + 1).toNat = k + 1 by omega]; exact g3
      have es : (6 * M 88 ((k : Int).toNat) + M 88 (((k : Int) + 1).toNat)).toNat = 6 * p k + p (k + 1) := by omega
      have e3 : M 77 (6 * M 88 ((k : Int).toNat) + M 88 (((k : Int) + 1).toNat)).toNat = th k := by rw [es]; exact g5
      have n147 : ∀ z : Int, enX X D nx 147 s d c best [some (xI more), some (xJ (itN th (M 93) k)), none, some (xI (smN (M 93) k)), some (xI (k : Int)), some (xI (6 * M 88 ((k : Int).toNat) + M 88 (((k : Int) + 1).toNat))), some (xJ (msd (th k) (M 93 k) 3)), none, some (xI z)] M := fun z => by
        have h5 := fun y10 y11 y12 y13 => ih (k + 1) (by omega) y10 y11 y12 y13
        rw [itN, smN] at h5
        unfold hby at h5 r2 r3
        clear ih h h88 hth rth rt g1 g2 g3 g4 g5 e3 es
        generalize itN th (M 93) k = its at *
        generalize smN (M 93) k = sm at *
        generalize msd (th k) (M 93 k) 3 = f at *
        unfold enX at *
        refine xg hW k_M_enoughFor [63] 40 ?_
        ((repeat' (first | (with_reducible refine And.intro ?_ ?_) | (intro h0; exact absurd h0 (by decide)) | (intro h0; exact absurd rfl h0) | (intro h0; exfalso; clear hW; omega) | (intro _) | ((conv => whnf); (first | (with_reducible refine And.intro ?_ ?_) | (intro h0; exact absurd h0 (by decide)) | (intro h0; exact absurd rfl h0) | (intro h0; exfalso; clear hW; omega) | (intro _))))); (all_goals (try omega)); (all_goals (try exact xnn (by omega))); (all_goals (try exact Nat.le_of_ble_eq_true rfl)); (all_goals (try ((conv => whnf); (first | (refine hW.2.1 _ _ ?_) | (change X _ _ _ _ _ _) | (change C _ _ _ _ _ _ _))))); (all_goals (try simp only [xup_at, xup_ne, xup_up, ne_eq, Nat.reduceEqDiff, not_false_eq_true, Int.toNat_natCast, x_lcmp] at *)); (all_goals (try omega)))
        all_goals exact h5 _ _ _ _
      have h6 := z_enF (M := M) (k := k) (its := itN th (M 93) k) (sum := smN (M 93) k) (s := s) (d := d) (c := c) (best := best) (more := more) hW (by omega) (side := 6 * M 88 ((k : Int).toNat) + M 88 (((k : Int) + 1).toNat)) (by omega) e3 rfl g7 g6 n147
      clear ih h h88 hth rth rt n147 r3 r2
      generalize itN th (M 93) k = its at *
      generalize smN (M 93) k = sm at *
      unfold enX at *
      refine xg hW k_M_enoughFor [63, 100] 40 ?_
      ((repeat' (first | (with_reducible refine And.intro ?_ ?_) | (intro h0; exact absurd h0 (by decide)) | (intro h0; exact absurd rfl h0) | (intro h0; exfalso; clear hW; omega) | (intro _) | ((conv => whnf); (first | (with_reducible refine And.intro ?_ ?_) | (intro h0; exact absurd h0 (by decide)) | (intro h0; exact absurd rfl h0) | (intro h0; exfalso; clear hW; omega) | (intro _))))); (all_goals (try omega)); (all_goals (try exact xnn (by omega))); (all_goals (try exact Nat.le_of_ble_eq_true rfl)); (all_goals (try ((conv => whnf); (first | (refine hW.2.1 _ _ ?_) | (change X _ _ _ _ _ _) | (change C _ _ _ _ _ _ _))))); (all_goals (try simp only [xup_at, xup_ne, xup_up, ne_eq, Nat.reduceEqDiff, not_false_eq_true, Int.toNat_natCast, x_lcmp] at *)); (all_goals (try omega)))
      all_goals exact h6
  exact loop ns 0 (by omega) x10 x11 x12 x13
