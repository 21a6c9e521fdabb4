/-! the reference: all numbers of times -/
def enB (E : xE2) : Int := if E.1 = 0 then -1 else E.1
set_option maxRecDepth 100000 in
set_option maxHeartbeats 1000000 in
theorem z_enC {M : xM} {Q : Option xV → xM → Prop} {ns : Nat} {dd : Nat} {D : Nat → Option xE} {nx : Nat} {X : xS} {C : xC} {P : xP} (hW : xWk dd m_M_enoughFor tb_M Q D nx X C P) (hns : ns ≤ 5) (e29 : M 64 29 = (ns : Int)) {s d c best more its sum : Int} {x10 x11 x12 x13 : Option xV} (h : ∀ g : Nat → Int, (∀ j, j < ns → g j = M 93 j) → ∀ z : Int, enX X D nx 237 s d c best [some (xI more), some (xJ its), none, some (xI sum), some (xI z), x10, x11, x12, x13] (xup M 94 g)) : enX X D nx 208 s d c best [some (xI more), some (xJ its), none, some (xI sum), some (xI 0), x10, x11, x12, x13] M := by
  have loop : ∀ (m k : Nat) (g : Nat → Int), k + m = ns → (∀ j, j < k → g j = M 93 j) → enX X D nx 208 s d c best [some (xI more), some (xJ its), none, some (xI sum), some (xI (k : Int)), x10, x11, x12, x13] (xup M 94 g) := by
    intro m
    induction m with
    | zero =>
      intro k g hk hg
      have h5 := h g (fun j hj => hg j (by omega)) (k : Int)
      clear h hg
      unfold enX at *
      refine xg hW k_M_enoughFor [208, 237] 40 ?_
      ((repeat' (first | (with_reducible refine And.intro ?_ ?_) | (intro h0; exact absurd h0 (by decide)) | (intro h0; exact absurd rfl h0) | (intro h0; exfalso; clear hW; omega) | (intro _) | ((conv => whnf); (first | (with_reducible refine And.intro ?_ ?_) | (intro h0; exact absurd h0 (by decide)) | (intro h0; exact absurd rfl h0) | (intro h0; exfalso; clear hW; omega) | (intro _))))); (all_goals (try omega)); (all_goals (try exact xnn (by omega))); (all_goals (try exact Nat.le_of_ble_eq_true rfl)); (all_goals (try ((conv => whnf); (first | (refine hW.2.1 _ _ ?_) | (change X _ _ _ _ _ _) | (change C _ _ _ _ _ _ _))))); (all_goals (try simp only [xup_at, xup_ne, xup_up, ne_eq, Nat.reduceEqDiff, not_false_eq_true, Int.toNat_natCast, x_lcmp] at *)); (all_goals (try omega)))
      all_goals exact h5
    | succ m ih =>
      intro k g hk hg
      have h5 := ih (k + 1) (xup g k (M 93 k)) (by omega) (fun j hj => by
        by_cases q : j = k
        · rw [q, xup_at]
        · rw [xup_ne q]; exact hg j (by omega))
      clear h hg ih
      unfold enX at *
      refine xg hW k_M_enoughFor [208, 237] 40 ?_
      ((repeat' (first | (with_reducible refine And.intro ?_ ?_) | (intro h0; exact absurd h0 (by decide)) | (intro h0; exact absurd rfl h0) | (intro h0; exfalso; clear hW; omega) | (intro _) | ((conv => whnf); (first | (with_reducible refine And.intro ?_ ?_) | (intro h0; exact absurd h0 (by decide)) | (intro h0; exact absurd rfl h0) | (intro h0; exfalso; clear hW; omega) | (intro _))))); (all_goals (try omega)); (all_goals (try exact xnn (by omega))); (all_goals (try exact Nat.le_of_ble_eq_true rfl)); (all_goals (try ((conv => whnf); (first | (refine hW.2.1 _ _ ?_) | (change X _ _ _ _ _ _) | (change C _ _ _ _ _ _ _))))); (all_goals (try simp only [xup_at, xup_ne, xup_up, ne_eq, Nat.reduceEqDiff, not_false_eq_true, Int.toNat_natCast, x_lcmp] at *)); (all_goals (try omega)))
      all_goals exact h5
  have h5 := loop ns 0 (M 94) (by omega) (fun j hj => absurd hj (by omega))
  rw [xup_id] at h5
  exact h5
set_option maxRecDepth 100000 in
set_option maxHeartbeats 1000000 in
theorem z_enL {M : xM} {Q : Option xV → xM → Prop} {ns : Nat} {p : Nat → Nat} {th : Nat → Int} {E : xE2} {dd : Nat} {D : Nat → Option xE} {nx : Nat} {X : xS} {C : xC} {P : xP} (hW : xWk dd m_M_enoughFor tb_M Q D nx X C P) (hns : ns ≤ 5) (e29 : M 64 29 = (ns : Int)) (h88 : ∀ k, k ≤ ns → M 88 k = (p k : Int) ∧ p k < 6) (hth : ∀ k, k < ns → M 77 (6 * p k + p (k + 1)) = th k) (rth : ∀ k, 0 ≤ th k ∧ th k ≤ 1000) (rt : ∀ k, k < ns → 1 ≤ M 93 k ∧ M 93 k ≤ 3) (hE : 0 ≤ E.1 ∧ E.1 ≤ 100) {s d c : Int} (hc : 1 ≤ c ∧ c ≤ 1000000000) {x6 x7 x8 x9 x10 x11 x12 x13 : Option xV}
    (hn : ¬ (c ≤ itN th (M 93) ns ∧ (E.1 = 0 ∨ smN (M 93) ns < E.1)) → ∀ (its sum : Int) y10 y11 y12 y13, enX X D nx 245 s d c (enB E) [some (xI 1), some (xJ its), none, some (xI sum), some (xI ((ns : Int) - 1)), y10, y11, y12, y13] M)
    (hy : c ≤ itN th (M 93) ns ∧ (E.1 = 0 ∨ smN (M 93) ns < E.1) → ∀ g : Nat → Int, (∀ j, j < ns → g j = M 93 j) → ∀ (its sum : Int) y10 y11 y12 y13, enX X D nx 245 s d c (smN (M 93) ns) [some (xI 1), some (xJ its), none, some (xI sum), some (xI ((ns : Int) - 1)), y10, y11, y12, y13] (xup M 94 g)) : enX X D nx 47 s d c (enB E) [some (xI 1), x6, x7, x8, x9, x10, x11, x12, x13] M := by
  have r1 := itN_rg (row := M 93) rth ns
  have r4 := smN_rg (row := M 93) ns rt
  have p180 : ∀ (y10 y11 y12 y13 : Option xV) (z : Int), enX X D nx 180 s d c (enB E) [some (xI 1), some (xJ (itN th (M 93) ns)), none, some (xI (smN (M 93) ns)), some (xI z), y10, y11, y12, y13] M := fun y10 y11 y12 y13 z => by
    have p201 : c ≤ itN th (M 93) ns ∧ (E.1 = 0 ∨ smN (M 93) ns < E.1) → enX X D nx 208 s d c (smN (M 93) ns) [some (xI 1), some (xJ (itN th (M 93) ns)), none, some (xI (smN (M 93) ns)), some (xI 0), y10, y11, y12, y13] M := fun q => z_enC hW hns e29 (fun g hg z => by
      have h5 := hy q g hg (itN th (M 93) ns) (smN (M 93) ns) y10 y11 y12 y13
      clear hn hy h88 hth rth rt hg
      generalize itN th (M 93) ns = its at *
      generalize smN (M 93) ns = sm at *
      generalize enB E = b at *
      unfold enX at *
      refine xg hW k_M_enoughFor [245] 40 ?_
      ((repeat' (first | (with_reducible refine And.intro ?_ ?_) | (intro h0; exact absurd h0 (by decide)) | (intro h0; exact absurd rfl h0) | (intro h0; exfalso; clear hW; omega) | (intro _) | ((conv => whnf); (first | (with_reducible refine And.intro ?_ ?_) | (intro h0; exact absurd h0 (by decide)) | (intro h0; exact absurd rfl h0) | (intro h0; exfalso; clear hW; omega) | (intro _))))); (all_goals (try omega)); (all_goals (try exact xnn (by omega))); (all_goals (try exact Nat.le_of_ble_eq_true rfl)); (all_goals (try ((conv => whnf); (first | (refine hW.2.1 _ _ ?_) | (change X _ _ _ _ _ _) | (change C _ _ _ _ _ _ _))))); (all_goals (try simp only [xup_at, xup_ne, xup_up, ne_eq, Nat.reduceEqDiff, not_false_eq_true, Int.toNat_natCast, x_lcmp] at *)); (all_goals (try omega)))
      rw [e29]
      exact h5)
    have p237 := fun q => hn q (itN th (M 93) ns) (smN (M 93) ns) y10 y11 y12 y13
    have hb : (E.1 = 0 ∧ enB E = -1) ∨ (0 < E.1 ∧ enB E = E.1) := by unfold enB; split <;> omega
    clear hn hy h88 hth rth rt
    generalize itN th (M 93) ns = its at *
    generalize smN (M 93) ns = sm at *
    generalize enB E = b at *
    generalize E.1 = e at *
    unfold enX at *
    refine xg hW k_M_enoughFor [208, 245] 40 ?_
    ((repeat' (first | (with_reducible refine And.intro ?_ ?_) | (intro h0; exact absurd h0 (by decide)) | (intro h0; exact absurd rfl h0) | (intro h0; exfalso; clear hW; omega) | (intro _) | ((conv => whnf); (first | (with_reducible refine And.intro ?_ ?_) | (intro h0; exact absurd h0 (by decide)) | (intro h0; exact absurd rfl h0) | (intro h0; exfalso; clear hW; omega) | (intro _))))); (all_goals (try omega)); (all_goals (try exact xnn (by omega))); (all_goals (try exact Nat.le_of_ble_eq_true rfl)); (all_goals (try ((conv => whnf); (first | (refine hW.2.1 _ _ ?_) | (change X _ _ _ _ _ _) | (change C _ _ _ _ _ _ _))))); (all_goals (try simp only [xup_at, xup_ne, xup_up, ne_eq, Nat.reduceEqDiff, not_false_eq_true, Int.toNat_natCast, x_lcmp] at *)); (all_goals (try omega)))
    all_goals first
      | (rw [e29]; exact p237 (by omega))
      | exact p201 (by omega)
      | trace_state
  have h5 := z_enE (M := M) (s := s) (d := d) (c := c) (best := enB E) (more := 1) (x10 := x10) (x11 := x11) (x12 := x12) (x13 := x13) hW hns e29 h88 hth rth rt p180
  clear hn hy h88 hth rth rt p180
  generalize enB E = b at *
  unfold enX at *
  refine xg hW k_M_enoughFor [47, 63] 40 ?_
  ((repeat' (first | (with_reducible refine And.intro ?_ ?_) | (intro h0; exact absurd h0 (by decide)) | (intro h0; exact absurd rfl h0) | (intro h0; exfalso; clear hW; omega) | (intro _) | ((conv => whnf); (first | (with_reducible refine And.intro ?_ ?_) | (intro h0; exact absurd h0 (by decide)) | (intro h0; exact absurd rfl h0) | (intro h0; exfalso; clear hW; omega) | (intro _))))); (all_goals (try omega)); (all_goals (try exact xnn (by omega))); (all_goals (try exact Nat.le_of_ble_eq_true rfl)); (all_goals (try ((conv => whnf); (first | (refine hW.2.1 _ _ ?_) | (change X _ _ _ _ _ _) | (change C _ _ _ _ _ _ _))))); (all_goals (try simp only [xup_at, xup_ne, xup_up, ne_eq, Nat.reduceEqDiff, not_false_eq_true, Int.toNat_natCast, x_lcmp] at *)); (all_goals (try omega)))
  all_goals exact h5
def enI (M1 M' : xM) (ns k : Nat) (row : Nat → Int) (E : xE2) : Prop := (∀ a, a ≠ 93 → a ≠ 94 → M' a = M1 a) ∧ (∀ j, j < k → M' 93 j = row j) ∧ (∀ j, k ≤ j → j < ns → M' 93 j = 1) ∧ (0 < E.1 → ∀ j, j < ns → M' 94 j = E.2 j) ∧ 0 ≤ E.1 ∧ E.1 ≤ 100
/-- behind a part of the search: the place k - 1 is next -/
def enK (X : xS) (D : Nat → Option xE) (nx : Nat) (M1 : xM) (s d c : Int) (ns k : Nat) (row : Nat → Int) (E : xE2) : Prop := ∀ M'', enI M1 M'' ns k row E → ∀ (its sum : Int) y10 y11 y12 y13, enX X D nx 245 s d c (enB E) [some (xI 1), some (xJ its), none, some (xI sum), some (xI ((k : Int) - 1)), y10, y11, y12, y13] M''
set_option maxRecDepth 100000 in
set_option maxHeartbeats 1000000 in
theorem z_enUp {M : xM} {Q : Option xV → xM → Prop} {ns k : Nat} {t : Int} {dd : Nat} {D : Nat → Option xE} {nx : Nat} {X : xS} {C : xC} {P : xP} (hW : xWk dd m_M_enoughFor tb_M Q D nx X C P) (hk : k < ns) (hns : ns ≤ 5) (ht : M 93 k = t) (rt : 1 ≤ t ∧ t ≤ 2) {s d c b its sum : Int} {y10 y11 y12 y13 : Option xV} (h : enX X D nx 47 s d c b [some (xI 1), some (xJ its), none, some (xI sum), some (xI (k : Int)), y10, y11, y12, y13] (xup M 93 (xup (M 93) k (t + 1)))) : enX X D nx 245 s d c b [some (xI 1), some (xJ its), none, some (xI sum), some (xI (k : Int)), y10, y11, y12, y13] M := by
  have ht' : M 93 ((k : Int).toNat) = t := ht
  rw [← ht] at h
  unfold enX at *
  refine xg hW k_M_enoughFor [47, 245] 40 ?_
  ((repeat' (first | (with_reducible refine And.intro ?_ ?_) | (intro h0; exact absurd h0 (by decide)) | (intro h0; exact absurd rfl h0) | (intro h0; exfalso; clear hW; omega) | (intro _) | ((conv => whnf); (first | (with_reducible refine And.intro ?_ ?_) | (intro h0; exact absurd h0 (by decide)) | (intro h0; exact absurd rfl h0) | (intro h0; exfalso; clear hW; omega) | (intro _))))); (all_goals (try omega)); (all_goals (try exact xnn (by omega))); (all_goals (try exact Nat.le_of_ble_eq_true rfl)); (all_goals (try ((conv => whnf); (first | (refine hW.2.1 _ _ ?_) | (change X _ _ _ _ _ _) | (change C _ _ _ _ _ _ _))))); (all_goals (try simp only [xup_at, xup_ne, xup_up, ne_eq, Nat.reduceEqDiff, not_false_eq_true, Int.toNat_natCast, x_lcmp] at *)); (all_goals (try omega)))
  all_goals exact h
set_option maxRecDepth 100000 in
set_option maxHeartbeats 1000000 in
theorem z_enOver {M : xM} {Q : Option xV → xM → Prop} {ns k : Nat} {dd : Nat} {D : Nat → Option xE} {nx : Nat} {X : xS} {C : xC} {P : xP} (hW : xWk dd m_M_enoughFor tb_M Q D nx X C P) (hk : k < ns) (hns : ns ≤ 5) (ht : M 93 k = 3) {s d c b its sum : Int} {y10 y11 y12 y13 : Option xV} (h : enX X D nx 245 s d c b [some (xI 1), some (xJ its), none, some (xI sum), some (xI ((k : Int) - 1)), y10, y11, y12, y13] (xup M 93 (xup (M 93) k 1))) : enX X D nx 245 s d c b [some (xI 1), some (xJ its), none, some (xI sum), some (xI (k : Int)), y10, y11, y12, y13] M := by
  have ht' : M 93 ((k : Int).toNat) = 3 := ht
  unfold enX at *
  refine xg hW k_M_enoughFor [47, 245] 40 ?_
  ((repeat' (first | (with_reducible refine And.intro ?_ ?_) | (intro h0; exact absurd h0 (by decide)) | (intro h0; exact absurd rfl h0) | (intro h0; exfalso; clear hW; omega) | (intro _) | ((conv => whnf); (first | (with_reducible refine And.intro ?_ ?_) | (intro h0; exact absurd h0 (by decide)) | (intro h0; exact absurd rfl h0) | (intro h0; exfalso; clear hW; omega) | (intro _))))); (all_goals (try omega)); (all_goals (try exact xnn (by omega))); (all_goals (try exact Nat.le_of_ble_eq_true rfl)); (all_goals (try ((conv => whnf); (first | (refine hW.2.1 _ _ ?_) | (change X _ _ _ _ _ _) | (change C _ _ _ _ _ _ _))))); (all_goals (try simp only [xup_at, xup_ne, xup_up, ne_eq, Nat.reduceEqDiff, not_false_eq_true, Int.toNat_natCast, x_lcmp] at *)); (all_goals (try omega)))
  all_goals exact h
theorem z_enR {M1 : xM} {Q : Option xV → xM → Prop} {ns : Nat} {p : Nat → Nat} {th : Nat → Int} {dd : Nat} {D : Nat → Option xE} {nx : Nat} {X : xS} {C : xC} {P : xP} (hW : xWk dd m_M_enoughFor tb_M Q D nx X C P) (hns : ns ≤ 5) (hns1 : 1 ≤ ns) (e29 : M1 64 29 = (ns : Int)) (h88 : ∀ k, k ≤ ns → M1 88 k = (p k : Int) ∧ p k < 6) (hth : ∀ k, k < ns → M1 77 (6 * p k + p (k + 1)) = th k) (rth : ∀ k, 0 ≤ th k ∧ th k ≤ 1000) {s d c : Int} (hc : 1 ≤ c ∧ c ≤ 1000000000) : ∀ (f k : Nat), k + f = ns → ∀ (row : Nat → Int) (E : xE2) (M' : xM), (∀ j, j < k → 1 ≤ row j ∧ row j ≤ 3) → enI M1 M' ns k row E → enK X D nx M1 s d c ns k row (eRec th c f k row (smN row k) (itN th row k) E) → ∀ x6 x7 x8 x9 x10 x11 x12 x13, enX X D nx 47 s d c (enB E) [some (xI 1), x6, x7, x8, x9, x10, x11, x12, x13] M' := by
  intro f
  induction f with
  | zero =>
    intro k hk row E M' hrow hI hK x6 x7 x8 x9 x10 x11 x12 x13
    obtain rfl : k = ns := by omega
    obtain ⟨i1, i2, i3, i4, i5, i6⟩ := id hI
    have e1 := itN_congr (th := th) k i2
    have e2 := smN_congr k i2
    rw [eRec, ← e1, ← e2] at hK
    have r4 := smN_rg (row := M' 93) k (fun j hj => by rw [i2 j hj]; exact hrow j hj)
    refine z_enL hW hns (by rw [i1 64 (by decide) (by decide)]; exact e29) (fun k hk => by rw [i1 88 (by decide) (by decide)]; exact h88 k hk) (fun k hk => by rw [i1 77 (by decide) (by decide)]; exact hth k hk) rth (fun j hj => by rw [i2 j hj]; exact hrow j hj) ⟨i5, i6⟩ hc (fun hn its sum y10 y11 y12 y13 => ?_) (fun hy g hg its sum y10 y11 y12 y13 => ?_)
    · rw [if_neg hn] at hK
      exact hK M' hI its sum y10 y11 y12 y13
    · rw [if_pos hy] at hK
      have eb : enB (smN (M' 93) k, row) = smN (M' 93) k := by
        unfold enB
        rw [if_neg (by simp only; omega)]
      have h5 := hK (xup M' 94 g) ⟨fun a a1 a2 => by rw [xup_ne a2]; exact i1 a a1 a2, fun j hj => by rw [xup_ne (by decide)]; exact i2 j hj, fun j h1 h2 => absurd h2 (by omega), fun _ j hj => by rw [xup_at, hg j hj]; exact i2 j hj, by simp only; omega, by simp only; omega⟩ its sum y10 y11 y12 y13
      rw [eb] at h5
      exact h5
  | succ f ih =>
    intro k hk row E M' hrow hI hK x6 x7 x8 x9 x10 x11 x12 x13
    rw [eRec] at hK
    have hrow' : ∀ t : Int, 1 ≤ t → t ≤ 3 → ∀ j, j < k + 1 → 1 ≤ xup row k t j ∧ xup row k t j ≤ 3 := fun t t1 t2 j hj => by
      by_cases q : j = k
      · rw [q, xup_at]; exact ⟨t1, t2⟩
      · rw [xup_ne q]; exact hrow j (by omega)
    have es : ∀ t : Int, smN (xup row k t) (k + 1) = smN row k + t := fun t => by
      rw [smN, xup_at, smN_congr k (row := xup row k t) (row' := row) (fun j hj => xup_ne (by omega))]
    have ei : ∀ t : Int, itN th (xup row k t) (k + 1) = (itN th row k * hby (th k) t).tdiv 1000000000 := fun t => by
      rw [itN, xup_at, itN_congr k (row := xup row k t) (row' := row) (fun j hj => xup_ne (by omega))]
    have stepI : ∀ (M2 : xM) (t t' : Int) (E : xE2), enI M1 M2 ns (k + 1) (xup row k t) E → enI M1 (xup M2 93 (xup (M2 93) k t')) ns (k + 1) (xup row k t') E := fun M2 t t' E ⟨a1, a2, a3, a4, a5⟩ => ⟨fun a h1 h2 => by rw [xup_ne h1]; exact a1 a h1 h2, fun j hj => by
      rw [xup_at]
      by_cases q : j = k
      · rw [q, xup_at, xup_at]
      · rw [xup_ne q, xup_ne q]
        have := a2 j hj
        rw [xup_ne q] at this
        exact this, fun j h1 h2 => by rw [xup_at, xup_ne (by omega)]; exact a3 j h1 h2, fun h j hj => by rw [xup_ne (by decide)]; exact a4 h j hj, a5⟩
    have ek : ((k + 1 : Nat) : Int) - 1 = (k : Int) := by omega
    have a93 : ∀ (M2 : xM) (t : Int) (E : xE2), enI M1 M2 ns (k + 1) (xup row k t) E → M2 93 k = t := fun M2 t E h => by
      rw [h.2.1 k (by omega), xup_at]
    obtain ⟨i1, i2, i3, i4, i5⟩ := id hI
    have hI1 : enI M1 M' ns (k + 1) (xup row k 1) E := ⟨i1, fun j hj => by
      by_cases q : j = k
      · rw [q, xup_at]; exact i3 k (Nat.le_refl _) (by omega)
      · rw [xup_ne q]; exact i2 j (by omega), fun j h1 h2 => i3 j (by omega) h2, i4, i5⟩
    refine ih (k + 1) (by omega) (xup row k 1) E M' (hrow' 1 (by decide) (by decide)) hI1 ?_ x6 x7 x8 x9 x10 x11 x12 x13
    rw [es, ei]
    intro M2 hI2 its sum y10 y11 y12 y13
    rw [ek]
    refine z_enUp hW (show k < ns by omega) hns (a93 M2 1 _ hI2) ⟨by decide, by decide⟩ ?_
    refine ih (k + 1) (by omega) (xup row k 2) _ _ (hrow' 2 (by decide) (by decide)) (stepI M2 1 (1 + 1) _ hI2) ?_ _ _ _ _ _ _ _ _
    rw [es, ei]
    intro M3 hI3 its sum y10 y11 y12 y13
    rw [ek]
    refine z_enUp hW (show k < ns by omega) hns (a93 M3 2 _ hI3) ⟨by decide, by decide⟩ ?_
    refine ih (k + 1) (by omega) (xup row k 3) _ _ (hrow' 3 (by decide) (by decide)) (stepI M3 2 (2 + 1) _ hI3) ?_ _ _ _ _ _ _ _ _
    rw [es, ei]
    intro M4 hI4 its sum y10 y11 y12 y13
    rw [ek]
    refine z_enOver hW (show k < ns by omega) hns (a93 M4 3 _ hI4) ?_
    refine hK _ ?_ its sum y10 y11 y12 y13
    obtain ⟨b1, b2, b3, b4, b5⟩ := hI4
    refine ⟨fun a h1 h2 => by rw [xup_ne h1]; exact b1 a h1 h2, fun j hj => ?_, fun j h1 h2 => ?_, fun h j hj => by rw [xup_ne (by decide)]; exact b4 h j hj, b5⟩
    · rw [xup_at, xup_ne (by omega)]
      have := b2 j (by omega)
      rw [xup_ne (by omega)] at this
      exact this
    · rw [xup_at]
      by_cases q : j = k
      · rw [q, xup_at]
      · rw [xup_ne q]; exact b3 j (by omega) h2
