/-! the reference: rows of costs -/
/-- what is heard is the same -/
def relH (M : xM) : Prop := M 64 13 = M 23 1 ∧ ∀ j : Nat, (j : Int) < M 23 1 → M 75 j = M 24 j
set_option maxRecDepth 100000 in
set_option maxHeartbeats 600000 in
theorem z_lesser {M : xM} {Q : Option xV → xM → Prop} {a b : Int} (h : (xrg a ∧ xrg b) ∧ Q (some (xI (min a b))) M) : xm 1 m_M_lesser [xI a, xI b] M Q := by
  obtain ⟨⟨⟨a1, a2⟩, b1, b2⟩, h⟩ := h
  rcases Int.lt_or_le a b with q | q
  · rw [Int.min_eq_left (by omega)] at h
    (refine xm_of (own := "DrumTongueModel") rfl (by decide +kernel) tk_M [some (xI a), some (xI b)] (Nat.le_of_ble_eq_true rfl) rfl ?_; intro D nx X C P hW)
    refine xg hW k_M_lesser [] 40 ?_
    ((repeat' (first | (with_reducible refine And.intro ?_ ?_) | (intro h0; exact absurd h0 (by decide)) | (intro h0; exact absurd rfl h0) | (intro h0; exfalso; clear hW; omega) | (intro _) | ((conv => whnf); (first | (with_reducible refine And.intro ?_ ?_) | (intro h0; exact absurd h0 (by decide)) | (intro h0; exact absurd rfl h0) | (intro h0; exfalso; clear hW; omega) | (intro _))))); (all_goals (try omega)); (all_goals (try exact xnn (by omega))); (all_goals (try exact Nat.le_of_ble_eq_true rfl)); (all_goals (try ((conv => whnf); (first | (refine hW.2.1 _ _ ?_) | (change X _ _ _ _ _ _) | (change C _ _ _ _ _ _ _))))); (all_goals (try simp only [xup_at, xup_ne, xup_up, ne_eq, Nat.reduceEqDiff, not_false_eq_true, Int.toNat_natCast, x_lcmp] at *)); (all_goals (try omega)))
    all_goals exact h
  · rw [Int.min_eq_right q] at h
    (refine xm_of (own := "DrumTongueModel") rfl (by decide +kernel) tk_M [some (xI a), some (xI b)] (Nat.le_of_ble_eq_true rfl) rfl ?_; intro D nx X C P hW)
    refine xg hW k_M_lesser [] 40 ?_
    ((repeat' (first | (with_reducible refine And.intro ?_ ?_) | (intro h0; exact absurd h0 (by decide)) | (intro h0; exact absurd rfl h0) | (intro h0; exfalso; clear hW; omega) | (intro _) | ((conv => whnf); (first | (with_reducible refine And.intro ?_ ?_) | (intro h0; exact absurd h0 (by decide)) | (intro h0; exact absurd rfl h0) | (intro h0; exfalso; clear hW; omega) | (intro _))))); (all_goals (try omega)); (all_goals (try exact xnn (by omega))); (all_goals (try exact Nat.le_of_ble_eq_true rfl)); (all_goals (try ((conv => whnf); (first | (refine hW.2.1 _ _ ?_) | (change X _ _ _ _ _ _) | (change C _ _ _ _ _ _ _))))); (all_goals (try simp only [xup_at, xup_ne, xup_up, ne_eq, Nat.reduceEqDiff, not_false_eq_true, Int.toNat_natCast, x_lcmp] at *)); (all_goals (try omega)))
    all_goals exact h
set_option maxRecDepth 100000 in
set_option maxHeartbeats 600000 in
theorem z_off {M : xM} {Q : Option xV → xM → Prop} {p : Nat} {b : Int} (h : ((p : Int) < 60 ∧ (-1 ≤ M 75 p ∧ M 75 p ≤ 1) ∧ 0 ≤ b ∧ b ≤ 1) ∧ Q (some (xI (cst (M 75 p) b))) M) : xm 1 m_M_off [xR (some 64), xI (p : Int), xI b] M Q := by
  obtain ⟨⟨h1, ⟨h2, h3⟩, h4, h5⟩, h⟩ := h
  unfold cst at h
  by_cases q : M 75 p = -1 ∨ M 75 p = b
  · rw [if_pos q] at h
    (refine xm_of (own := "DrumTongueModel") rfl (by decide +kernel) tk_M [some (xR (some 64)), some (xI (p : Int)), some (xI b)] (Nat.le_of_ble_eq_true rfl) rfl ?_; intro D nx X C P hW)
    refine xg hW k_M_off [] 40 ?_
    ((repeat' (first | (with_reducible refine And.intro ?_ ?_) | (intro h0; exact absurd h0 (by decide)) | (intro h0; exact absurd rfl h0) | (intro h0; exfalso; clear hW; omega) | (intro _) | ((conv => whnf); (first | (with_reducible refine And.intro ?_ ?_) | (intro h0; exact absurd h0 (by decide)) | (intro h0; exact absurd rfl h0) | (intro h0; exfalso; clear hW; omega) | (intro _))))); (all_goals (try omega)); (all_goals (try exact xnn (by omega))); (all_goals (try exact Nat.le_of_ble_eq_true rfl)); (all_goals (try ((conv => whnf); (first | (refine hW.2.1 _ _ ?_) | (change X _ _ _ _ _ _) | (change C _ _ _ _ _ _ _))))); (all_goals (try simp only [xup_at, xup_ne, xup_up, ne_eq, Nat.reduceEqDiff, not_false_eq_true, Int.toNat_natCast, x_lcmp] at *)); (all_goals (try omega)))
    all_goals exact h
  · rw [if_neg q] at h
    (refine xm_of (own := "DrumTongueModel") rfl (by decide +kernel) tk_M [some (xR (some 64)), some (xI (p : Int)), some (xI b)] (Nat.le_of_ble_eq_true rfl) rfl ?_; intro D nx X C P hW)
    refine xg hW k_M_off [] 40 ?_
    ((repeat' (first | (with_reducible refine And.intro ?_ ?_) | (intro h0; exact absurd h0 (by decide)) | (intro h0; exact absurd rfl h0) | (intro h0; exfalso; clear hW; omega) | (intro _) | ((conv => whnf); (first | (with_reducible refine And.intro ?_ ?_) | (intro h0; exact absurd h0 (by decide)) | (intro h0; exact absurd rfl h0) | (intro h0; exfalso; clear hW; omega) | (intro _))))); (all_goals (try omega)); (all_goals (try exact xnn (by omega))); (all_goals (try exact Nat.le_of_ble_eq_true rfl)); (all_goals (try ((conv => whnf); (first | (refine hW.2.1 _ _ ?_) | (change X _ _ _ _ _ _) | (change C _ _ _ _ _ _ _))))); (all_goals (try simp only [xup_at, xup_ne, xup_up, ne_eq, Nat.reduceEqDiff, not_false_eq_true, Int.toNat_natCast, x_lcmp] at *)); (all_goals (try omega)))
    all_goals exact h
/-- the new row, before the gaps between are counted -/
def rw0 (H : Nat → Int) (b : Int) (n : Nat) (f : Nat → Int) (j : Nat) : Int := if j < n then min (f j + 3) (f (j + 1) + cst (H j) b) else f j + 3
theorem cR_b {n : Int} {f : Nat → Int} (h : cR n f) {j : Nat} (hj : (j : Int) ≤ n) : 0 ≤ f j ∧ f j ≤ 1900000 := h j hj
set_option maxRecDepth 100000 in
set_option maxHeartbeats 1000000 in
theorem z_ahC {M : xM} {Q : Option xV → xM → Prop} {n : Nat} {d : Nat} {D : Nat → Option xE} {nx : Nat} {X : xS} {C : xC} {P : xP} (hd : 1 < d) (hW : xWk d m_M_ahead tb_M Q D nx X C P) (hn60 : n ≤ 60) (e13 : M 64 13 = (n : Int)) (hH : ∀ j, j < n → -1 ≤ M 75 j ∧ M 75 j ≤ 1) {b : Int} (hb : 0 ≤ b ∧ b ≤ 1) (hr : ∀ j, j ≤ n → 0 ≤ M 84 j ∧ M 84 j ≤ 1900000) {w i : Int} (h : ∀ g, (∀ j, j ≤ n → g j = rw0 (M 75) b n (M 84) j) → ∀ x4, X 138 [some (xR (some 64)), some (xI w), some (xI i), some (xI b), x4] [] (xup M 85 g, D, nx) 0 0) : X 64 [some (xR (some 64)), some (xI w), some (xI i), some (xI b), some (xI 0)] [] (M, D, nx) 0 0 := by
  have loop : ∀ (m t : Nat) (g : Nat → Int), t + m = n + 1 → (∀ j, j < t → g j = rw0 (M 75) b n (M 84) j) → X 64 [some (xR (some 64)), some (xI w), some (xI i), some (xI b), some (xI (t : Int))] [] (xup M 85 g, D, nx) 0 0 := by
    intro m
    induction m with
    | zero =>
      intro t g ht hg
      have h5 := h g (fun j hj => hg j (by omega)) (some (xI (t : Int)))
      clear h hg
      refine xg hW k_M_ahead [64, 138] 40 ?_
      ((repeat' (first | (with_reducible refine And.intro ?_ ?_) | (intro h0; exact absurd h0 (by decide)) | (intro h0; exact absurd rfl h0) | (intro h0; exfalso; clear hW; omega) | (intro _) | ((conv => whnf); (first | (with_reducible refine And.intro ?_ ?_) | (intro h0; exact absurd h0 (by decide)) | (intro h0; exact absurd rfl h0) | (intro h0; exfalso; clear hW; omega) | (intro _))))); (all_goals (try omega)); (all_goals (try exact xnn (by omega))); (all_goals (try exact Nat.le_of_ble_eq_true rfl)); (all_goals (try ((conv => whnf); (first | (refine hW.2.1 _ _ ?_) | (change X _ _ _ _ _ _) | (change C _ _ _ _ _ _ _))))); (all_goals (try simp only [xup_at, xup_ne, xup_up, ne_eq, Nat.reduceEqDiff, not_false_eq_true, Int.toNat_natCast, x_lcmp] at *)); (all_goals (try omega)))
      all_goals exact h5
    | succ m ih =>
      intro t g ht hg
      have h5 := ih (t + 1) (xup g t (rw0 (M 75) b n (M 84) t)) (by omega) (fun j hj => by
        by_cases q : j = t
        · rw [q, xup_at]
        · rw [xup_ne q]; exact hg j (by omega))
      obtain ⟨r1, r2⟩ := hr t (by omega)
      clear h ih hg
      rcases Nat.lt_or_ge t n with q | q
      · obtain ⟨r3, r4⟩ := hr (t + 1) (by omega)
        obtain ⟨k1, k2⟩ := hH t q
        have o1 := cst_0 (M 75 t) b
        have o2 := cst_2 (M 75 t) b
        have co : ∀ (M' : xM) (Q' : Option xV → xM → Prop), M' 75 = M 75 → Q' (some (xI (cst (M 75 t) b))) M' → xm 1 m_M_off [xR (some 64), xI (t : Int), xI b] M' Q' := fun M' Q' e h => z_off ⟨⟨by omega, by rw [e]; exact ⟨k1, k2⟩, hb⟩, by rw [e]; exact h⟩
        have e : rw0 (M 75) b n (M 84) t = min (M 84 t + 3) (M 84 (t + 1) + cst (M 75 t) b) := by
          unfold rw0
          rw [if_pos q]
        rw [e] at h5
        generalize cst (M 75 t) b = o at *
        have et : ((t : Int) + 1).toNat = t + 1 := by omega
        rw [← et] at r3 r4
        clear e
        refine xg hW k_M_ahead [64, 138] 40 ?_
        ((repeat' (first | (with_reducible refine And.intro ?_ ?_) | (intro h0; exact absurd h0 (by decide)) | (intro h0; exact absurd rfl h0) | (intro h0; exfalso; clear hW; omega) | (intro _) | ((conv => whnf); (first | (with_reducible refine And.intro ?_ ?_) | (intro h0; exact absurd h0 (by decide)) | (intro h0; exact absurd rfl h0) | (intro h0; exfalso; clear hW; omega) | (intro _) | (refine hW.1 _ _ _ _ _ _ (co _ _ rfl ?_) (by first | decide | omega) (by decide) (Nat.le_of_ble_eq_true rfl)) | (refine hW.1 _ _ _ _ _ _ (z_lesser ?_) (by first | decide | omega) (by decide) (Nat.le_of_ble_eq_true rfl)))))); (all_goals (try omega)); (all_goals (try exact xnn (by omega))); (all_goals (try exact Nat.le_of_ble_eq_true rfl)); (all_goals (try ((conv => whnf); (first | (refine hW.2.1 _ _ ?_) | (change X _ _ _ _ _ _) | (change C _ _ _ _ _ _ _))))); (all_goals (try simp only [xup_at, xup_ne, xup_up, ne_eq, Nat.reduceEqDiff, not_false_eq_true, Int.toNat_natCast, x_lcmp] at *)); (all_goals (try omega)))
        rw [et]
        exact h5
      · have e : rw0 (M 75) b n (M 84) t = M 84 t + 3 := by
          unfold rw0
          rw [if_neg (by omega)]
        rw [e] at h5
        refine xg hW k_M_ahead [64, 138] 40 ?_
        ((repeat' (first | (with_reducible refine And.intro ?_ ?_) | (intro h0; exact absurd h0 (by decide)) | (intro h0; exact absurd rfl h0) | (intro h0; exfalso; clear hW; omega) | (intro _) | ((conv => whnf); (first | (with_reducible refine And.intro ?_ ?_) | (intro h0; exact absurd h0 (by decide)) | (intro h0; exact absurd rfl h0) | (intro h0; exfalso; clear hW; omega) | (intro _))))); (all_goals (try omega)); (all_goals (try exact xnn (by omega))); (all_goals (try exact Nat.le_of_ble_eq_true rfl)); (all_goals (try ((conv => whnf); (first | (refine hW.2.1 _ _ ?_) | (change X _ _ _ _ _ _) | (change C _ _ _ _ _ _ _))))); (all_goals (try simp only [xup_at, xup_ne, xup_up, ne_eq, Nat.reduceEqDiff, not_false_eq_true, Int.toNat_natCast, x_lcmp] at *)); (all_goals (try omega)))
        all_goals exact h5
  have h5 := loop (n + 1) 0 (M 85) (by omega) (fun j hj => absurd hj (by omega))
  rw [xup_id] at h5
  exact h5
set_option maxRecDepth 100000 in
set_option maxHeartbeats 1000000 in
theorem z_ahD {M : xM} {Q : Option xV → xM → Prop} {n : Nat} {d : Nat} {D : Nat → Option xE} {nx : Nat} {X : xS} {C : xC} {P : xP} (hd : 1 < d) (hW : xWk d m_M_ahead tb_M Q D nx X C P) (hn60 : n ≤ 60) {H f : Nat → Int} {b : Int} (hr : ∀ j, j ≤ n → 0 ≤ f j ∧ f j ≤ 1900000) {w i : Int} (h : ∀ g, (∀ j, j ≤ n → g j = bwd H b n f j) → ∀ x4, X 185 [some (xR (some 64)), some (xI w), some (xI i), some (xI b), x4] [] (xup M 85 g, D, nx) 0 0) : ∀ (t : Nat) (g : Nat → Int), t ≤ n → (∀ j, t ≤ j → j ≤ n → g j = bwd H b n f j) → (∀ j, j < t → g j = rw0 H b n f j) → X 146 [some (xR (some 64)), some (xI w), some (xI i), some (xI b), some (xI ((t : Int) - 1))] [] (xup M 85 g, D, nx) 0 0 := by
  have hB := bwd_rg (H := H) (b := b) (B := 1900000) hr
  intro t
  induction t with
  | zero =>
    intro g ht hg hg0
    have h5 := h g (fun j hj => hg j (by omega) hj) (some (xI (((0 : Nat) : Int) - 1)))
    clear h hg hg0
    refine xg hW k_M_ahead [146, 185] 40 ?_
    ((repeat' (first | (with_reducible refine And.intro ?_ ?_) | (intro h0; exact absurd h0 (by decide)) | (intro h0; exact absurd rfl h0) | (intro h0; exfalso; clear hW; omega) | (intro _) | ((conv => whnf); (first | (with_reducible refine And.intro ?_ ?_) | (intro h0; exact absurd h0 (by decide)) | (intro h0; exact absurd rfl h0) | (intro h0; exfalso; clear hW; omega) | (intro _))))); (all_goals (try omega)); (all_goals (try exact xnn (by omega))); (all_goals (try exact Nat.le_of_ble_eq_true rfl)); (all_goals (try ((conv => whnf); (first | (refine hW.2.1 _ _ ?_) | (change X _ _ _ _ _ _) | (change C _ _ _ _ _ _ _))))); (all_goals (try simp only [xup_at, xup_ne, xup_up, ne_eq, Nat.reduceEqDiff, not_false_eq_true, Int.toNat_natCast, x_lcmp] at *)); (all_goals (try omega)))
    all_goals exact h5
  | succ t ih =>
    intro g ht hg hg0
    have e1 : g (t + 1) = bwd H b n f (t + 1) := hg (t + 1) (Nat.le_refl _) ht
    have e0 : g t = min (f t + 3) (f (t + 1) + cst (H t) b) := by
      rw [hg0 t (by omega)]
      unfold rw0
      rw [if_pos (by omega)]
    have e2 := bwd_lt (H := H) (b := b) (g := f) (show t < n by omega)
    have r1 := hB (t + 1) ht
    have r2 := hr t (by omega)
    have r3 := hr (t + 1) (by omega)
    have o1 := cst_0 (H t) b
    have o2 := cst_2 (H t) b
    have em : min (g t) (g (t + 1) + 3) = bwd H b n f t := by rw [e2, e1, e0]; omega
    have h5 := ih (xup g t (min (g t) (g (t + 1) + 3))) (by omega) (fun j hj hj2 => by
      by_cases q : j = t
      · rw [q, xup_at, em]
      · rw [xup_ne q]; exact hg j (by omega) hj2) (fun j hj => by rw [xup_ne (by omega)]; exact hg0 j (by omega))
    have rg0 : 0 ≤ g t ∧ g t ≤ 2000000 := by omega
    have rg1 : 0 ≤ g (t + 1) ∧ g (t + 1) ≤ 2000000 := by omega
    clear h ih hg hg0 em e2 e1 e0 hB hr r1 r2 r3 o1 o2
    rw [show ((t + 1 : Nat) : Int) - 1 = (t : Int) by omega]
    have et : ((t : Int) + 1).toNat = t + 1 := by omega
    have rg2 := rg1
    rw [← et] at rg2
    refine xg hW k_M_ahead [146, 185] 40 ?_
    ((repeat' (first | (with_reducible refine And.intro ?_ ?_) | (intro h0; exact absurd h0 (by decide)) | (intro h0; exact absurd rfl h0) | (intro h0; exfalso; clear hW; omega) | (intro _) | ((conv => whnf); (first | (with_reducible refine And.intro ?_ ?_) | (intro h0; exact absurd h0 (by decide)) | (intro h0; exact absurd rfl h0) | (intro h0; exfalso; clear hW; omega) | (intro _) | (refine hW.1 _ _ _ _ _ _ (z_lesser ?_) (by first | decide | omega) (by decide) (Nat.le_of_ble_eq_true rfl)))))); (all_goals (try omega)); (all_goals (try exact xnn (by omega))); (all_goals (try exact Nat.le_of_ble_eq_true rfl)); (all_goals (try ((conv => whnf); (first | (refine hW.2.1 _ _ ?_) | (change X _ _ _ _ _ _) | (change C _ _ _ _ _ _ _))))); (all_goals (try simp only [xup_at, xup_ne, xup_up, ne_eq, Nat.reduceEqDiff, not_false_eq_true, Int.toNat_natCast, x_lcmp] at *)); (all_goals (try omega)))
    rw [et]
    exact h5
set_option maxRecDepth 100000 in
set_option maxHeartbeats 1000000 in
theorem z_ahE {M : xM} {Q : Option xV → xM → Prop} {n : Nat} {d : Nat} {D : Nat → Option xE} {nx : Nat} {X : xS} {C : xC} {P : xP} (hW : xWk d m_M_ahead tb_M Q D nx X C P) (hn60 : n ≤ 60) (e13 : M 64 13 = (n : Int)) {w i b : Int} (h : ∀ f, (∀ j, j ≤ n → f j = M 85 j) → ∀ x4, X 217 [some (xR (some 64)), some (xI w), some (xI i), some (xI b), x4] [] (xup M 84 f, D, nx) 0 0) : X 188 [some (xR (some 64)), some (xI w), some (xI i), some (xI b), some (xI 0)] [] (M, D, nx) 0 0 := by
  have loop : ∀ (m t : Nat) (f : Nat → Int), t + m = n + 1 → (∀ j, j < t → f j = M 85 j) → X 188 [some (xR (some 64)), some (xI w), some (xI i), some (xI b), some (xI (t : Int))] [] (xup M 84 f, D, nx) 0 0 := by
    intro m
    induction m with
    | zero =>
      intro t f ht hf
      have h5 := h f (fun j hj => hf j (by omega)) (some (xI (t : Int)))
      clear h hf
      refine xg hW k_M_ahead [188, 217] 40 ?_
      ((repeat' (first | (with_reducible refine And.intro ?_ ?_) | (intro h0; exact absurd h0 (by decide)) | (intro h0; exact absurd rfl h0) | (intro h0; exfalso; clear hW; omega) | (intro _) | ((conv => whnf); (first | (with_reducible refine And.intro ?_ ?_) | (intro h0; exact absurd h0 (by decide)) | (intro h0; exact absurd rfl h0) | (intro h0; exfalso; clear hW; omega) | (intro _))))); (all_goals (try omega)); (all_goals (try exact xnn (by omega))); (all_goals (try exact Nat.le_of_ble_eq_true rfl)); (all_goals (try ((conv => whnf); (first | (refine hW.2.1 _ _ ?_) | (change X _ _ _ _ _ _) | (change C _ _ _ _ _ _ _))))); (all_goals (try simp only [xup_at, xup_ne, xup_up, ne_eq, Nat.reduceEqDiff, not_false_eq_true, Int.toNat_natCast, x_lcmp] at *)); (all_goals (try omega)))
      all_goals exact h5
    | succ m ih =>
      intro t f ht hf
      have h5 := ih (t + 1) (xup f t (M 85 t)) (by omega) (fun j hj => by
        by_cases q : j = t
        · rw [q, xup_at]
        · rw [xup_ne q]; exact hf j (by omega))
      clear h ih hf
      refine xg hW k_M_ahead [188, 217] 40 ?_
      ((repeat' (first | (with_reducible refine And.intro ?_ ?_) | (intro h0; exact absurd h0 (by decide)) | (intro h0; exact absurd rfl h0) | (intro h0; exfalso; clear hW; omega) | (intro _) | ((conv => whnf); (first | (with_reducible refine And.intro ?_ ?_) | (intro h0; exact absurd h0 (by decide)) | (intro h0; exact absurd rfl h0) | (intro h0; exfalso; clear hW; omega) | (intro _))))); (all_goals (try omega)); (all_goals (try exact xnn (by omega))); (all_goals (try exact Nat.le_of_ble_eq_true rfl)); (all_goals (try ((conv => whnf); (first | (refine hW.2.1 _ _ ?_) | (change X _ _ _ _ _ _) | (change C _ _ _ _ _ _ _))))); (all_goals (try simp only [xup_at, xup_ne, xup_up, ne_eq, Nat.reduceEqDiff, not_false_eq_true, Int.toNat_natCast, x_lcmp] at *)); (all_goals (try omega)))
      all_goals exact h5
  have h5 := loop (n + 1) 0 (M 84) (by omega) (fun j hj => absurd hj (by omega))
  rw [xup_id] at h5
  exact h5
set_option maxRecDepth 100000 in
set_option maxHeartbeats 1000000 in
theorem z_ahead {M : xM} {Q : Option xV → xM → Prop} {w : Nat} (hz : zG M) (hh : relH M) (he : earOk M) (hw : (w : Int) < M 3 2) (hc : M 15 w ≠ -1) (hcl : clB (M 23 1).toNat (M 84)) (hr : ∀ j : Nat, (j : Int) ≤ M 23 1 → 0 ≤ M 84 j ∧ M 84 j ≤ 1000000) (hq : ∀ M', (∀ a, a ≠ 84 → a ≠ 85 → M' a = M a) → (∀ j : Nat, (j : Int) ≤ M 23 1 → M' 84 j = wB M w (M 84) j) → Q none M') : xm 3 m_M_ahead [xR (some 64), xI (w : Int)] M Q := by
  have w10 := hz.1.1.2.1
  obtain ⟨n0, n60, hb⟩ := he
  obtain ⟨n, hn⟩ := Int.eq_ofNat_of_zero_le n0
  have e13 : M 64 13 = (n : Int) := by rw [hh.1]; exact hn
  obtain ⟨-, -, -, -, -, -, -, -, -, -, -, -, -, -, -, -, b1, b2, b3, b4⟩ := ch_at hz hw hc
  obtain ⟨s, es⟩ := Int.eq_ofNat_of_zero_le (show 0 ≤ M 16 w by omega)
  unfold wB at hq
  rw [hn, Int.toNat_natCast] at hq hcl
  rw [es, Int.toNat_natCast] at hq
  rw [hn] at hr
  generalize hβ : btOf (s : Int) (M 17 w) = β at *
  have hH : ∀ j, j < n → -1 ≤ M 75 j ∧ M 75 j ≤ 1 := fun j hj => by rw [hh.2 j (by omega)]; exact hb j
  have hbw : ∀ k j, j ≤ n → 0 ≤ bwN (M 24) β n s (M 84) k j ∧ bwN (M 24) β n s (M 84) k j ≤ 1000000 + 3 * k := bwN_rg (fun j hj => hr j (by omega))
  have bcg : ∀ (b : Int) (f : Nat → Int) (j : Nat), j ≤ n → bwd (M 75) b n f j = bwd (M 24) b n f j := by
    intro b f
    have : ∀ k j, j + k = n → bwd (M 75) b n f j = bwd (M 24) b n f j := by
      intro k
      induction k with
      | zero =>
        intro j hj
        obtain rfl : j = n := by omega
        rw [bwd_n, bwd_n]
      | succ k ih =>
        intro j hj
        rw [bwd_lt (H := M 75) (show j < n by omega), bwd_lt (H := M 24) (show j < n by omega), ih (j + 1) (by omega), hh.2 j (by omega)]
    exact fun j hj => this (n - j) j (by omega)
  (refine xm_of (own := "DrumTongueModel") rfl (by decide +kernel) tk_M [some (xR (some 64)), some (xI (w : Int)), none, none, none] (Nat.le_of_ble_eq_true rfl) rfl ?_; intro D nx X C P hW)
  have cb : ∀ (M' : xM), (∀ a, a ≠ 84 → a ≠ 85 → M' a = M a) → ∀ (k : Nat), k < s → ∀ Q' : Option xV → xM → Prop, Q' (some (xI (β k))) M' → xm 2 m_M_beatOf [xR (some 64), xI (w : Int), xI (k : Int)] M' Q' := fun M' fr k hk Q' h => by
    have hz' : zG M' := zG_fr (fun a ha => fr a (by omega) (by omega)) (by rw [fr 64 (by decide) (by decide)]) (by rw [fr 64 (by decide) (by decide)]) (by rw [fr 64 (by decide) (by decide)]) hz
    refine z_beatOf hz' ⟨⟨by rw [fr 3 (by decide) (by decide)]; exact hw, by rw [fr 15 (by decide) (by decide)]; exact hc, by rw [fr 16 (by decide) (by decide), es]; omega⟩, ?_⟩
    rw [fr 16 (by decide) (by decide), fr 17 (by decide) (by decide), es, hβ]
    exact h
  have hβr : ∀ k, 0 ≤ β k ∧ β k ≤ 1 := fun k => by rw [← hβ]; exact btOf_rg _ _ k
  have outer : ∀ (i k : Nat) (M' : xM), k + i = s → (∀ a, a ≠ 84 → a ≠ 85 → M' a = M a) → (∀ j, j ≤ n → M' 84 j = bwN (M 24) β n s (M 84) k j) → ∀ x3 x4, X 50 [some (xR (some 64)), some (xI (w : Int)), some (xI ((i : Int) - 1)), x3, x4] [] (M', D, nx) 0 0 := by
    intro i
    induction i with
    | zero =>
      intro k M' hk fr hrow x3 x4
      obtain rfl : k = s := by omega
      have h5 := hq M' fr (fun j hj => hrow j (by omega))
      clear hq hbw bcg cb
      refine xg hW k_M_ahead [50] 40 ?_
      ((repeat' (first | (with_reducible refine And.intro ?_ ?_) | (intro h0; exact absurd h0 (by decide)) | (intro h0; exact absurd rfl h0) | (intro h0; exfalso; clear hW; omega) | (intro _) | ((conv => whnf); (first | (with_reducible refine And.intro ?_ ?_) | (intro h0; exact absurd h0 (by decide)) | (intro h0; exact absurd rfl h0) | (intro h0; exfalso; clear hW; omega) | (intro _))))); (all_goals (try omega)); (all_goals (try exact xnn (by omega))); (all_goals (try exact Nat.le_of_ble_eq_true rfl)); (all_goals (try ((conv => whnf); (first | (refine hW.2.1 _ _ ?_) | (change X _ _ _ _ _ _) | (change C _ _ _ _ _ _ _))))); (all_goals (try simp only [xup_at, xup_ne, xup_up, ne_eq, Nat.reduceEqDiff, not_false_eq_true, Int.toNat_natCast, x_lcmp] at *)); (all_goals (try omega)))
      all_goals exact h5
    | succ i ih =>
      intro k M' hk fr hrow x3 x4
      have fin : ∀ f g, (∀ j, j ≤ n → f j = bwN (M 24) β n s (M 84) (k + 1) j) → ∀ x4, X 217 [some (xR (some 64)), some (xI (w : Int)), some (xI (i : Int)), some (xI (β i)), x4] [] (xup (xup M' 85 g) 84 f, D, nx) 0 0 := by
        intro f g hf x4
        have h5 := ih (k + 1) (xup (xup M' 85 g) 84 f) (by omega) (fun a a1 a2 => by rw [xup_ne a1, xup_ne a2]; exact fr a a1 a2) (fun j hj => by rw [xup_at]; exact hf j hj) (some (xI (β i))) x4
        clear hq hbw bcg cb ih
        refine xg hW k_M_ahead [50] 40 ?_
        ((repeat' (first | (with_reducible refine And.intro ?_ ?_) | (intro h0; exact absurd h0 (by decide)) | (intro h0; exact absurd rfl h0) | (intro h0; exfalso; clear hW; omega) | (intro _) | ((conv => whnf); (first | (with_reducible refine And.intro ?_ ?_) | (intro h0; exact absurd h0 (by decide)) | (intro h0; exact absurd rfl h0) | (intro h0; exfalso; clear hW; omega) | (intro _))))); (all_goals (try omega)); (all_goals (try exact xnn (by omega))); (all_goals (try exact Nat.le_of_ble_eq_true rfl)); (all_goals (try ((conv => whnf); (first | (refine hW.2.1 _ _ ?_) | (change X _ _ _ _ _ _) | (change C _ _ _ _ _ _ _))))); (all_goals (try simp only [xup_at, xup_ne, xup_up, ne_eq, Nat.reduceEqDiff, not_false_eq_true, Int.toNat_natCast, x_lcmp] at *)); (all_goals (try omega)))
        all_goals exact h5
      have r84 : ∀ j, j ≤ n → 0 ≤ M' 84 j ∧ M' 84 j ≤ 1900000 := fun j hj => by
        have := hbw k j hj
        rw [hrow j hj]
        omega
      have f13 : M' 64 13 = (n : Int) := by rw [fr 64 (by decide) (by decide)]; exact e13
      have f75 : M' 75 = M 75 := fr 75 (by decide) (by decide)
      have eE : ∀ g, (∀ j, j ≤ n → g j = bwd (M' 75) (β i) n (M' 84) j) → ∀ x4, X 185 [some (xR (some 64)), some (xI (w : Int)), some (xI (i : Int)), some (xI (β i)), x4] [] (xup M' 85 g, D, nx) 0 0 := by
        intro g hg x4
        have h5 := z_ahE (M := xup M' 85 g) (w := (w : Int)) (i := (i : Int)) (b := β i) hW (show n ≤ 60 by omega) (by rw [xup_ne (by decide)]; exact f13) (fun f hf x4 => fin f g (fun j hj => by
          rw [hf j hj, xup_at, hg j hj, f75, bcg _ _ j hj, bwN, show s - 1 - k = i by omega]
          exact bwd_congr hrow j hj) x4)
        clear hq hbw bcg cb ih fin
        refine xg hW k_M_ahead [188] 40 ?_
        ((repeat' (first | (with_reducible refine And.intro ?_ ?_) | (intro h0; exact absurd h0 (by decide)) | (intro h0; exact absurd rfl h0) | (intro h0; exfalso; clear hW; omega) | (intro _) | ((conv => whnf); (first | (with_reducible refine And.intro ?_ ?_) | (intro h0; exact absurd h0 (by decide)) | (intro h0; exact absurd rfl h0) | (intro h0; exfalso; clear hW; omega) | (intro _))))); (all_goals (try omega)); (all_goals (try exact xnn (by omega))); (all_goals (try exact Nat.le_of_ble_eq_true rfl)); (all_goals (try ((conv => whnf); (first | (refine hW.2.1 _ _ ?_) | (change X _ _ _ _ _ _) | (change C _ _ _ _ _ _ _))))); (all_goals (try simp only [xup_at, xup_ne, xup_up, ne_eq, Nat.reduceEqDiff, not_false_eq_true, Int.toNat_natCast, x_lcmp] at *)); (all_goals (try omega)))
        all_goals exact h5
      have eD : ∀ g, (∀ j, j ≤ n → g j = rw0 (M' 75) (β i) n (M' 84) j) → ∀ x4, X 138 [some (xR (some 64)), some (xI (w : Int)), some (xI (i : Int)), some (xI (β i)), x4] [] (xup M' 85 g, D, nx) 0 0 := by
        intro g hg x4
        have h5 := z_ahD (M := M') (w := (w : Int)) (i := (i : Int)) (b := β i) (H := M' 75) (f := M' 84) (by decide) hW (show n ≤ 60 by omega) r84 eE n g (Nat.le_refl _) (fun j h1 h2 => by
          obtain rfl : j = n := by omega
          rw [bwd_n, hg j (Nat.le_refl _)]
          unfold rw0
          rw [if_neg (by omega)]) (fun j hj => hg j (by omega))
        clear hq hbw bcg cb ih fin eE
        refine xg hW k_M_ahead [146] 40 ?_
        ((repeat' (first | (with_reducible refine And.intro ?_ ?_) | (intro h0; exact absurd h0 (by decide)) | (intro h0; exact absurd rfl h0) | (intro h0; exfalso; clear hW; omega) | (intro _) | ((conv => whnf); (first | (with_reducible refine And.intro ?_ ?_) | (intro h0; exact absurd h0 (by decide)) | (intro h0; exact absurd rfl h0) | (intro h0; exfalso; clear hW; omega) | (intro _))))); (all_goals (try omega)); (all_goals (try exact xnn (by omega))); (all_goals (try exact Nat.le_of_ble_eq_true rfl)); (all_goals (try ((conv => whnf); (first | (refine hW.2.1 _ _ ?_) | (change X _ _ _ _ _ _) | (change C _ _ _ _ _ _ _))))); (all_goals (try simp only [xup_at, xup_ne, xup_up, ne_eq, Nat.reduceEqDiff, not_false_eq_true, Int.toNat_natCast, x_lcmp] at *)); (all_goals (try omega)))
        rw [f13]
        exact h5
      have h5 := z_ahC (M := M') (w := (w : Int)) (i := (i : Int)) (b := β i) (by decide) hW (show n ≤ 60 by omega) f13 (by rw [f75]; exact hH) (hβr i) r84 eD
      have cb' := cb M' fr i (by omega)
      clear hq hbw bcg cb ih fin eE eD
      rw [show ((i + 1 : Nat) : Int) - 1 = (i : Int) by omega]
      refine xg hW k_M_ahead [50, 64] 40 ?_
      ((repeat' (first | (with_reducible refine And.intro ?_ ?_) | (intro h0; exact absurd h0 (by decide)) | (intro h0; exact absurd rfl h0) | (intro h0; exfalso; clear hW; omega) | (intro _) | ((conv => whnf); (first | (with_reducible refine And.intro ?_ ?_) | (intro h0; exact absurd h0 (by decide)) | (intro h0; exact absurd rfl h0) | (intro h0; exfalso; clear hW; omega) | (intro _) | (refine hW.1 _ _ _ _ _ _ (cb' _ ?_) (by first | decide | omega) (by decide) (Nat.le_of_ble_eq_true rfl)))))); (all_goals (try omega)); (all_goals (try exact xnn (by omega))); (all_goals (try exact Nat.le_of_ble_eq_true rfl)); (all_goals (try ((conv => whnf); (first | (refine hW.2.1 _ _ ?_) | (change X _ _ _ _ _ _) | (change C _ _ _ _ _ _ _))))); (all_goals (try simp only [xup_at, xup_ne, xup_up, ne_eq, Nat.reduceEqDiff, not_false_eq_true, Int.toNat_natCast, x_lcmp] at *)); (all_goals (try omega)))
      all_goals exact h5
  have cl : ∀ Q' : Option xV → xM → Prop, Q' (some (xI (s : Int))) M → xm 1 m_M_lengthOf [xR (some 64), xI (w : Int)] M Q' := fun Q' h => z_lengthOfY hz ⟨⟨hw, hc⟩, by rw [es]; exact h⟩
  have o5 := fun x3 x4 => outer s 0 M (by omega) (fun _ _ _ => rfl) (fun _ _ => rfl) x3 x4
  have cloop : ∀ (t : Nat), t ≤ n → X 7 [some (xR (some 64)), some (xI (w : Int)), some (xI ((t : Int) - 1)), none, none] [] (M, D, nx) 0 0 := by
    intro t
    induction t with
    | zero =>
      intro ht
      have h5 := o5 none none
      clear hq hbw bcg cb outer o5
      refine xg hW k_M_ahead [7, 50] 40 ?_
      ((repeat' (first | (with_reducible refine And.intro ?_ ?_) | (intro h0; exact absurd h0 (by decide)) | (intro h0; exact absurd rfl h0) | (intro h0; exfalso; clear hW; omega) | (intro _) | ((conv => whnf); (first | (with_reducible refine And.intro ?_ ?_) | (intro h0; exact absurd h0 (by decide)) | (intro h0; exact absurd rfl h0) | (intro h0; exfalso; clear hW; omega) | (intro _) | (refine hW.1 _ _ _ _ _ _ (cl _ ?_) (by first | decide | omega) (by decide) (Nat.le_of_ble_eq_true rfl)))))); (all_goals (try omega)); (all_goals (try exact xnn (by omega))); (all_goals (try exact Nat.le_of_ble_eq_true rfl)); (all_goals (try ((conv => whnf); (first | (refine hW.2.1 _ _ ?_) | (change X _ _ _ _ _ _) | (change C _ _ _ _ _ _ _))))); (all_goals (try simp only [xup_at, xup_ne, xup_up, ne_eq, Nat.reduceEqDiff, not_false_eq_true, Int.toNat_natCast, x_lcmp] at *)); (all_goals (try omega)))
      all_goals exact h5
    | succ t ih =>
      intro ht
      have h5 := ih (by omega)
      have r1 := hr t (by omega)
      have r2 := hr (t + 1) (by omega)
      have c1 := hcl t (by omega)
      have em : min (M 84 t) (M 84 (t + 1) + 3) = M 84 t := by omega
      clear hq hbw bcg cb outer o5 ih cl
      rw [show ((t + 1 : Nat) : Int) - 1 = (t : Int) by omega]
      have et : ((t : Int) + 1).toNat = t + 1 := by omega
      rw [← et] at r2
      refine xg hW k_M_ahead [7, 50] 40 ?_
      ((repeat' (first | (with_reducible refine And.intro ?_ ?_) | (intro h0; exact absurd h0 (by decide)) | (intro h0; exact absurd rfl h0) | (intro h0; exfalso; clear hW; omega) | (intro _) | ((conv => whnf); (first | (with_reducible refine And.intro ?_ ?_) | (intro h0; exact absurd h0 (by decide)) | (intro h0; exact absurd rfl h0) | (intro h0; exfalso; clear hW; omega) | (intro _) | (refine hW.1 _ _ _ _ _ _ (z_lesser ?_) (by first | decide | omega) (by decide) (Nat.le_of_ble_eq_true rfl)))))); (all_goals (try omega)); (all_goals (try exact xnn (by omega))); (all_goals (try exact Nat.le_of_ble_eq_true rfl)); (all_goals (try ((conv => whnf); (first | (refine hW.2.1 _ _ ?_) | (change X _ _ _ _ _ _) | (change C _ _ _ _ _ _ _))))); (all_goals (try simp only [xup_at, xup_ne, xup_up, ne_eq, Nat.reduceEqDiff, not_false_eq_true, Int.toNat_natCast, x_lcmp] at *)); (all_goals (try omega)))
      rw [et, em, xup_id, xup_id]
      exact h5
  have h5 := cloop n (Nat.le_refl _)
  clear hq hbw bcg cb outer o5 cl cloop
  refine xg hW k_M_ahead [7] 40 ?_
  ((repeat' (first | (with_reducible refine And.intro ?_ ?_) | (intro h0; exact absurd h0 (by decide)) | (intro h0; exact absurd rfl h0) | (intro h0; exfalso; clear hW; omega) | (intro _) | ((conv => whnf); (first | (with_reducible refine And.intro ?_ ?_) | (intro h0; exact absurd h0 (by decide)) | (intro h0; exact absurd rfl h0) | (intro h0; exfalso; clear hW; omega) | (intro _))))); (all_goals (try omega)); (all_goals (try exact xnn (by omega))); (all_goals (try exact Nat.le_of_ble_eq_true rfl)); (all_goals (try ((conv => whnf); (first | (refine hW.2.1 _ _ ?_) | (change X _ _ _ _ _ _) | (change C _ _ _ _ _ _ _))))); (all_goals (try simp only [xup_at, xup_ne, xup_up, ne_eq, Nat.reduceEqDiff, not_false_eq_true, Int.toNat_natCast, x_lcmp] at *)); (all_goals (try omega)))
  rw [e13]
  exact h5
