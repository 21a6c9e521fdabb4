/-! the reference: rows of costs from the front -/
/-- the new row, before the gaps between are counted -/
def rwF (H : Nat → Int) (b : Int) (f : Nat → Int) : Nat → Int
  | 0 => f 0 + 3
  | j + 1 => min (f (j + 1) + 3) (f j + cst (H j) b)
set_option maxRecDepth 100000 in
set_option maxHeartbeats 1000000 in
theorem z_beC {M : xM} {Q : Option xV → xM → Prop} {n : Nat} {d : Nat} {D : Nat → Option xE} {nx : Nat} {X : xS} {C : xC} {P : xP} (hd : 1 < d) (hW : xWk d m_M_behind tb_M Q D nx X C P) (hn60 : n ≤ 60) (e13 : M 64 13 = (n : Int)) (hH : ∀ j, j < n → -1 ≤ M 75 j ∧ M 75 j ≤ 1) {b : Int} (hb : 0 ≤ b ∧ b ≤ 1) (hr : ∀ j, j ≤ n → 0 ≤ M 84 j ∧ M 84 j ≤ 1900000) {w s i : Int} (h : ∀ g, (∀ j, j ≤ n → g j = rwF (M 75) b (M 84) j) → ∀ x5, X 138 [some (xR (some 64)), some (xI w), some (xI s), some (xI i), some (xI b), x5] [] (xup M 85 g, D, nx) 0 0) : X 65 [some (xR (some 64)), some (xI w), some (xI s), some (xI i), some (xI b), some (xI 0)] [] (M, D, nx) 0 0 := by
  have loop : ∀ (m t : Nat) (g : Nat → Int), t + m = n + 1 → (∀ j, j < t → g j = rwF (M 75) b (M 84) j) → X 65 [some (xR (some 64)), some (xI w), some (xI s), some (xI i), some (xI b), some (xI (t : Int))] [] (xup M 85 g, D, nx) 0 0 := by
    intro m
    induction m with
    | zero =>
      intro t g ht hg
      have h5 := h g (fun j hj => hg j (by omega)) (some (xI (t : Int)))
      clear h hg
      refine xg hW k_M_behind [65, 138] 40 ?_
      ((repeat' (first | (with_reducible refine And.intro ?_ ?_) | (intro h0; exact absurd h0 (by decide)) | (intro h0; exact absurd rfl h0) | (intro h0; exfalso; clear hW; omega) | (intro _) | ((conv => whnf); (first | (with_reducible refine And.intro ?_ ?_) | (intro h0; exact absurd h0 (by decide)) | (intro h0; exact absurd rfl h0) | (intro h0; exfalso; clear hW; omega) | (intro _))))); (all_goals (try omega)); (all_goals (try exact xnn (by omega))); (all_goals (try exact Nat.le_of_ble_eq_true rfl)); (all_goals (try ((conv => whnf); (first | (refine hW.2.1 _ _ ?_) | (change X _ _ _ _ _ _) | (change C _ _ _ _ _ _ _))))); (all_goals (try simp only [xup_at, xup_ne, xup_up, ne_eq, Nat.reduceEqDiff, not_false_eq_true, Int.toNat_natCast, x_lcmp] at *)); (all_goals (try omega)))
      all_goals exact h5
    | succ m ih =>
      intro t g ht hg
      have h5 := ih (t + 1) (xup g t (rwF (M 75) b (M 84) t)) (by omega) (fun j hj => by
        by_cases q : j = t
        · rw [q, xup_at]
        · rw [xup_ne q]; exact hg j (by omega))
      obtain ⟨r1, r2⟩ := hr t (by omega)
      clear h ih hg
      rcases t with _ | t
      · rw [rwF] at h5
        refine xg hW k_M_behind [65, 138] 40 ?_
        ((repeat' (first | (with_reducible refine And.intro ?_ ?_) | (intro h0; exact absurd h0 (by decide)) | (intro h0; exact absurd rfl h0) | (intro h0; exfalso; clear hW; omega) | (intro _) | ((conv => whnf); (first | (with_reducible refine And.intro ?_ ?_) | (intro h0; exact absurd h0 (by decide)) | (intro h0; exact absurd rfl h0) | (intro h0; exfalso; clear hW; omega) | (intro _))))); (all_goals (try omega)); (all_goals (try exact xnn (by omega))); (all_goals (try exact Nat.le_of_ble_eq_true rfl)); (all_goals (try ((conv => whnf); (first | (refine hW.2.1 _ _ ?_) | (change X _ _ _ _ _ _) | (change C _ _ _ _ _ _ _))))); (all_goals (try simp only [xup_at, xup_ne, xup_up, ne_eq, Nat.reduceEqDiff, not_false_eq_true, Int.toNat_natCast, x_lcmp] at *)); (all_goals (try omega)))
        all_goals exact h5
      · obtain ⟨r3, r4⟩ := hr t (by omega)
        obtain ⟨k1, k2⟩ := hH t (by omega)
        have o1 := cst_0 (M 75 t) b
        have o2 := cst_2 (M 75 t) b
        have co : ∀ (M' : xM) (Q' : Option xV → xM → Prop), M' 75 = M 75 → Q' (some (xI (cst (M 75 t) b))) M' → xm 1 m_M_off [xR (some 64), xI (((t + 1 : Nat) : Int) - 1), xI b] M' Q' := fun M' Q' e h => by
          rw [show ((t + 1 : Nat) : Int) - 1 = (t : Int) by omega]
          exact z_off ⟨⟨by omega, by rw [e]; exact ⟨k1, k2⟩, hb⟩, by rw [e]; exact h⟩
        rw [rwF] at h5
        generalize cst (M 75 t) b = o at *
        have et : (((t + 1 : Nat) : Int) - 1).toNat = t := by omega
        rw [← et] at r3 r4
        refine xg hW k_M_behind [65, 138] 40 ?_
        ((repeat' (first | (with_reducible refine And.intro ?_ ?_) | (intro h0; exact absurd h0 (by decide)) | (intro h0; exact absurd rfl h0) | (intro h0; exfalso; clear hW; omega) | (intro _) | ((conv => whnf); (first | (with_reducible refine And.intro ?_ ?_) | (intro h0; exact absurd h0 (by decide)) | (intro h0; exact absurd rfl h0) | (intro h0; exfalso; clear hW; omega) | (intro _) | (refine hW.1 _ _ _ _ _ _ (co _ _ rfl ?_) (by first | decide | omega) (by decide) (Nat.le_of_ble_eq_true rfl)) | (refine hW.1 _ _ _ _ _ _ (z_lesser ?_) (by first | decide | omega) (by decide) (Nat.le_of_ble_eq_true rfl)))))); (all_goals (try omega)); (all_goals (try exact xnn (by omega))); (all_goals (try exact Nat.le_of_ble_eq_true rfl)); (all_goals (try ((conv => whnf); (first | (refine hW.2.1 _ _ ?_) | (change X _ _ _ _ _ _) | (change C _ _ _ _ _ _ _))))); (all_goals (try simp only [xup_at, xup_ne, xup_up, ne_eq, Nat.reduceEqDiff, not_false_eq_true, Int.toNat_natCast, x_lcmp] at *)); (all_goals (try omega)))
        rw [et]
        exact h5
  have h5 := loop (n + 1) 0 (M 85) (by omega) (fun j hj => absurd hj (by omega))
  rw [xup_id] at h5
  exact h5
set_option maxRecDepth 100000 in
set_option maxHeartbeats 1000000 in
theorem z_beD {M : xM} {Q : Option xV → xM → Prop} {n : Nat} {d : Nat} {D : Nat → Option xE} {nx : Nat} {X : xS} {C : xC} {P : xP} (hd : 1 < d) (hW : xWk d m_M_behind tb_M Q D nx X C P) (hn60 : n ≤ 60) (e13 : M 64 13 = (n : Int)) {H f : Nat → Int} {b : Int} (hr : ∀ j, j ≤ n → 0 ≤ f j ∧ f j ≤ 1900000) {w s i : Int} (h : ∀ g, (∀ j, j ≤ n → g j = fwd H b f j) → ∀ x5, X 184 [some (xR (some 64)), some (xI w), some (xI s), some (xI i), some (xI b), x5] [] (xup M 85 g, D, nx) 0 0) : ∀ (m t : Nat) (g : Nat → Int), t + m = n + 1 → 1 ≤ t → (∀ j, j < t → g j = fwd H b f j) → (∀ j, t ≤ j → j ≤ n → g j = rwF H b f j) → X 141 [some (xR (some 64)), some (xI w), some (xI s), some (xI i), some (xI b), some (xI (t : Int))] [] (xup M 85 g, D, nx) 0 0 := by
  have hB := fwd_rg (H := H) (b := b) (B := 1900000) hr
  intro m
  induction m with
  | zero =>
    intro t g ht h1 hg hg0
    have h5 := h g (fun j hj => hg j (by omega)) (some (xI (t : Int)))
    clear h hg hg0
    refine xg hW k_M_behind [141, 184] 40 ?_
    ((repeat' (first | (with_reducible refine And.intro ?_ ?_) | (intro h0; exact absurd h0 (by decide)) | (intro h0; exact absurd rfl h0) | (intro h0; exfalso; clear hW; omega) | (intro _) | ((conv => whnf); (first | (with_reducible refine And.intro ?_ ?_) | (intro h0; exact absurd h0 (by decide)) | (intro h0; exact absurd rfl h0) | (intro h0; exfalso; clear hW; omega) | (intro _))))); (all_goals (try omega)); (all_goals (try exact xnn (by omega))); (all_goals (try exact Nat.le_of_ble_eq_true rfl)); (all_goals (try ((conv => whnf); (first | (refine hW.2.1 _ _ ?_) | (change X _ _ _ _ _ _) | (change C _ _ _ _ _ _ _))))); (all_goals (try simp only [xup_at, xup_ne, xup_up, ne_eq, Nat.reduceEqDiff, not_false_eq_true, Int.toNat_natCast, x_lcmp] at *)); (all_goals (try omega)))
    all_goals exact h5
  | succ m ih =>
    intro t g ht h1 hg hg0
    obtain ⟨t, rfl⟩ : ∃ u, t = u + 1 := ⟨t - 1, by omega⟩
    have e1 : g t = fwd H b f t := hg t (by omega)
    have e0 : g (t + 1) = min (f (t + 1) + 3) (f t + cst (H t) b) := hg0 (t + 1) (Nat.le_refl _) (by omega)
    have e2 : fwd H b f (t + 1) = min (f t + cst (H t) b) (min (f (t + 1) + 3) (fwd H b f t + 3)) := by rw [fwd]
    have r1 := hB t (by omega)
    have r2 := hr t (by omega)
    have r3 := hr (t + 1) (by omega)
    have o1 := cst_0 (H t) b
    have o2 := cst_2 (H t) b
    have em : min (g (t + 1)) (g t + 3) = fwd H b f (t + 1) := by rw [e2, e1, e0]; omega
    have h5 := ih (t + 1 + 1) (xup g (t + 1) (min (g (t + 1)) (g t + 3))) (by omega) (by omega) (fun j hj => by
      by_cases q : j = t + 1
      · rw [q, xup_at, em]
      · rw [xup_ne q]; exact hg j (by omega)) (fun j hj hj2 => by rw [xup_ne (by omega)]; exact hg0 j (by omega) hj2)
    have rg0 : 0 ≤ g t ∧ g t ≤ 2000000 := by omega
    have rg1 : 0 ≤ g (t + 1) ∧ g (t + 1) ≤ 2000000 := by omega
    clear h ih hg hg0 em e2 e1 e0 hB hr r1 r2 r3 o1 o2
    have et : (((t + 1 : Nat) : Int) - 1).toNat = t := by omega
    rw [← et] at rg0
    refine xg hW k_M_behind [141, 184] 40 ?_
    ((repeat' (first | (with_reducible refine And.intro ?_ ?_) | (intro h0; exact absurd h0 (by decide)) | (intro h0; exact absurd rfl h0) | (intro h0; exfalso; clear hW; omega) | (intro _) | ((conv => whnf); (first | (with_reducible refine And.intro ?_ ?_) | (intro h0; exact absurd h0 (by decide)) | (intro h0; exact absurd rfl h0) | (intro h0; exfalso; clear hW; omega) | (intro _) | (refine hW.1 _ _ _ _ _ _ (z_lesser ?_) (by first | decide | omega) (by decide) (Nat.le_of_ble_eq_true rfl)))))); (all_goals (try omega)); (all_goals (try exact xnn (by omega))); (all_goals (try exact Nat.le_of_ble_eq_true rfl)); (all_goals (try ((conv => whnf); (first | (refine hW.2.1 _ _ ?_) | (change X _ _ _ _ _ _) | (change C _ _ _ _ _ _ _))))); (all_goals (try simp only [xup_at, xup_ne, xup_up, ne_eq, Nat.reduceEqDiff, not_false_eq_true, Int.toNat_natCast, x_lcmp] at *)); (all_goals (try omega)))
    rw [et]
    exact h5
set_option maxRecDepth 100000 in
set_option maxHeartbeats 1000000 in
theorem z_beE {M : xM} {Q : Option xV → xM → Prop} {n : Nat} {d : Nat} {D : Nat → Option xE} {nx : Nat} {X : xS} {C : xC} {P : xP} (hW : xWk d m_M_behind tb_M Q D nx X C P) (hn60 : n ≤ 60) (e13 : M 64 13 = (n : Int)) {w s i b : Int} (h : ∀ f, (∀ j, j ≤ n → f j = M 85 j) → ∀ x5, X 216 [some (xR (some 64)), some (xI w), some (xI s), some (xI i), some (xI b), x5] [] (xup M 84 f, D, nx) 0 0) : X 187 [some (xR (some 64)), some (xI w), some (xI s), some (xI i), some (xI b), some (xI 0)] [] (M, D, nx) 0 0 := by
  have loop : ∀ (m t : Nat) (f : Nat → Int), t + m = n + 1 → (∀ j, j < t → f j = M 85 j) → X 187 [some (xR (some 64)), some (xI w), some (xI s), some (xI i), some (xI b), some (xI (t : Int))] [] (xup M 84 f, D, nx) 0 0 := by
    intro m
    induction m with
    | zero =>
      intro t f ht hf
      have h5 := h f (fun j hj => hf j (by omega)) (some (xI (t : Int)))
      clear h hf
      refine xg hW k_M_behind [187, 216] 40 ?_
      ((repeat' (first | (with_reducible refine And.intro ?_ ?_) | (intro h0; exact absurd h0 (by decide)) | (intro h0; exact absurd rfl h0) | (intro h0; exfalso; clear hW; omega) | (intro _) | ((conv => whnf); (first | (with_reducible refine And.intro ?_ ?_) | (intro h0; exact absurd h0 (by decide)) | (intro h0; exact absurd rfl h0) | (intro h0; exfalso; clear hW; omega) | (intro _))))); (all_goals (try omega)); (all_goals (try exact xnn (by omega))); (all_goals (try exact Nat.le_of_ble_eq_true rfl)); (all_goals (try ((conv => whnf); (first | (refine hW.2.1 _ _ ?_) | (change X _ _ _ _ _ _) | (change C _ _ _ _ _ _ _))))); (all_goals (try simp only [xup_at, xup_ne, xup_up, ne_eq, Nat.reduceEqDiff, not_false_eq_true, Int.toNat_natCast, x_lcmp] at *)); (all_goals (try omega)))
      all_goals exact h5
    | succ m ih =>
      intro t f ht hf
      have h5 := ih (t + 1) (xup f t (M 85 t)) (by omega) (fun j hj => by
        by_cases q : j = t
        · rw [q, xup_at]
        · rw [xup_ne q]; exact hf j (by omega))
      clear h ih hf
      refine xg hW k_M_behind [187, 216] 40 ?_
      ((repeat' (first | (with_reducible refine And.intro ?_ ?_) | (intro h0; exact absurd h0 (by decide)) | (intro h0; exact absurd rfl h0) | (intro h0; exfalso; clear hW; omega) | (intro _) | ((conv => whnf); (first | (with_reducible refine And.intro ?_ ?_) | (intro h0; exact absurd h0 (by decide)) | (intro h0; exact absurd rfl h0) | (intro h0; exfalso; clear hW; omega) | (intro _))))); (all_goals (try omega)); (all_goals (try exact xnn (by omega))); (all_goals (try exact Nat.le_of_ble_eq_true rfl)); (all_goals (try ((conv => whnf); (first | (refine hW.2.1 _ _ ?_) | (change X _ _ _ _ _ _) | (change C _ _ _ _ _ _ _))))); (all_goals (try simp only [xup_at, xup_ne, xup_up, ne_eq, Nat.reduceEqDiff, not_false_eq_true, Int.toNat_natCast, x_lcmp] at *)); (all_goals (try omega)))
      all_goals exact h5
  have h5 := loop (n + 1) 0 (M 84) (by omega) (fun j hj => absurd hj (by omega))
  rw [xup_id] at h5
  exact h5
set_option maxRecDepth 100000 in
set_option maxHeartbeats 1000000 in
theorem z_behind {M : xM} {Q : Option xV → xM → Prop} {w : Nat} (hz : zG M) (hh : relH M) (he : earOk M) (hw : (w : Int) < M 3 2) (hc : M 15 w ≠ -1) (hcl : clF (M 23 1).toNat (M 84)) (hr : ∀ j : Nat, (j : Int) ≤ M 23 1 → 0 ≤ M 84 j ∧ M 84 j ≤ 1000000) (hq : ∀ M', (∀ a, a ≠ 84 → a ≠ 85 → M' a = M a) → (∀ j : Nat, (j : Int) ≤ M 23 1 → M' 84 j = wF M w (M 84) j) → Q none M') : xm 3 m_M_behind [xR (some 64), xI (w : Int)] M Q := by
  have w10 := hz.1.1.2.1
  obtain ⟨n0, n60, hb⟩ := he
  obtain ⟨n, hn⟩ := Int.eq_ofNat_of_zero_le n0
  have e13 : M 64 13 = (n : Int) := by rw [hh.1]; exact hn
  obtain ⟨-, -, -, -, -, -, -, -, -, -, -, -, -, -, -, -, b1, b2, b3, b4⟩ := ch_at hz hw hc
  obtain ⟨s, es⟩ := Int.eq_ofNat_of_zero_le (show 0 ≤ M 16 w by omega)
  unfold wF at hq
  rw [hn, Int.toNat_natCast] at hcl
  rw [hn] at hq
  rw [es, Int.toNat_natCast] at hq
  rw [hn] at hr
  generalize hβ : btOf (s : Int) (M 17 w) = β at *
  have hH : ∀ j, j < n → -1 ≤ M 75 j ∧ M 75 j ≤ 1 := fun j hj => by rw [hh.2 j (by omega)]; exact hb j
  have hbw : ∀ k j, j ≤ n → 0 ≤ fwN (M 24) β (M 84) k j ∧ fwN (M 24) β (M 84) k j ≤ 1000000 + 3 * k := fwN_rg (fun j hj => hr j (by omega))
  have bcg : ∀ (b : Int) (f : Nat → Int) (j : Nat), j ≤ n → fwd (M 75) b f j = fwd (M 24) b f j := by
    intro b f j
    induction j with
    | zero => intro _; rw [fwd, fwd]
    | succ j ih =>
      intro hj
      rw [fwd, fwd, ih (by omega), hh.2 j (by omega)]
  (refine xm_of (own := "DrumTongueModel") rfl (by decide +kernel) tk_M [some (xR (some 64)), some (xI (w : Int)), none, none, none, none] (Nat.le_of_ble_eq_true rfl) rfl ?_; intro D nx X C P hW)
  have cb : ∀ (M' : xM), (∀ a, a ≠ 84 → a ≠ 85 → M' a = M a) → ∀ (k : Nat), k < s → ∀ Q' : Option xV → xM → Prop, Q' (some (xI (β k))) M' → xm 2 m_M_beatOf [xR (some 64), xI (w : Int), xI (k : Int)] M' Q' := fun M' fr k hk Q' h => by
    have hz' : zG M' := zG_fr (fun a ha => fr a (by omega) (by omega)) (by rw [fr 64 (by decide) (by decide)]) (by rw [fr 64 (by decide) (by decide)]) (by rw [fr 64 (by decide) (by decide)]) hz
    refine z_beatOf hz' ⟨⟨by rw [fr 3 (by decide) (by decide)]; exact hw, by rw [fr 15 (by decide) (by decide)]; exact hc, by rw [fr 16 (by decide) (by decide), es]; omega⟩, ?_⟩
    rw [fr 16 (by decide) (by decide), fr 17 (by decide) (by decide), es, hβ]
    exact h
  have hβr : ∀ k, 0 ≤ β k ∧ β k ≤ 1 := fun k => by rw [← hβ]; exact btOf_rg _ _ k
  have outer : ∀ (i k : Nat) (M' : xM), k + i = s → (∀ a, a ≠ 84 → a ≠ 85 → M' a = M a) → (∀ j, j ≤ n → M' 84 j = fwN (M 24) β (M 84) k j) → ∀ x4 x5, X 49 [some (xR (some 64)), some (xI (w : Int)), some (xI (s : Int)), some (xI (k : Int)), x4, x5] [] (M', D, nx) 0 0 := by
    intro i
    induction i with
    | zero =>
      intro k M' hk fr hrow x4 x5
      obtain rfl : k = s := by omega
      have h5 := hq M' fr (fun j hj => hrow j (by omega))
      clear hq hbw bcg cb
      refine xg hW k_M_behind [49] 40 ?_
      ((repeat' (first | (with_reducible refine And.intro ?_ ?_) | (intro h0; exact absurd h0 (by decide)) | (intro h0; exact absurd rfl h0) | (intro h0; exfalso; clear hW; omega) | (intro _) | ((conv => whnf); (first | (with_reducible refine And.intro ?_ ?_) | (intro h0; exact absurd h0 (by decide)) | (intro h0; exact absurd rfl h0) | (intro h0; exfalso; clear hW; omega) | (intro _))))); (all_goals (try omega)); (all_goals (try exact xnn (by omega))); (all_goals (try exact Nat.le_of_ble_eq_true rfl)); (all_goals (try ((conv => whnf); (first | (refine hW.2.1 _ _ ?_) | (change X _ _ _ _ _ _) | (change C _ _ _ _ _ _ _))))); (all_goals (try simp only [xup_at, xup_ne, xup_up, ne_eq, Nat.reduceEqDiff, not_false_eq_true, Int.toNat_natCast, x_lcmp] at *)); (all_goals (try omega)))
      all_goals exact h5
    | succ i ih =>
      intro k M' hk fr hrow x4 x5
      have fin : ∀ f g, (∀ j, j ≤ n → f j = fwN (M 24) β (M 84) (k + 1) j) → ∀ x5, X 216 [some (xR (some 64)), some (xI (w : Int)), some (xI (s : Int)), some (xI (k : Int)), some (xI (β k)), x5] [] (xup (xup M' 85 g) 84 f, D, nx) 0 0 := by
        intro f g hf x5
        have h5 := ih (k + 1) (xup (xup M' 85 g) 84 f) (by omega) (fun a a1 a2 => by rw [xup_ne a1, xup_ne a2]; exact fr a a1 a2) (fun j hj => by rw [xup_at]; exact hf j hj) (some (xI (β k))) x5
        clear hq hbw bcg cb ih
        refine xg hW k_M_behind [49] 40 ?_
        ((repeat' (first | (with_reducible refine And.intro ?_ ?_) | (intro h0; exact absurd h0 (by decide)) | (intro h0; exact absurd rfl h0) | (intro h0; exfalso; clear hW; omega) | (intro _) | ((conv => whnf); (first | (with_reducible refine And.intro ?_ ?_) | (intro h0; exact absurd h0 (by decide)) | (intro h0; exact absurd rfl h0) | (intro h0; exfalso; clear hW; omega) | (intro _))))); (all_goals (try omega)); (all_goals (try exact xnn (by omega))); (all_goals (try exact Nat.le_of_ble_eq_true rfl)); (all_goals (try ((conv => whnf); (first | (refine hW.2.1 _ _ ?_) | (change X _ _ _ _ _ _) | (change C _ _ _ _ _ _ _))))); (all_goals (try simp only [xup_at, xup_ne, xup_up, ne_eq, Nat.reduceEqDiff, not_false_eq_true, Int.toNat_natCast, x_lcmp] at *)); (all_goals (try omega)))
        all_goals exact h5
      have r84 : ∀ j, j ≤ n → 0 ≤ M' 84 j ∧ M' 84 j ≤ 1900000 := fun j hj => by
        have := hbw k j hj
        rw [hrow j hj]
        omega
      have f13 : M' 64 13 = (n : Int) := by rw [fr 64 (by decide) (by decide)]; exact e13
      have f75 : M' 75 = M 75 := fr 75 (by decide) (by decide)
      have eE : ∀ g, (∀ j, j ≤ n → g j = fwd (M' 75) (β k) (M' 84) j) → ∀ x5, X 184 [some (xR (some 64)), some (xI (w : Int)), some (xI (s : Int)), some (xI (k : Int)), some (xI (β k)), x5] [] (xup M' 85 g, D, nx) 0 0 := by
        intro g hg x5
        have h5 := z_beE (M := xup M' 85 g) (w := (w : Int)) (s := (s : Int)) (i := (k : Int)) (b := β k) hW (show n ≤ 60 by omega) (by rw [xup_ne (by decide)]; exact f13) (fun f hf x5 => fin f g (fun j hj => by
          rw [hf j hj, xup_at, hg j hj, f75, bcg _ _ j hj, fwN]
          exact fwd_congr hrow j hj) x5)
        clear hq hbw bcg cb ih fin
        refine xg hW k_M_behind [187] 40 ?_
        ((repeat' (first | (with_reducible refine And.intro ?_ ?_) | (intro h0; exact absurd h0 (by decide)) | (intro h0; exact absurd rfl h0) | (intro h0; exfalso; clear hW; omega) | (intro _) | ((conv => whnf); (first | (with_reducible refine And.intro ?_ ?_) | (intro h0; exact absurd h0 (by decide)) | (intro h0; exact absurd rfl h0) | (intro h0; exfalso; clear hW; omega) | (intro _))))); (all_goals (try omega)); (all_goals (try exact xnn (by omega))); (all_goals (try exact Nat.le_of_ble_eq_true rfl)); (all_goals (try ((conv => whnf); (first | (refine hW.2.1 _ _ ?_) | (change X _ _ _ _ _ _) | (change C _ _ _ _ _ _ _))))); (all_goals (try simp only [xup_at, xup_ne, xup_up, ne_eq, Nat.reduceEqDiff, not_false_eq_true, Int.toNat_natCast, x_lcmp] at *)); (all_goals (try omega)))
        all_goals exact h5
      have eD : ∀ g, (∀ j, j ≤ n → g j = rwF (M' 75) (β k) (M' 84) j) → ∀ x5, X 138 [some (xR (some 64)), some (xI (w : Int)), some (xI (s : Int)), some (xI (k : Int)), some (xI (β k)), x5] [] (xup M' 85 g, D, nx) 0 0 := by
        intro g hg x5
        have h5 := z_beD (M := M') (w := (w : Int)) (s := (s : Int)) (i := (k : Int)) (b := β k) (H := M' 75) (f := M' 84) (by decide) hW (show n ≤ 60 by omega) f13 r84 eE n 1 g (by omega) (Nat.le_refl _) (fun j hj => by
          obtain rfl : j = 0 := by omega
          rw [hg 0 (by omega), fwd, rwF]) (fun j h1 h2 => hg j h2)
        clear hq hbw bcg cb ih fin eE
        refine xg hW k_M_behind [141] 40 ?_
        ((repeat' (first | (with_reducible refine And.intro ?_ ?_) | (intro h0; exact absurd h0 (by decide)) | (intro h0; exact absurd rfl h0) | (intro h0; exfalso; clear hW; omega) | (intro _) | ((conv => whnf); (first | (with_reducible refine And.intro ?_ ?_) | (intro h0; exact absurd h0 (by decide)) | (intro h0; exact absurd rfl h0) | (intro h0; exfalso; clear hW; omega) | (intro _))))); (all_goals (try omega)); (all_goals (try exact xnn (by omega))); (all_goals (try exact Nat.le_of_ble_eq_true rfl)); (all_goals (try ((conv => whnf); (first | (refine hW.2.1 _ _ ?_) | (change X _ _ _ _ _ _) | (change C _ _ _ _ _ _ _))))); (all_goals (try simp only [xup_at, xup_ne, xup_up, ne_eq, Nat.reduceEqDiff, not_false_eq_true, Int.toNat_natCast, x_lcmp] at *)); (all_goals (try omega)))
        all_goals exact h5
      have h5 := z_beC (M := M') (w := (w : Int)) (s := (s : Int)) (i := (k : Int)) (b := β k) (by decide) hW (show n ≤ 60 by omega) f13 (by rw [f75]; exact hH) (hβr k) r84 eD
      have cb' := cb M' fr k (by omega)
      clear hq hbw bcg cb ih fin eE eD
      refine xg hW k_M_behind [49, 65] 40 ?_
      ((repeat' (first | (with_reducible refine And.intro ?_ ?_) | (intro h0; exact absurd h0 (by decide)) | (intro h0; exact absurd rfl h0) | (intro h0; exfalso; clear hW; omega) | (intro _) | ((conv => whnf); (first | (with_reducible refine And.intro ?_ ?_) | (intro h0; exact absurd h0 (by decide)) | (intro h0; exact absurd rfl h0) | (intro h0; exfalso; clear hW; omega) | (intro _) | (refine hW.1 _ _ _ _ _ _ (cb' _ ?_) (by first | decide | omega) (by decide) (Nat.le_of_ble_eq_true rfl)))))); (all_goals (try omega)); (all_goals (try exact xnn (by omega))); (all_goals (try exact Nat.le_of_ble_eq_true rfl)); (all_goals (try ((conv => whnf); (first | (refine hW.2.1 _ _ ?_) | (change X _ _ _ _ _ _) | (change C _ _ _ _ _ _ _))))); (all_goals (try simp only [xup_at, xup_ne, xup_up, ne_eq, Nat.reduceEqDiff, not_false_eq_true, Int.toNat_natCast, x_lcmp] at *)); (all_goals (try omega)))
      all_goals exact h5
  have cl : ∀ Q' : Option xV → xM → Prop, Q' (some (xI (s : Int))) M → xm 1 m_M_lengthOf [xR (some 64), xI (w : Int)] M Q' := fun Q' h => z_lengthOfY hz ⟨⟨hw, hc⟩, by rw [es]; exact h⟩
  have o5 := fun x4 x5 => outer s 0 M (by omega) (fun _ _ _ => rfl) (fun _ _ => rfl) x4 x5
  have cloop : ∀ (m t : Nat), t + m = n → X 2 [some (xR (some 64)), some (xI (w : Int)), some (xI ((t + 1 : Nat) : Int)), none, none, none] [] (M, D, nx) 0 0 := by
    intro m
    induction m with
    | zero =>
      intro t ht
      have h5 := o5 none none
      clear hq hbw bcg cb outer o5
      refine xg hW k_M_behind [2, 49] 40 ?_
      ((repeat' (first | (with_reducible refine And.intro ?_ ?_) | (intro h0; exact absurd h0 (by decide)) | (intro h0; exact absurd rfl h0) | (intro h0; exfalso; clear hW; omega) | (intro _) | ((conv => whnf); (first | (with_reducible refine And.intro ?_ ?_) | (intro h0; exact absurd h0 (by decide)) | (intro h0; exact absurd rfl h0) | (intro h0; exfalso; clear hW; omega) | (intro _) | (refine hW.1 _ _ _ _ _ _ (cl _ ?_) (by first | decide | omega) (by decide) (Nat.le_of_ble_eq_true rfl)))))); (all_goals (try omega)); (all_goals (try exact xnn (by omega))); (all_goals (try exact Nat.le_of_ble_eq_true rfl)); (all_goals (try ((conv => whnf); (first | (refine hW.2.1 _ _ ?_) | (change X _ _ _ _ _ _) | (change C _ _ _ _ _ _ _))))); (all_goals (try simp only [xup_at, xup_ne, xup_up, ne_eq, Nat.reduceEqDiff, not_false_eq_true, Int.toNat_natCast, x_lcmp] at *)); (all_goals (try omega)))
      all_goals exact h5
    | succ m ih =>
      intro t ht
      have h5 := ih (t + 1) (by omega)
      have r1 := hr t (by omega)
      have r2 := hr (t + 1) (by omega)
      have c1 := hcl t (by omega)
      have em : min (M 84 (t + 1)) (M 84 t + 3) = M 84 (t + 1) := by omega
      clear hq hbw bcg cb outer o5 ih cl
      have et : (((t + 1 : Nat) : Int) - 1).toNat = t := by omega
      rw [← et] at r1
      refine xg hW k_M_behind [2, 49] 40 ?_
      ((repeat' (first | (with_reducible refine And.intro ?_ ?_) | (intro h0; exact absurd h0 (by decide)) | (intro h0; exact absurd rfl h0) | (intro h0; exfalso; clear hW; omega) | (intro _) | ((conv => whnf); (first | (with_reducible refine And.intro ?_ ?_) | (intro h0; exact absurd h0 (by decide)) | (intro h0; exact absurd rfl h0) | (intro h0; exfalso; clear hW; omega) | (intro _) | (refine hW.1 _ _ _ _ _ _ (z_lesser ?_) (by first | decide | omega) (by decide) (Nat.le_of_ble_eq_true rfl)))))); (all_goals (try omega)); (all_goals (try exact xnn (by omega))); (all_goals (try exact Nat.le_of_ble_eq_true rfl)); (all_goals (try ((conv => whnf); (first | (refine hW.2.1 _ _ ?_) | (change X _ _ _ _ _ _) | (change C _ _ _ _ _ _ _))))); (all_goals (try simp only [xup_at, xup_ne, xup_up, ne_eq, Nat.reduceEqDiff, not_false_eq_true, Int.toNat_natCast, x_lcmp] at *)); (all_goals (try omega)))
      rw [et, em, xup_id, xup_id]
      exact h5
  have h5 := cloop n 0 (by omega)
  clear hq hbw bcg cb outer o5 cl cloop
  refine xg hW k_M_behind [2] 40 ?_
  ((repeat' (first | (with_reducible refine And.intro ?_ ?_) | (intro h0; exact absurd h0 (by decide)) | (intro h0; exact absurd rfl h0) | (intro h0; exfalso; clear hW; omega) | (intro _) | ((conv => whnf); (first | (with_reducible refine And.intro ?_ ?_) | (intro h0; exact absurd h0 (by decide)) | (intro h0; exact absurd rfl h0) | (intro h0; exfalso; clear hW; omega) | (intro _))))); (all_goals (try omega)); (all_goals (try exact xnn (by omega))); (all_goals (try exact Nat.le_of_ble_eq_true rfl)); (all_goals (try ((conv => whnf); (first | (refine hW.2.1 _ _ ?_) | (change X _ _ _ _ _ _) | (change C _ _ _ _ _ _ _))))); (all_goals (try simp only [xup_at, xup_ne, xup_up, ne_eq, Nat.reduceEqDiff, not_false_eq_true, Int.toNat_natCast, x_lcmp] at *)); (all_goals (try omega)))
  all_goals exact h5
