/-! the reference: the least from each place on -/
set_option maxRecDepth 100000 in
set_option maxHeartbeats 1000000 in
theorem z_rest0 {M : xM} {Q : Option xV → xM → Prop} {n : Nat} (hn60 : n ≤ 60) (e13 : M 64 13 = (n : Int)) (hw : 0 ≤ M 64 0 ∧ M 64 0 ≤ 10) (hq : ∀ g, (∀ j, j ≤ n → g j = 3 * ((n : Int) - j)) → (∀ q, 60 < q → g q = M 83 q) → Q none (xup M 83 g)) : xm 4 m_M_restFrom [xR (some 64), xI 0] M Q := by
  (refine xm_of (own := "DrumTongueModel") rfl (by decide +kernel) tk_M [some (xR (some 64)), some (xI 0), none, none] (Nat.le_of_ble_eq_true rfl) rfl ?_; intro D nx X C P hW)
  have loop : ∀ (m t : Nat) (g : Nat → Int), t + m = n + 1 → (∀ j, j < t → g j = 3 * ((n : Int) - j)) → (∀ q, 60 < q → g q = M 83 q) → X 2 [some (xR (some 64)), some (xI 0), some (xI (t : Int)), none] [] (xup M 83 g, D, nx) 0 0 := by
    intro m
    induction m with
    | zero =>
      intro t g ht h1 h2
      have h5 := hq g (fun j hj => h1 j (by omega)) h2
      clear hq h1 h2
      refine xg hW k_M_restFrom [2] 40 ?_
      ((repeat' (first | (with_reducible refine And.intro ?_ ?_) | (intro h0; exact absurd h0 (by decide)) | (intro h0; exact absurd rfl h0) | (intro h0; exfalso; clear hW; omega) | (intro _) | ((conv => whnf); (first | (with_reducible refine And.intro ?_ ?_) | (intro h0; exact absurd h0 (by decide)) | (intro h0; exact absurd rfl h0) | (intro h0; exfalso; clear hW; omega) | (intro _))))); (all_goals (try omega)); (all_goals (try exact xnn (by omega))); (all_goals (try exact Nat.le_of_ble_eq_true rfl)); (all_goals (try ((conv => whnf); (first | (refine hW.2.1 _ _ ?_) | (change X _ _ _ _ _ _) | (change C _ _ _ _ _ _ _))))); (all_goals (try simp only [xup_at, xup_ne, xup_up, ne_eq, Nat.reduceEqDiff, not_false_eq_true, Int.toNat_natCast, x_lcmp] at *)); (all_goals (try omega)))
      all_goals exact h5
    | succ m ih =>
      intro t g ht h1 h2
      have h5 := ih (t + 1) (xup g t (3 * ((n : Int) - t))) (by omega) (fun j hj => by
        by_cases q : j = t
        · rw [q, xup_at]
        · rw [xup_ne q]; exact h1 j (by omega)) (fun q hq => by rw [xup_ne (by omega)]; exact h2 q hq)
      clear hq ih h1 h2
      have et : (61 * 0 + (t : Int)).toNat = t := by omega
      refine xg hW k_M_restFrom [2] 40 ?_
      ((repeat' (first | (with_reducible refine And.intro ?_ ?_) | (intro h0; exact absurd h0 (by decide)) | (intro h0; exact absurd rfl h0) | (intro h0; exfalso; clear hW; omega) | (intro _) | ((conv => whnf); (first | (with_reducible refine And.intro ?_ ?_) | (intro h0; exact absurd h0 (by decide)) | (intro h0; exact absurd rfl h0) | (intro h0; exfalso; clear hW; omega) | (intro _))))); (all_goals (try omega)); (all_goals (try exact xnn (by omega))); (all_goals (try exact Nat.le_of_ble_eq_true rfl)); (all_goals (try ((conv => whnf); (first | (refine hW.2.1 _ _ ?_) | (change X _ _ _ _ _ _) | (change C _ _ _ _ _ _ _))))); (all_goals (try simp only [xup_at, xup_ne, xup_up, ne_eq, Nat.reduceEqDiff, not_false_eq_true, Int.toNat_natCast, x_lcmp] at *)); (all_goals (try omega)))
      rw [et, e13]
      exact h5
  have h5 := loop (n + 1) 0 (M 83) (by omega) (fun j hj => absurd hj (by omega)) (fun _ _ => rfl)
  rw [xup_id] at h5
  clear loop hq
  refine xg hW k_M_restFrom [2] 40 ?_
  ((repeat' (first | (with_reducible refine And.intro ?_ ?_) | (intro h0; exact absurd h0 (by decide)) | (intro h0; exact absurd rfl h0) | (intro h0; exfalso; clear hW; omega) | (intro _) | ((conv => whnf); (first | (with_reducible refine And.intro ?_ ?_) | (intro h0; exact absurd h0 (by decide)) | (intro h0; exact absurd rfl h0) | (intro h0; exfalso; clear hW; omega) | (intro _))))); (all_goals (try omega)); (all_goals (try exact xnn (by omega))); (all_goals (try exact Nat.le_of_ble_eq_true rfl)); (all_goals (try ((conv => whnf); (first | (refine hW.2.1 _ _ ?_) | (change X _ _ _ _ _ _) | (change C _ _ _ _ _ _ _))))); (all_goals (try simp only [xup_at, xup_ne, xup_up, ne_eq, Nat.reduceEqDiff, not_false_eq_true, Int.toNat_natCast, x_lcmp] at *)); (all_goals (try omega)))
  all_goals exact h5
/-- the row of rest k comes to row -/
def zreX (X : xS) (D : Nat → Option xE) (nx : Nat) (k pc : Nat) (w : Int) (x3 : Option xV) (M : xM) : Prop := X pc [some (xR (some 64)), some (xI ((k + 1 : Nat) : Int)), some (xI w), x3] [] (M, D, nx) 0 0
set_option maxRecDepth 100000 in
set_option maxHeartbeats 1000000 in
theorem z_reC {M : xM} {Q : Option xV → xM → Prop} {n k : Nat} {d : Nat} {D : Nat → Option xE} {nx : Nat} {X : xS} {C : xC} {P : xP} (hW : xWk d m_M_restFrom tb_M Q D nx X C P) (hn60 : n ≤ 60) (hk : k ≤ 11) (e13 : M 64 13 = (n : Int)) {w : Int} (h : ∀ f, (∀ j, j ≤ n → f j = M 83 (61 * k + j)) → ∀ x3, zreX X D nx k 103 w x3 (xup M 84 f)) : zreX X D nx k 70 w (some (xI 0)) M := by
  unfold zreX at *
  have loop : ∀ (m t : Nat) (f : Nat → Int), t + m = n + 1 → (∀ j, j < t → f j = M 83 (61 * k + j)) → X 70 [some (xR (some 64)), some (xI ((k + 1 : Nat) : Int)), some (xI w), some (xI (t : Int))] [] (xup M 84 f, D, nx) 0 0 := by
    intro m
    induction m with
    | zero =>
      intro t f ht hf
      have h5 := h f (fun j hj => hf j (by omega)) (some (xI (t : Int)))
      clear h hf
      refine xg hW k_M_restFrom [70, 103] 40 ?_
      ((repeat' (first | (with_reducible refine And.intro ?_ ?_) | (intro h0; exact absurd h0 (by decide)) | (intro h0; exact absurd rfl h0) | (intro h0; exfalso; clear hW; omega) | (intro _) | ((conv => whnf); (first | (with_reducible refine And.intro ?_ ?_) | (intro h0; exact absurd h0 (by decide)) | (intro h0; exact absurd rfl h0) | (intro h0; exfalso; clear hW; omega) | (intro _))))); (all_goals (try omega)); (all_goals (try exact xnn (by omega))); (all_goals (try exact Nat.le_of_ble_eq_true rfl)); (all_goals (try ((conv => whnf); (first | (refine hW.2.1 _ _ ?_) | (change X _ _ _ _ _ _) | (change C _ _ _ _ _ _ _))))); (all_goals (try simp only [xup_at, xup_ne, xup_up, ne_eq, Nat.reduceEqDiff, not_false_eq_true, Int.toNat_natCast, x_lcmp] at *)); (all_goals (try omega)))
      all_goals exact h5
    | succ m ih =>
      intro t f ht hf
      have h5 := ih (t + 1) (xup f t (M 83 (61 * k + t))) (by omega) (fun j hj => by
        by_cases q : j = t
        · rw [q, xup_at]
        · rw [xup_ne q]; exact hf j (by omega))
      clear h ih hf
      have et : (61 * (((k + 1 : Nat) : Int) - 1) + (t : Int)).toNat = 61 * k + t := by omega
      refine xg hW k_M_restFrom [70, 103] 40 ?_
      ((repeat' (first | (with_reducible refine And.intro ?_ ?_) | (intro h0; exact absurd h0 (by decide)) | (intro h0; exact absurd rfl h0) | (intro h0; exfalso; clear hW; omega) | (intro _) | ((conv => whnf); (first | (with_reducible refine And.intro ?_ ?_) | (intro h0; exact absurd h0 (by decide)) | (intro h0; exact absurd rfl h0) | (intro h0; exfalso; clear hW; omega) | (intro _))))); (all_goals (try omega)); (all_goals (try exact xnn (by omega))); (all_goals (try exact Nat.le_of_ble_eq_true rfl)); (all_goals (try ((conv => whnf); (first | (refine hW.2.1 _ _ ?_) | (change X _ _ _ _ _ _) | (change C _ _ _ _ _ _ _))))); (all_goals (try simp only [xup_at, xup_ne, xup_up, ne_eq, Nat.reduceEqDiff, not_false_eq_true, Int.toNat_natCast, x_lcmp] at *)); (all_goals (try omega)))
      rw [et]
      exact h5
  have h5 := loop (n + 1) 0 (M 84) (by omega) (fun j hj => absurd hj (by omega))
  rw [xup_id] at h5
  exact h5
set_option maxRecDepth 100000 in
set_option maxHeartbeats 1000000 in
theorem z_reL {M : xM} {Q : Option xV → xM → Prop} {n k : Nat} {d : Nat} {D : Nat → Option xE} {nx : Nat} {X : xS} {C : xC} {P : xP} (hd : 1 < d) (hW : xWk d m_M_restFrom tb_M Q D nx X C P) (hn60 : n ≤ 60) (hk : k ≤ 11) (e13 : M 64 13 = (n : Int)) (hr : ∀ j, j ≤ n → 0 ≤ M 84 j ∧ M 84 j ≤ 2000000) (hr2 : ∀ j, j ≤ n → 0 ≤ M 83 (61 * (k + 1) + j) ∧ M 83 (61 * (k + 1) + j) ≤ 2000000) {w : Int} (h : ∀ g, (∀ q, q < 61 * (k + 1) ∨ 61 * (k + 1) + 60 < q → g q = M 83 q) → (∀ j, j ≤ n → g (61 * (k + 1) + j) = min (M 83 (61 * (k + 1) + j)) (M 84 j)) → ∀ x3, zreX X D nx k 155 w x3 (xup M 83 g)) : zreX X D nx k 110 w (some (xI 0)) M := by
  unfold zreX at *
  have loop : ∀ (m t : Nat) (g : Nat → Int), t + m = n + 1 → (∀ q, q < 61 * (k + 1) ∨ 61 * (k + 1) + 60 < q → g q = M 83 q) → (∀ j, j < t → g (61 * (k + 1) + j) = min (M 83 (61 * (k + 1) + j)) (M 84 j)) → (∀ j, t ≤ j → j ≤ n → g (61 * (k + 1) + j) = M 83 (61 * (k + 1) + j)) → X 110 [some (xR (some 64)), some (xI ((k + 1 : Nat) : Int)), some (xI w), some (xI (t : Int))] [] (xup M 83 g, D, nx) 0 0 := by
    intro m
    induction m with
    | zero =>
      intro t g ht g1 g2 g3
      have h5 := h g g1 (fun j hj => g2 j (by omega)) (some (xI (t : Int)))
      clear h g1 g2 g3
      refine xg hW k_M_restFrom [110, 155] 40 ?_
      ((repeat' (first | (with_reducible refine And.intro ?_ ?_) | (intro h0; exact absurd h0 (by decide)) | (intro h0; exact absurd rfl h0) | (intro h0; exfalso; clear hW; omega) | (intro _) | ((conv => whnf); (first | (with_reducible refine And.intro ?_ ?_) | (intro h0; exact absurd h0 (by decide)) | (intro h0; exact absurd rfl h0) | (intro h0; exfalso; clear hW; omega) | (intro _))))); (all_goals (try omega)); (all_goals (try exact xnn (by omega))); (all_goals (try exact Nat.le_of_ble_eq_true rfl)); (all_goals (try ((conv => whnf); (first | (refine hW.2.1 _ _ ?_) | (change X _ _ _ _ _ _) | (change C _ _ _ _ _ _ _))))); (all_goals (try simp only [xup_at, xup_ne, xup_up, ne_eq, Nat.reduceEqDiff, not_false_eq_true, Int.toNat_natCast, x_lcmp] at *)); (all_goals (try omega)))
      all_goals exact h5
    | succ m ih =>
      intro t g ht g1 g2 g3
      have e0 := g3 t (Nat.le_refl _) (by omega)
      have h5 := ih (t + 1) (xup g (61 * (k + 1) + t) (min (g (61 * (k + 1) + t)) (M 84 t))) (by omega) (fun q hq => by rw [xup_ne (by omega)]; exact g1 q hq) (fun j hj => by
        by_cases q : j = t
        · rw [q, xup_at, e0]
        · rw [xup_ne (by omega)]; exact g2 j (by omega)) (fun j hj hj2 => by rw [xup_ne (by omega)]; exact g3 j (by omega) hj2)
      have r1 := hr t (by omega)
      have r2 := hr2 t (by omega)
      rw [← e0] at r2
      clear h ih g1 g2 g3
      have et : (61 * ((k + 1 : Nat) : Int) + (t : Int)).toNat = 61 * (k + 1) + t := by omega
      have r3 := r2
      rw [← et] at r3
      refine xg hW k_M_restFrom [110, 155] 40 ?_
      ((repeat' (first | (with_reducible refine And.intro ?_ ?_) | (intro h0; exact absurd h0 (by decide)) | (intro h0; exact absurd rfl h0) | (intro h0; exfalso; clear hW; omega) | (intro _) | ((conv => whnf); (first | (with_reducible refine And.intro ?_ ?_) | (intro h0; exact absurd h0 (by decide)) | (intro h0; exact absurd rfl h0) | (intro h0; exfalso; clear hW; omega) | (intro _) | (refine hW.1 _ _ _ _ _ _ (z_lesser ?_) (by first | decide | omega) (by decide) (Nat.le_of_ble_eq_true rfl)))))); (all_goals (try omega)); (all_goals (try exact xnn (by omega))); (all_goals (try exact Nat.le_of_ble_eq_true rfl)); (all_goals (try ((conv => whnf); (first | (refine hW.2.1 _ _ ?_) | (change X _ _ _ _ _ _) | (change C _ _ _ _ _ _ _))))); (all_goals (try simp only [xup_at, xup_ne, xup_up, ne_eq, Nat.reduceEqDiff, not_false_eq_true, Int.toNat_natCast, x_lcmp] at *)); (all_goals (try omega)))
      rw [et]
      exact h5
  have h5 := loop (n + 1) 0 (M 83) (by omega) (fun _ _ => rfl) (fun j hj => absurd hj (by omega)) (fun _ _ _ => rfl)
  rw [xup_id] at h5
  exact h5
theorem rRow_fr {M M' : xM} (h : frE M M') : ∀ k, rRow M' k = rRow M k
  | 0 => by
    funext j
    show 3 * (M' 23 1 - (j : Int)) = 3 * (M 23 1 - (j : Int))
    rw [h 23 (by decide)]
  | k + 1 => by
    have lw : ∀ (g : Nat → Int) (w : Nat), lowW M' g w = lowW M g w := by
      intro g w
      induction w with
      | zero => rfl
      | succ w ih =>
        funext j
        show (if M' 15 w = -1 then lowW M' g w j else min (lowW M' g w j) (wB M' w g j)) = (if M 15 w = -1 then lowW M g w j else min (lowW M g w j) (wB M w g j))
        rw [h 15 (by decide), ih, wB_fr h]
    rw [rRow, rRow, rRow_fr h k, lw, h 3 (by decide)]
theorem relH_fr {M M' : xM} (h : frE M M') (h75 : M' 75 = M 75) (h13 : M' 64 13 = M 64 13) (hh : relH M) : relH M' := by
  unfold relH
  rw [h 23 (by decide), h 24 (by decide), h75, h13]
  exact hh
theorem earOk_fr {M M' : xM} (h : frE M M') (he : earOk M) : earOk M' := by
  unfold earOk
  rw [h 23 (by decide), h 24 (by decide)]
  exact he
/-- all that reading rests on -/
def zR (M : xM) : Prop := zG M ∧ relH M ∧ earOk M
theorem zR.rd {M : xM} (h : zR M) : rdOk M := ⟨h.2.2, h.1.ph, h.1.1.1.1, h.1.1.1.2.1⟩
/-- the reference's scratch of the reading may differ, nothing else -/
def rdF (M M' : xM) : Prop := (∀ a, a < 64 ∨ 64 < a ∧ a < 83 ∨ 87 < a → M' a = M a) ∧ ∀ j, j ≠ 26 → M' 64 j = M 64 j
theorem zR_fr {M M' : xM} (h : rdF M M') (hz : zR M) : zR M' := by
  obtain ⟨a, b, c⟩ := hz
  have fr : frE M M' := fun x hx => h.1 x (by omega)
  exact ⟨zG_fr (fun x hx => h.1 x (by omega)) (h.2 0 (by decide)) (h.2 3 (by decide)) (h.2 6 (by decide)) a, relH_fr fr (h.1 75 (by omega)) (h.2 13 (by decide)) b, earOk_fr fr c⟩
theorem rdF_up {M M' : xM} {a : Nat} {f : Nat → Int} (h : rdF M M') (h1 : 83 ≤ a) (h2 : a ≤ 87) : rdF M (xup M' a f) := ⟨fun x hx => by rw [xup_ne (by omega)]; exact h.1 x hx, fun j hj => by rw [xup_ne (by omega)]; exact h.2 j hj⟩
theorem rdF_rf (M : xM) : rdF M M := ⟨fun _ _ => rfl, fun _ _ => rfl⟩
theorem rdF_tr {M M1 M2 : xM} (h : rdF M M1) (h2 : rdF M1 M2) : rdF M M2 := ⟨fun x hx => (h2.1 x hx).trans (h.1 x hx), fun j hj => (h2.2 j hj).trans (h.2 j hj)⟩
set_option maxRecDepth 100000 in
set_option maxHeartbeats 2000000 in
theorem z_restS {M : xM} {Q : Option xV → xM → Prop} {k : Nat} (hz : zR M) (hk : k ≤ 11) (hrest : ∀ j : Nat, (j : Int) ≤ M 23 1 → M 83 (61 * k + j) = rRow M k j) (hq : ∀ M', (∀ a, a ≠ 83 → a ≠ 84 → a ≠ 85 → M' a = M a) → (∀ q, q < 61 * (k + 1) ∨ 61 * (k + 1) + 60 < q → M' 83 q = M 83 q) → (∀ j : Nat, (j : Int) ≤ M 23 1 → M' 83 (61 * (k + 1) + j) = rRow M (k + 1) j) → Q none M') : xm 4 m_M_restFrom [xR (some 64), xI ((k + 1 : Nat) : Int)] M Q := by
  have hrd := hz.rd
  have n0 := hrd.1.1
  have n60 := hrd.1.2.1
  have w0 := hrd.2.2.1
  have w10 := hrd.2.2.2
  obtain ⟨n, hn⟩ := Int.eq_ofNat_of_zero_le n0
  obtain ⟨nW, hWn⟩ := Int.eq_ofNat_of_zero_le w0
  have e13 : M 64 13 = (n : Int) := by rw [hz.2.1.1]; exact hn
  have e640 : M 64 0 = (nW : Int) := by rw [hz.1.1.2.2.2.1.1]; exact hWn
  have hrg := rRow_rg hrd k
  have hcl := rRow_cl hrd k
  have hlow := lowW_rg hrd (g := rRow M k) hrg
  have hwB : ∀ w, w < 10 → M 15 w ≠ -1 → ∀ j : Nat, (j : Int) ≤ M 23 1 → 0 ≤ wB M w (rRow M k) j ∧ wB M w (rRow M k) j ≤ 1000000 + 54 := fun w hw hc => wB_rg hrd hw hc hrg
  have hcg : ∀ w (f : Nat → Int), (∀ j : Nat, (j : Int) ≤ M 23 1 → f j = rRow M k j) → ∀ j : Nat, (j : Int) ≤ M 23 1 → wB M w f j = wB M w (rRow M k) j := fun w f hf => wB_congr w n0 hf
  rw [rRow, hWn, Int.toNat_natCast] at hq
  have hls : ∀ w j, lowW M (rRow M k) (w + 1) j = if M 15 w = -1 then lowW M (rRow M k) w j else min (lowW M (rRow M k) w j) (wB M w (rRow M k) j) := fun w j => lowW_s M _ w j
  have hl0 : ∀ j, lowW M (rRow M k) 0 j = 1000000 := fun j => rfl
  generalize rRow M k = r at *
  generalize lowW M r = lw at *
  rw [hn] at hcl
  simp only [hn] at hrest hq hrg hlow hwB hcg
  rw [Int.toNat_natCast] at hcl
  (refine xm_of (own := "DrumTongueModel") rfl (by decide +kernel) tk_M [some (xR (some 64)), some (xI ((k + 1 : Nat) : Int)), none, none] (Nat.le_of_ble_eq_true rfl) rfl ?_; intro D nx X C P hW)
  have wl : ∀ (m w : Nat) (M' : xM), w + m = nW → (∀ a, a ≠ 83 → a ≠ 84 → a ≠ 85 → M' a = M a) → (∀ q, q < 61 * (k + 1) ∨ 61 * (k + 1) + 60 < q → M' 83 q = M 83 q) → (∀ j : Nat, j ≤ n → M' 83 (61 * (k + 1) + j) = lw w j) → ∀ x3, zreX X D nx k 46 (w : Int) x3 M' := by
    intro m
    induction m with
    | zero =>
      intro w M' hw fr f83 fl x3
      obtain rfl : w = nW := by omega
      have h5 := hq M' fr f83 (fun j hj => fl j (by omega))
      have g0 : M' 64 0 = (w : Int) := by rw [fr 64 (by decide) (by decide) (by decide)]; exact e640
      clear hq hz hrd hrest hlow hwB hcg hls hl0
      unfold zreX
      refine xg hW k_M_restFrom [46] 40 ?_
      ((repeat' (first | (with_reducible refine And.intro ?_ ?_) | (intro h0; exact absurd h0 (by decide)) | (intro h0; exact absurd rfl h0) | (intro h0; exfalso; clear hW; omega) | (intro _) | ((conv => whnf); (first | (with_reducible refine And.intro ?_ ?_) | (intro h0; exact absurd h0 (by decide)) | (intro h0; exact absurd rfl h0) | (intro h0; exfalso; clear hW; omega) | (intro _))))); (all_goals (try omega)); (all_goals (try exact xnn (by omega))); (all_goals (try exact Nat.le_of_ble_eq_true rfl)); (all_goals (try ((conv => whnf); (first | (refine hW.2.1 _ _ ?_) | (change X _ _ _ _ _ _) | (change C _ _ _ _ _ _ _))))); (all_goals (try simp only [xup_at, xup_ne, xup_up, ne_eq, Nat.reduceEqDiff, not_false_eq_true, Int.toNat_natCast, x_lcmp] at *)); (all_goals (try omega)))
      all_goals exact h5
    | succ m ih =>
      intro w M' hw fr f83 fl x3
      have g0 : M' 64 0 = (nW : Int) := by rw [fr 64 (by decide) (by decide) (by decide)]; exact e640
      have g13 : M' 64 13 = (n : Int) := by rw [fr 64 (by decide) (by decide) (by decide)]; exact e13
      have g74 : M' 74 w = M 15 w := by rw [fr 74 (by decide) (by decide) (by decide)]; exact hz.1.2.2.1 w (by omega)
      have next : ∀ M'', (∀ a, a ≠ 83 → a ≠ 84 → a ≠ 85 → M'' a = M a) → (∀ q, q < 61 * (k + 1) ∨ 61 * (k + 1) + 60 < q → M'' 83 q = M 83 q) → (∀ j : Nat, j ≤ n → M'' 83 (61 * (k + 1) + j) = lw (w + 1) j) → ∀ x3, zreX X D nx k 155 (w : Int) x3 M'' := by
        intro M'' a b c x3
        have h5 := ih (w + 1) M'' (by omega) a b c x3
        clear hq hz hrd hrest hlow hwB hcg hls hl0 ih fr f83 fl
        unfold zreX at *
        refine xg hW k_M_restFrom [46] 40 ?_
        ((repeat' (first | (with_reducible refine And.intro ?_ ?_) | (intro h0; exact absurd h0 (by decide)) | (intro h0; exact absurd rfl h0) | (intro h0; exfalso; clear hW; omega) | (intro _) | ((conv => whnf); (first | (with_reducible refine And.intro ?_ ?_) | (intro h0; exact absurd h0 (by decide)) | (intro h0; exact absurd rfl h0) | (intro h0; exfalso; clear hW; omega) | (intro _))))); (all_goals (try omega)); (all_goals (try exact xnn (by omega))); (all_goals (try exact Nat.le_of_ble_eq_true rfl)); (all_goals (try ((conv => whnf); (first | (refine hW.2.1 _ _ ?_) | (change X _ _ _ _ _ _) | (change C _ _ _ _ _ _ _))))); (all_goals (try simp only [xup_at, xup_ne, xup_up, ne_eq, Nat.reduceEqDiff, not_false_eq_true, Int.toNat_natCast, x_lcmp] at *)); (all_goals (try omega)))
        all_goals exact h5
      by_cases c : M 15 w = -1
      · have h5 := next M' fr f83 (fun j hj => by rw [hls, if_pos c]; exact fl j hj)
        rw [c] at g74
        have g74' : M' 74 ((w : Int).toNat) = -1 := g74
        clear hq hz hrd hrest hlow hwB hcg hls hl0 ih fr f83 fl next
        unfold zreX at *
        refine xg hW k_M_restFrom [46, 70, 155] 40 ?_
        ((repeat' (first | (with_reducible refine And.intro ?_ ?_) | (intro h0; exact absurd h0 (by decide)) | (intro h0; exact absurd rfl h0) | (intro h0; exfalso; clear hW; omega) | (intro _) | ((conv => whnf); (first | (with_reducible refine And.intro ?_ ?_) | (intro h0; exact absurd h0 (by decide)) | (intro h0; exact absurd rfl h0) | (intro h0; exfalso; clear hW; omega) | (intro _))))); (all_goals (try omega)); (all_goals (try exact xnn (by omega))); (all_goals (try exact Nat.le_of_ble_eq_true rfl)); (all_goals (try ((conv => whnf); (first | (refine hW.2.1 _ _ ?_) | (change X _ _ _ _ _ _) | (change C _ _ _ _ _ _ _))))); (all_goals (try simp only [xup_at, xup_ne, xup_up, ne_eq, Nat.reduceEqDiff, not_false_eq_true, Int.toNat_natCast, x_lcmp] at *)); (all_goals (try omega)))
        all_goals exact h5 _
      · have cne : M' 74 w ≠ -1 := by rw [g74]; exact c
        have rg74 : -1 ≤ M 15 w ∧ M 15 w < 31 := ⟨(hrd.2.1 w (by omega)).1, (hrd.2.1 w (by omega)).2.1⟩
        have p103 : ∀ f, (∀ j, j ≤ n → f j = M' 83 (61 * k + j)) → ∀ x3, zreX X D nx k 103 (w : Int) x3 (xup M' 84 f) := by
          intro f hf x3
          have hf' : ∀ j, j ≤ n → f j = r j := fun j hj => by rw [hf j hj, f83 _ (by omega)]; exact hrest j (by omega)
          have fr2 : ∀ a, a ≠ 83 → a ≠ 84 → a ≠ 85 → xup M' 84 f a = M a := fun a a1 a2 a3 => by rw [xup_ne a2]; exact fr a a1 a2 a3
          have frE2 : frE M (xup M' 84 f) := fun a ha => fr2 a (by omega) (by omega) (by omega)
          have hz2 : zR (xup M' 84 f) := zR_fr ⟨fun a ha => fr2 a (by omega) (by omega) (by omega), fun j _ => by rw [fr2 64 (by decide) (by decide) (by decide)]⟩ hz
          have ca : ∀ Q' : Option xV → xM → Prop, (∀ M3, (∀ a, a ≠ 84 → a ≠ 85 → M3 a = xup M' 84 f a) → (∀ j : Nat, j ≤ n → M3 84 j = wB M w r j) → Q' none M3) → xm 3 m_M_ahead [xR (some 64), xI (w : Int)] (xup M' 84 f) Q' := fun Q' h => by
            have e23 : xup M' 84 f 23 1 = (n : Int) := by rw [frE2 23 (by decide)]; exact hn
            refine z_ahead hz2.1 hz2.2.1 hz2.2.2 (by rw [frE2 3 (by decide)]; omega) (by rw [frE2 15 (by decide)]; exact c) ?_ (fun j hj => ?_) (fun M3 a b => h M3 a (fun j hj => ?_))
            · rw [e23, Int.toNat_natCast, xup_at]
              intro j hj
              rw [hf' j (by omega), hf' (j + 1) (by omega)]
              exact hcl j hj
            · rw [xup_at, hf' j (by omega)]
              exact hrg j (by omega)
            · rw [b j (by omega), wB_fr frE2, xup_at]
              exact hcg w f (fun j hj => hf' j (by omega)) j (by omega)
          have p108 : ∀ M3, (∀ a, a ≠ 84 → a ≠ 85 → M3 a = xup M' 84 f a) → (∀ j : Nat, j ≤ n → M3 84 j = wB M w r j) → zreX X D nx k 110 (w : Int) (some (xI 0)) M3 := by
            intro M3 a b
            have a83 : M3 83 = M' 83 := by rw [a 83 (by decide) (by decide), xup_ne (by decide)]
            refine z_reL (by decide) hW (show n ≤ 60 by omega) hk (by rw [a 64 (by decide) (by decide), xup_ne (by decide)]; exact g13) (fun j hj => ?_) (fun j hj => ?_) (fun g g1 g2 x3 => next _ (fun x x1 x2 x3 => ?_) (fun q hq => ?_) (fun j hj => ?_) x3)
            · rw [b j hj]
              have := hwB w (by omega) c j (by omega)
              omega
            · rw [a83, fl j hj]
              have := hlow w (by omega) j (by omega)
              omega
            · rw [xup_ne x1, a x x2 x3, xup_ne x2]
              exact fr x x1 x2 x3
            · rw [xup_at, g1 q hq, a83]
              exact f83 q hq
            · rw [xup_at, g2 j hj, a83, fl j hj, b j hj, hls, if_neg c]
          clear hq hz hrd hrest hlow hwB hcg hls hl0 ih fr f83 fl next hz2 frE2 fr2 hf hf'
          unfold zreX at *
          refine xg hW k_M_restFrom [110] 40 ?_
          ((repeat' (first | (with_reducible refine And.intro ?_ ?_) | (intro h0; exact absurd h0 (by decide)) | (intro h0; exact absurd rfl h0) | (intro h0; exfalso; clear hW; omega) | (intro _) | ((conv => whnf); (first | (with_reducible refine And.intro ?_ ?_) | (intro h0; exact absurd h0 (by decide)) | (intro h0; exact absurd rfl h0) | (intro h0; exfalso; clear hW; omega) | (intro _))))); (all_goals (try omega)); (all_goals (try exact xnn (by omega))); (all_goals (try exact Nat.le_of_ble_eq_true rfl)); (all_goals (try ((conv => whnf); (first | (refine hW.2.1 _ _ ?_) | (change X _ _ _ _ _ _) | (change C _ _ _ _ _ _ _))))); (all_goals (try simp only [xup_at, xup_ne, xup_up, ne_eq, Nat.reduceEqDiff, not_false_eq_true, Int.toNat_natCast, x_lcmp] at *)); (all_goals (try omega)))
          refine hW.1 _ _ _ _ _ _ (ca _ (fun M3 a b => ?_)) (by decide) (by decide) (Nat.le_of_ble_eq_true rfl)
          have h5 := p108 M3 a b
          clear p108 ca
          ((repeat' (first | (with_reducible refine And.intro ?_ ?_) | (intro h0; exact absurd h0 (by decide)) | (intro h0; exact absurd rfl h0) | (intro h0; exfalso; clear hW; omega) | (intro _) | ((conv => whnf); (first | (with_reducible refine And.intro ?_ ?_) | (intro h0; exact absurd h0 (by decide)) | (intro h0; exact absurd rfl h0) | (intro h0; exfalso; clear hW; omega) | (intro _))))); (all_goals (try omega)); (all_goals (try exact xnn (by omega))); (all_goals (try exact Nat.le_of_ble_eq_true rfl)); (all_goals (try ((conv => whnf); (first | (refine hW.2.1 _ _ ?_) | (change X _ _ _ _ _ _) | (change C _ _ _ _ _ _ _))))); (all_goals (try simp only [xup_at, xup_ne, xup_up, ne_eq, Nat.reduceEqDiff, not_false_eq_true, Int.toNat_natCast, x_lcmp] at *)); (all_goals (try omega)))
          all_goals exact h5
        have h5 := z_reC hW (show n ≤ 60 by omega) hk g13 p103
        have g74' : M' 74 ((w : Int).toNat) = M 15 w := g74
        clear hq hz hrd hrest hlow hwB hcg hls hl0 ih fr f83 fl next p103
        unfold zreX at *
        refine xg hW k_M_restFrom [70, 155] 40 ?_
        ((repeat' (first | (with_reducible refine And.intro ?_ ?_) | (intro h0; exact absurd h0 (by decide)) | (intro h0; exact absurd rfl h0) | (intro h0; exfalso; clear hW; omega) | (intro _) | ((conv => whnf); (first | (with_reducible refine And.intro ?_ ?_) | (intro h0; exact absurd h0 (by decide)) | (intro h0; exact absurd rfl h0) | (intro h0; exfalso; clear hW; omega) | (intro _))))); (all_goals (try omega)); (all_goals (try exact xnn (by omega))); (all_goals (try exact Nat.le_of_ble_eq_true rfl)); (all_goals (try ((conv => whnf); (first | (refine hW.2.1 _ _ ?_) | (change X _ _ _ _ _ _) | (change C _ _ _ _ _ _ _))))); (all_goals (try simp only [xup_at, xup_ne, xup_up, ne_eq, Nat.reduceEqDiff, not_false_eq_true, Int.toNat_natCast, x_lcmp] at *)); (all_goals (try omega)))
        all_goals exact h5
  have far : ∀ (m t : Nat) (g : Nat → Int), t + m = n + 1 → (∀ q, q < 61 * (k + 1) ∨ 61 * (k + 1) + 60 < q → g q = M 83 q) → (∀ j, j < t → g (61 * (k + 1) + j) = 1000000) → zreX X D nx k 2 (t : Int) none (xup M 83 g) := by
    intro m
    induction m with
    | zero =>
      intro t g ht g1 g2
      have h5 := wl nW 0 (xup M 83 g) (by omega) (fun a a1 _ _ => by rw [xup_ne a1]) (fun q hq => by rw [xup_at]; exact g1 q hq) (fun j hj => by rw [xup_at, hl0]; exact g2 j (by omega)) none
      clear hq hz hrd hrest hlow hwB hcg hls hl0 wl g1 g2
      unfold zreX at *
      refine xg hW k_M_restFrom [2, 46] 40 ?_
      ((repeat' (first | (with_reducible refine And.intro ?_ ?_) | (intro h0; exact absurd h0 (by decide)) | (intro h0; exact absurd rfl h0) | (intro h0; exfalso; clear hW; omega) | (intro _) | ((conv => whnf); (first | (with_reducible refine And.intro ?_ ?_) | (intro h0; exact absurd h0 (by decide)) | (intro h0; exact absurd rfl h0) | (intro h0; exfalso; clear hW; omega) | (intro _))))); (all_goals (try omega)); (all_goals (try exact xnn (by omega))); (all_goals (try exact Nat.le_of_ble_eq_true rfl)); (all_goals (try ((conv => whnf); (first | (refine hW.2.1 _ _ ?_) | (change X _ _ _ _ _ _) | (change C _ _ _ _ _ _ _))))); (all_goals (try simp only [xup_at, xup_ne, xup_up, ne_eq, Nat.reduceEqDiff, not_false_eq_true, Int.toNat_natCast, x_lcmp] at *)); (all_goals (try omega)))
      all_goals exact h5
    | succ m ih =>
      intro t g ht g1 g2
      have h5 := ih (t + 1) (xup g (61 * (k + 1) + t) 1000000) (by omega) (fun q hq => by rw [xup_ne (by omega)]; exact g1 q hq) (fun j hj => by
        by_cases q : j = t
        · rw [q, xup_at]
        · rw [xup_ne (by omega)]; exact g2 j (by omega))
      have et : (61 * ((k + 1 : Nat) : Int) + (t : Int)).toNat = 61 * (k + 1) + t := by omega
      clear hq hz hrd hrest hlow hwB hcg hls hl0 wl g1 g2 ih
      unfold zreX at *
      refine xg hW k_M_restFrom [2, 46] 40 ?_
      ((repeat' (first | (with_reducible refine And.intro ?_ ?_) | (intro h0; exact absurd h0 (by decide)) | (intro h0; exact absurd rfl h0) | (intro h0; exfalso; clear hW; omega) | (intro _) | ((conv => whnf); (first | (with_reducible refine And.intro ?_ ?_) | (intro h0; exact absurd h0 (by decide)) | (intro h0; exact absurd rfl h0) | (intro h0; exfalso; clear hW; omega) | (intro _))))); (all_goals (try omega)); (all_goals (try exact xnn (by omega))); (all_goals (try exact Nat.le_of_ble_eq_true rfl)); (all_goals (try ((conv => whnf); (first | (refine hW.2.1 _ _ ?_) | (change X _ _ _ _ _ _) | (change C _ _ _ _ _ _ _))))); (all_goals (try simp only [xup_at, xup_ne, xup_up, ne_eq, Nat.reduceEqDiff, not_false_eq_true, Int.toNat_natCast, x_lcmp] at *)); (all_goals (try omega)))
      rw [et]
      exact h5
  have h5 := far (n + 1) 0 (M 83) (by omega) (fun _ _ => rfl) (fun j hj => absurd hj (by omega))
  rw [xup_id] at h5
  clear hq hz hrd hrest hlow hwB hcg hls hl0 wl far
  unfold zreX at *
  refine xg hW k_M_restFrom [2] 40 ?_
  ((repeat' (first | (with_reducible refine And.intro ?_ ?_) | (intro h0; exact absurd h0 (by decide)) | (intro h0; exact absurd rfl h0) | (intro h0; exfalso; clear hW; omega) | (intro _) | ((conv => whnf); (first | (with_reducible refine And.intro ?_ ?_) | (intro h0; exact absurd h0 (by decide)) | (intro h0; exact absurd rfl h0) | (intro h0; exfalso; clear hW; omega) | (intro _))))); (all_goals (try omega)); (all_goals (try exact xnn (by omega))); (all_goals (try exact Nat.le_of_ble_eq_true rfl)); (all_goals (try ((conv => whnf); (first | (refine hW.2.1 _ _ ?_) | (change X _ _ _ _ _ _) | (change C _ _ _ _ _ _ _))))); (all_goals (try simp only [xup_at, xup_ne, xup_up, ne_eq, Nat.reduceEqDiff, not_false_eq_true, Int.toNat_natCast, x_lcmp] at *)); (all_goals (try omega)))
  all_goals exact h5
