/-! the reference: reading -/
def zrdX (X : xS) (D : Nat → Option xE) (nx : Nat) (pc : Nat) (v i w s : Int) (x5 : Option xV) (M : xM) : Prop := X pc [some (xR (some 64)), some (xI v), some (xI i), some (xI w), some (xI s), x5] [] (M, D, nx) 0 0
set_option maxRecDepth 100000 in
set_option maxHeartbeats 1000000 in
theorem z_rdC {M : xM} {Q : Option xV → xM → Prop} {n : Nat} {d : Nat} {D : Nat → Option xE} {nx : Nat} {X : xS} {C : xC} {P : xP} (hW : xWk d m_M_reading tb_M Q D nx X C P) (hn60 : n ≤ 60) (e13 : M 64 13 = (n : Int)) {v i w s : Int} (h : ∀ f, (∀ j, j ≤ n → f j = M 87 j) → ∀ x5, zrdX X D nx 145 v i w s x5 (xup M 84 f)) : zrdX X D nx 116 v i w s (some (xI 0)) M := by
  unfold zrdX at *
  have loop : ∀ (m t : Nat) (f : Nat → Int), t + m = n + 1 → (∀ j, j < t → f j = M 87 j) → X 116 [some (xR (some 64)), some (xI v), some (xI i), some (xI w), some (xI s), some (xI (t : Int))] [] (xup M 84 f, D, nx) 0 0 := by
    intro m
    induction m with
    | zero =>
      intro t f ht hf
      have h5 := h f (fun j hj => hf j (by omega)) (some (xI (t : Int)))
      clear h hf
      refine xg hW k_M_reading [116, 145] 40 ?_
      ((repeat' (first | (with_reducible refine And.intro ?_ ?_) | (intro h0; exact absurd h0 (by decide)) | (intro h0; exact absurd rfl h0) | (intro h0; exfalso; clear hW; omega) | (intro _) | ((conv => whnf); (first | (with_reducible refine And.intro ?_ ?_) | (intro h0; exact absurd h0 (by decide)) | (intro h0; exact absurd rfl h0) | (intro h0; exfalso; clear hW; omega) | (intro _))))); (all_goals (try omega)); (all_goals (try exact xnn (by omega))); (all_goals (try exact Nat.le_of_ble_eq_true rfl)); (all_goals (try ((conv => whnf); (first | (refine hW.2.1 _ _ ?_) | (change X _ _ _ _ _ _) | (change C _ _ _ _ _ _ _))))); (all_goals (try simp only [xup_at, xup_ne, xup_up, ne_eq, Nat.reduceEqDiff, not_false_eq_true, Int.toNat_natCast, x_lcmp] at *)); (all_goals (try omega)))
      all_goals exact h5
    | succ m ih =>
      intro t f ht hf
      have h5 := ih (t + 1) (xup f t (M 87 t)) (by omega) (fun j hj => by
        by_cases q : j = t
        · rw [q, xup_at]
        · rw [xup_ne q]; exact hf j (by omega))
      clear h ih hf
      refine xg hW k_M_reading [116, 145] 40 ?_
      ((repeat' (first | (with_reducible refine And.intro ?_ ?_) | (intro h0; exact absurd h0 (by decide)) | (intro h0; exact absurd rfl h0) | (intro h0; exfalso; clear hW; omega) | (intro _) | ((conv => whnf); (first | (with_reducible refine And.intro ?_ ?_) | (intro h0; exact absurd h0 (by decide)) | (intro h0; exact absurd rfl h0) | (intro h0; exfalso; clear hW; omega) | (intro _))))); (all_goals (try omega)); (all_goals (try exact xnn (by omega))); (all_goals (try exact Nat.le_of_ble_eq_true rfl)); (all_goals (try ((conv => whnf); (first | (refine hW.2.1 _ _ ?_) | (change X _ _ _ _ _ _) | (change C _ _ _ _ _ _ _))))); (all_goals (try simp only [xup_at, xup_ne, xup_up, ne_eq, Nat.reduceEqDiff, not_false_eq_true, Int.toNat_natCast, x_lcmp] at *)); (all_goals (try omega)))
      all_goals exact h5
  have h5 := loop (n + 1) 0 (M 84) (by omega) (fun j hj => absurd hj (by omega))
  rw [xup_id] at h5
  exact h5
set_option maxRecDepth 100000 in
set_option maxHeartbeats 1000000 in
theorem z_rdT {M : xM} {Q : Option xV → xM → Prop} {n : Nat} {d : Nat} {D : Nat → Option xE} {nx : Nat} {X : xS} {C : xC} {P : xP} (hW : xWk d m_M_reading tb_M Q D nx X C P) (hn60 : n ≤ 60) (e13 : M 64 13 = (n : Int)) {v i w s : Int} (h : ∀ f, (∀ j, j ≤ n → f j = M 84 j) → ∀ x5, zrdX X D nx 253 v i w s x5 (xup M 87 f)) : zrdX X D nx 224 v i w s (some (xI 0)) M := by
  unfold zrdX at *
  have loop : ∀ (m t : Nat) (f : Nat → Int), t + m = n + 1 → (∀ j, j < t → f j = M 84 j) → X 224 [some (xR (some 64)), some (xI v), some (xI i), some (xI w), some (xI s), some (xI (t : Int))] [] (xup M 87 f, D, nx) 0 0 := by
    intro m
    induction m with
    | zero =>
      intro t f ht hf
      have h5 := h f (fun j hj => hf j (by omega)) (some (xI (t : Int)))
      clear h hf
      refine xg hW k_M_reading [224, 253] 40 ?_
      ((repeat' (first | (with_reducible refine And.intro ?_ ?_) | (intro h0; exact absurd h0 (by decide)) | (intro h0; exact absurd rfl h0) | (intro h0; exfalso; clear hW; omega) | (intro _) | ((conv => whnf); (first | (with_reducible refine And.intro ?_ ?_) | (intro h0; exact absurd h0 (by decide)) | (intro h0; exact absurd rfl h0) | (intro h0; exfalso; clear hW; omega) | (intro _))))); (all_goals (try omega)); (all_goals (try exact xnn (by omega))); (all_goals (try exact Nat.le_of_ble_eq_true rfl)); (all_goals (try ((conv => whnf); (first | (refine hW.2.1 _ _ ?_) | (change X _ _ _ _ _ _) | (change C _ _ _ _ _ _ _))))); (all_goals (try simp only [xup_at, xup_ne, xup_up, ne_eq, Nat.reduceEqDiff, not_false_eq_true, Int.toNat_natCast, x_lcmp] at *)); (all_goals (try omega)))
      all_goals exact h5
    | succ m ih =>
      intro t f ht hf
      have h5 := ih (t + 1) (xup f t (M 84 t)) (by omega) (fun j hj => by
        by_cases q : j = t
        · rw [q, xup_at]
        · rw [xup_ne q]; exact hf j (by omega))
      clear h ih hf
      refine xg hW k_M_reading [224, 253] 40 ?_
      ((repeat' (first | (with_reducible refine And.intro ?_ ?_) | (intro h0; exact absurd h0 (by decide)) | (intro h0; exact absurd rfl h0) | (intro h0; exfalso; clear hW; omega) | (intro _) | ((conv => whnf); (first | (with_reducible refine And.intro ?_ ?_) | (intro h0; exact absurd h0 (by decide)) | (intro h0; exact absurd rfl h0) | (intro h0; exfalso; clear hW; omega) | (intro _))))); (all_goals (try omega)); (all_goals (try exact xnn (by omega))); (all_goals (try exact Nat.le_of_ble_eq_true rfl)); (all_goals (try ((conv => whnf); (first | (refine hW.2.1 _ _ ?_) | (change X _ _ _ _ _ _) | (change C _ _ _ _ _ _ _))))); (all_goals (try simp only [xup_at, xup_ne, xup_up, ne_eq, Nat.reduceEqDiff, not_false_eq_true, Int.toNat_natCast, x_lcmp] at *)); (all_goals (try omega)))
      all_goals exact h5
  have h5 := loop (n + 1) 0 (M 87) (by omega) (fun j hj => absurd hj (by omega))
  rw [xup_id] at h5
  exact h5
set_option maxRecDepth 100000 in
set_option maxHeartbeats 1000000 in
theorem z_rdI {M : xM} {Q : Option xV → xM → Prop} {n l : Nat} {d : Nat} {D : Nat → Option xE} {nx : Nat} {X : xS} {C : xC} {P : xP} (hW : xWk d m_M_reading tb_M Q D nx X C P) (hn60 : n ≤ 60) (hl : l ≤ 12) (e13 : M 64 13 = (n : Int)) {v i w : Int} (hi : M 64 26 - 1 - i = (l : Int)) (hv : xrg v) (hr : ∀ j, j ≤ n → 0 ≤ M 84 j ∧ M 84 j ≤ 1000000) (hr2 : ∀ j, j ≤ n → 0 ≤ M 83 (61 * l + j) ∧ M 83 (61 * l + j) ≤ 1000000) (h1 : (∃ j, j ≤ n ∧ M 84 j + M 83 (61 * l + j) = v) → ∀ x5, zrdX X D nx 95 v i w 1 x5 M) (h0 : ¬ (∃ j, j ≤ n ∧ M 84 j + M 83 (61 * l + j) = v) → ∀ x5, zrdX X D nx 95 v i w 0 x5 M) : zrdX X D nx 153 v i w 0 (some (xI 0)) M := by
  obtain ⟨v1, v2⟩ := hv
  have loop1 : ∀ (m t : Nat), t + m = n + 1 → (∃ j, j ≤ n ∧ M 84 j + M 83 (61 * l + j) = v) → zrdX X D nx 153 v i w 1 (some (xI (t : Int))) M := by
    intro m
    induction m with
    | zero =>
      intro t ht hx
      have h5 := h1 hx (some (xI (t : Int)))
      clear h1 h0 hx
      unfold zrdX at *
      refine xg hW k_M_reading [95, 153] 40 ?_
      ((repeat' (first | (with_reducible refine And.intro ?_ ?_) | (intro h0; exact absurd h0 (by decide)) | (intro h0; exact absurd rfl h0) | (intro h0; exfalso; clear hW; omega) | (intro _) | ((conv => whnf); (first | (with_reducible refine And.intro ?_ ?_) | (intro h0; exact absurd h0 (by decide)) | (intro h0; exact absurd rfl h0) | (intro h0; exfalso; clear hW; omega) | (intro _))))); (all_goals (try omega)); (all_goals (try exact xnn (by omega))); (all_goals (try exact Nat.le_of_ble_eq_true rfl)); (all_goals (try ((conv => whnf); (first | (refine hW.2.1 _ _ ?_) | (change X _ _ _ _ _ _) | (change C _ _ _ _ _ _ _))))); (all_goals (try simp only [xup_at, xup_ne, xup_up, ne_eq, Nat.reduceEqDiff, not_false_eq_true, Int.toNat_natCast, x_lcmp] at *)); (all_goals (try omega)))
      all_goals exact h5
    | succ m ih =>
      intro t ht hx
      have h5 := ih (t + 1) (by omega) hx
      clear h1 h0 hx ih
      unfold zrdX at *
      refine xg hW k_M_reading [95, 153] 40 ?_
      ((repeat' (first | (with_reducible refine And.intro ?_ ?_) | (intro h0; exact absurd h0 (by decide)) | (intro h0; exact absurd rfl h0) | (intro h0; exfalso; clear hW; omega) | (intro _) | ((conv => whnf); (first | (with_reducible refine And.intro ?_ ?_) | (intro h0; exact absurd h0 (by decide)) | (intro h0; exact absurd rfl h0) | (intro h0; exfalso; clear hW; omega) | (intro _))))); (all_goals (try omega)); (all_goals (try exact xnn (by omega))); (all_goals (try exact Nat.le_of_ble_eq_true rfl)); (all_goals (try ((conv => whnf); (first | (refine hW.2.1 _ _ ?_) | (change X _ _ _ _ _ _) | (change C _ _ _ _ _ _ _))))); (all_goals (try simp only [xup_at, xup_ne, xup_up, ne_eq, Nat.reduceEqDiff, not_false_eq_true, Int.toNat_natCast, x_lcmp] at *)); (all_goals (try omega)))
      all_goals exact h5
  have loop : ∀ (m t : Nat), t + m = n + 1 → (∀ j, j < t → M 84 j + M 83 (61 * l + j) ≠ v) → zrdX X D nx 153 v i w 0 (some (xI (t : Int))) M := by
    intro m
    induction m with
    | zero =>
      intro t ht hx
      have h5 := h0 (fun ⟨j, hj, e⟩ => hx j (by omega) e) (some (xI (t : Int)))
      clear h1 h0 hx loop1
      unfold zrdX at *
      refine xg hW k_M_reading [95, 153] 40 ?_
      ((repeat' (first | (with_reducible refine And.intro ?_ ?_) | (intro h0; exact absurd h0 (by decide)) | (intro h0; exact absurd rfl h0) | (intro h0; exfalso; clear hW; omega) | (intro _) | ((conv => whnf); (first | (with_reducible refine And.intro ?_ ?_) | (intro h0; exact absurd h0 (by decide)) | (intro h0; exact absurd rfl h0) | (intro h0; exfalso; clear hW; omega) | (intro _))))); (all_goals (try omega)); (all_goals (try exact xnn (by omega))); (all_goals (try exact Nat.le_of_ble_eq_true rfl)); (all_goals (try ((conv => whnf); (first | (refine hW.2.1 _ _ ?_) | (change X _ _ _ _ _ _) | (change C _ _ _ _ _ _ _))))); (all_goals (try simp only [xup_at, xup_ne, xup_up, ne_eq, Nat.reduceEqDiff, not_false_eq_true, Int.toNat_natCast, x_lcmp] at *)); (all_goals (try omega)))
      all_goals exact h5
    | succ m ih =>
      intro t ht hx
      have a1 : M 84 t + M 83 (61 * l + t) = v → zrdX X D nx 153 v i w 1 (some (xI ((t + 1 : Nat) : Int))) M := fun e => loop1 m (t + 1) (by omega) ⟨t, by omega, e⟩
      have a0 : M 84 t + M 83 (61 * l + t) ≠ v → zrdX X D nx 153 v i w 0 (some (xI ((t + 1 : Nat) : Int))) M := fun e => ih (t + 1) (by omega) (fun j hj => by
        by_cases q : j = t
        · rw [q]; exact e
        · exact hx j (by omega))
      have r1 := hr t (by omega)
      have r2 := hr2 t (by omega)
      have et : (61 * (M 64 26 - 1 - i) + (t : Int)).toNat = 61 * l + t := by omega
      rw [← et] at a1 a0 r2
      clear h1 h0 hx loop1 ih hr hr2
      unfold zrdX at *
      refine xg hW k_M_reading [95, 153] 40 ?_
      ((repeat' (first | (with_reducible refine And.intro ?_ ?_) | (intro h0; exact absurd h0 (by decide)) | (intro h0; exact absurd rfl h0) | (intro h0; exfalso; clear hW; omega) | (intro _) | ((conv => whnf); (first | (with_reducible refine And.intro ?_ ?_) | (intro h0; exact absurd h0 (by decide)) | (intro h0; exact absurd rfl h0) | (intro h0; exfalso; clear hW; omega) | (intro _))))); (all_goals (try omega)); (all_goals (try exact xnn (by omega))); (all_goals (try exact Nat.le_of_ble_eq_true rfl)); (all_goals (try ((conv => whnf); (first | (refine hW.2.1 _ _ ?_) | (change X _ _ _ _ _ _) | (change C _ _ _ _ _ _ _))))); (all_goals (try simp only [xup_at, xup_ne, xup_up, ne_eq, Nat.reduceEqDiff, not_false_eq_true, Int.toNat_natCast, x_lcmp] at *)); (all_goals (try omega)))
      all_goals first | exact a1 (by omega) | exact a0 (by omega) | trace_state
  exact loop (n + 1) 0 (by omega) (fun j hj => absurd hj (by omega))
/-- no word does better than the least -/
theorem sp_ge {M : xM} (hk : rdOk M) {v : Int} {k i w : Nat} (hv : v < 1000000) (h : rRow M k 0 = v) (hi : i < k) (hw : w < (M 3 2).toNat) (hc : M 15 w ≠ -1) : v ≤ mt (wF M w (spU M v k i)) (rRow M (k - i - 1)) (M 23 1).toNat := by
  obtain ⟨h1, h2⟩ := sp_inv hk hv h i (by omega)
  rw [show k - i = (k - i - 1) + 1 by omega, rRow] at h2
  have h3 := mt_mono (f := spU M v k i) (g := lowW M (rRow M (k - i - 1)) (M 3 2).toNat) (g' := wB M w (rRow M (k - i - 1))) (n := (M 23 1).toNat) fun j _ => lowW_le (g := rRow M (k - i - 1)) (j := j) hw hc
  rw [mt_wF (spU_cl _ i) (rRow_cl hk _)]
  omega
theorem fits_iff {M : xM} (hk : rdOk M) {v : Int} {k i w : Nat} (hv : v < 1000000) (h : rRow M k 0 = v) (hi : i < k) (hw : w < (M 3 2).toNat) (hc : M 15 w ≠ -1) : (∃ j : Nat, j ≤ (M 23 1).toNat ∧ wF M w (spU M v k i) j + rRow M (k - i - 1) j = v) ↔ fits M (spU M v k i) (rRow M (k - i - 1)) v w := by
  have hge := sp_ge hk hv h hi hw hc
  constructor
  · rintro ⟨j, hj, e⟩
    have := mt_le (f := wF M w (spU M v k i)) (g := rRow M (k - i - 1)) hj
    exact ⟨hc, by omega⟩
  · rintro ⟨-, e⟩
    obtain ⟨j, h1, h2⟩ := mt_at (f := wF M w (spU M v k i)) (g := rRow M (k - i - 1)) (M 23 1).toNat
    exact ⟨j, h1, by omega⟩
theorem fstW_first {M : xM} {f g : Nat → Int} {v : Int} : ∀ m w w' : Nat, w ≤ w' → w' < fstW M f g v m w → ¬ fits M f g v w'
  | 0, w, w', h1, h2 => by rw [fstW] at h2; omega
  | m + 1, w, w', h1, h2 => by
    rw [fstW] at h2
    split at h2
    · omega
    · rename_i hn
      by_cases q : w' = w
      · rw [q]; exact hn
      · exact fstW_first m (w + 1) w' (by omega) h2
set_option maxRecDepth 100000 in
set_option maxHeartbeats 2000000 in
theorem z_rdW {M0 M : xM} {Q : Option xV → xM → Prop} {n K i : Nat} {v : Int} {d : Nat} {D : Nat → Option xE} {nx : Nat} {X : xS} {C : xC} {P : xP} (hd : 3 < d) (hW : xWk d m_M_reading tb_M Q D nx X C P) (hz : zR M0) (hn : M0 23 1 = (n : Int)) (hv : 0 ≤ v ∧ v ≤ 180) (hvK : rRow M0 K 0 = v) (hK : K ≤ 12) (hi : i < K) (hfr : rdF M0 M) (h26 : M 64 26 = (K : Int)) (hrest : ∀ k, k ≤ 12 → ∀ j, j ≤ n → M 83 (61 * k + j) = rRow M0 k j) (h87 : ∀ j, j ≤ n → M 87 j = spU M0 v K i j)
    (h : ∀ M', rdF M0 M' → M' 83 = M 83 → M' 64 = M 64 → M' 86 = M 86 → M' 87 = M 87 → (∀ j, j ≤ n → M' 84 j = wF M0 (spW M0 v K i) (spU M0 v K i) j) → ∀ x5, zrdX X D nx 95 v (i : Int) (spW M0 v K i : Int) 1 x5 M') : ∀ (m w : Nat) (M' : xM) (x5 : Option xV), w + m = spW M0 v K i → rdF M0 M' → M' 83 = M 83 → M' 64 = M 64 → M' 86 = M 86 → M' 87 = M 87 → zrdX X D nx 95 v (i : Int) ((w : Int) - 1) 0 x5 M' := by
  have hrd := hz.rd
  have n60 := hrd.1.2.1
  have w10 := hrd.2.2.2
  have e64 : M0 64 0 = M0 3 2 := hz.1.1.2.2.2.1.1
  have hv6 : v < 1000000 := by omega
  obtain ⟨hspf, hspw⟩ := sp_word hrd hv6 hvK hi
  have hsrg := (sp_inv hrd hv6 hvK i (by omega)).1
  intro m w M' x5 hwm f1 f2 f3 f4 f5
  have step : ∀ (w : Nat) (M' : xM) (x5 : Option xV), w ≤ spW M0 v K i → rdF M0 M' → M' 83 = M 83 → M' 64 = M 64 → M' 86 = M 86 → M' 87 = M 87 → (w < spW M0 v K i → ∀ M'' x5, rdF M0 M'' → M'' 83 = M 83 → M'' 64 = M 64 → M'' 86 = M 86 → M'' 87 = M 87 → zrdX X D nx 95 v (i : Int) (w : Int) 0 x5 M'') → zrdX X D nx 95 v (i : Int) ((w : Int) - 1) 0 x5 M' := by
    intro w M' x5 hle f1 f2 f3 f4 f5 next
    have hwn : w < (M0 3 2).toNat := by omega
    have g13 : M' 64 13 = (n : Int) := by rw [f1.2 13 (by decide), hz.2.1.1]; exact hn
    have g74 : M' 74 w = M0 15 w := by rw [f1.1 74 (by omega)]; exact hz.1.2.2.1 w (by omega)
    have rg := hrd.2.1 w (by omega)
    have ew : (((w : Int) - 1) + 1).toNat = w := by omega
    by_cases c : M0 15 w = -1
    · have hne : w < spW M0 v K i := by
        rcases Nat.lt_or_ge w (spW M0 v K i) with q | q
        · exact q
        · have : w = spW M0 v K i := by omega
          rw [← this] at hspf
          exact absurd c hspf.1
      have h5 := next hne M' x5 f1 f2 f3 f4 f5
      rw [c] at g74
      have g74' : M' 74 (((w : Int) - 1) + 1).toNat = -1 := by rw [ew]; exact g74
      clear h next hz hrd hrest h87 hspf hsrg hfr f1 rg
      unfold zrdX at *
      refine xg hW k_M_reading [95, 116] 40 ?_
      ((repeat' (first | (with_reducible refine And.intro ?_ ?_) | (intro h0; exact absurd h0 (by decide)) | (intro h0; exact absurd rfl h0) | (intro h0; exfalso; clear hW; omega) | (intro _) | ((conv => whnf); (first | (with_reducible refine And.intro ?_ ?_) | (intro h0; exact absurd h0 (by decide)) | (intro h0; exact absurd rfl h0) | (intro h0; exfalso; clear hW; omega) | (intro _))))); (all_goals (try omega)); (all_goals (try exact xnn (by omega))); (all_goals (try exact Nat.le_of_ble_eq_true rfl)); (all_goals (try ((conv => whnf); (first | (refine hW.2.1 _ _ ?_) | (change X _ _ _ _ _ _) | (change C _ _ _ _ _ _ _))))); (all_goals (try simp only [xup_at, xup_ne, xup_up, ne_eq, Nat.reduceEqDiff, not_false_eq_true, Int.toNat_natCast, x_lcmp] at *)); (all_goals (try omega)))
      rw [show (w : Int) - 1 + 1 = (w : Int) by omega]
      exact h5
    · have cne : M' 74 (((w : Int) - 1) + 1).toNat ≠ -1 := by rw [ew, g74]; exact c
      have r74 : -1 ≤ M' 74 (((w : Int) - 1) + 1).toNat ∧ M' 74 (((w : Int) - 1) + 1).toNat < 31 := by rw [ew, g74]; exact ⟨rg.1, rg.2.1⟩
      have p145 : ∀ f, (∀ j, j ≤ n → f j = M' 87 j) → ∀ x5, zrdX X D nx 145 v (i : Int) (w : Int) 0 x5 (xup M' 84 f) := by
        intro f hf x5
        have hf' : ∀ j, j ≤ n → f j = spU M0 v K i j := fun j hj => by rw [hf j hj, f5]; exact h87 j hj
        have fr2 : rdF M0 (xup M' 84 f) := rdF_up f1 (by decide) (by decide)
        have frE2 : frE M0 (xup M' 84 f) := fun a ha => fr2.1 a (by omega)
        have hz2 : zR (xup M' 84 f) := zR_fr fr2 hz
        have e23 : xup M' 84 f 23 1 = (n : Int) := by rw [frE2 23 (by decide)]; exact hn
        have cb : ∀ Q' : Option xV → xM → Prop, (∀ M3, (∀ a, a ≠ 84 → a ≠ 85 → M3 a = M' a) → (∀ j : Nat, j ≤ n → M3 84 j = wF M0 w (spU M0 v K i) j) → Q' none M3) → xm 3 m_M_behind [xR (some 64), xI (w : Int)] (xup M' 84 f) Q' := fun Q' h => by
          refine z_behind hz2.1 hz2.2.1 hz2.2.2 (by rw [frE2 3 (by decide)]; omega) (by rw [frE2 15 (by decide)]; exact c) ?_ (fun j hj => ?_) (fun M3 a b => h M3 (fun x x1 x2 => by rw [a x x1 x2, xup_ne x1]) (fun j hj => ?_))
          · rw [e23, Int.toNat_natCast, xup_at]
            intro j hj
            rw [hf' j (by omega), hf' (j + 1) (by omega)]
            exact spU_cl n i j hj
          · rw [xup_at, hf' j (by omega)]
            have := hsrg j (by omega)
            omega
          · rw [b j (by omega), wF_fr frE2, xup_at]
            exact wF_congr w (by omega) (fun j hj => hf' j (by omega)) j (by omega)
        have p150 : ∀ M3, (∀ a, a ≠ 84 → a ≠ 85 → M3 a = M' a) → (∀ j : Nat, j ≤ n → M3 84 j = wF M0 w (spU M0 v K i) j) → zrdX X D nx 153 v (i : Int) (w : Int) 0 (some (xI 0)) M3 := by
          intro M3 a b
          have a83 : M3 83 = M 83 := by rw [a 83 (by decide) (by decide)]; exact f2
          have a64 : M3 64 = M 64 := by rw [a 64 (by decide) (by decide)]; exact f3
          have a86 : M3 86 = M 86 := by rw [a 86 (by decide) (by decide)]; exact f4
          have a87 : M3 87 = M 87 := by rw [a 87 (by decide) (by decide)]; exact f5
          have f1' : rdF M0 M3 := ⟨fun x hx => by rw [a x (by omega) (by omega)]; exact f1.1 x hx, fun j hj => by rw [a 64 (by decide) (by decide)]; exact f1.2 j hj⟩
          have iff : (∃ j, j ≤ n ∧ M3 84 j + M3 83 (61 * (K - i - 1) + j) = v) ↔ fits M0 (spU M0 v K i) (rRow M0 (K - i - 1)) v w := by
            rw [← fits_iff hrd hv6 hvK hi hwn c, hn, Int.toNat_natCast]
            constructor
            · rintro ⟨j, hj, e⟩
              rw [a83, b j hj, hrest _ (by omega) j hj] at e
              exact ⟨j, hj, e⟩
            · rintro ⟨j, hj, e⟩
              refine ⟨j, hj, ?_⟩
              rw [a83, b j hj, hrest _ (by omega) j hj]
              exact e
          refine z_rdI (l := K - i - 1) hW (show n ≤ 60 by omega) (by omega) (by rw [a64, ← f3]; exact g13) (by rw [a64, h26]; omega) ⟨by omega, by omega⟩ (fun j hj => ?_) (fun j hj => ?_) (fun hx x5 => ?_) (fun hx x5 => ?_)
          · rw [b j hj]
            have := wF_rg hrd (show w < 10 by omega) c hsrg j (by omega)
            omega
          · rw [a83, hrest _ (by omega) j hj]
            exact rRow_rg hrd _ j (by omega)
          · have hfit := iff.mp hx
            have e : w = spW M0 v K i := by
              rcases Nat.lt_or_ge w (spW M0 v K i) with q | q
              · exact absurd hfit (fstW_first _ _ _ (Nat.zero_le _) q)
              · omega
            rw [e]
            exact h M3 f1' a83 a64 a86 a87 (fun j hj => by rw [b j hj, e]) x5
          · have hne : w < spW M0 v K i := by
              rcases Nat.lt_or_ge w (spW M0 v K i) with q | q
              · exact q
              · have : w = spW M0 v K i := by omega
                rw [← this] at hspf
                exact absurd (iff.mpr hspf) hx
            exact next hne M3 x5 f1' a83 a64 a86 a87
        clear h next hz hrd hrest h87 hspf hsrg hfr f1 rg hz2 frE2 fr2 hf hf'
        unfold zrdX at *
        refine xg hW k_M_reading [153] 40 ?_
        ((repeat' (first | (with_reducible refine And.intro ?_ ?_) | (intro h0; exact absurd h0 (by decide)) | (intro h0; exact absurd rfl h0) | (intro h0; exfalso; clear hW; omega) | (intro _) | ((conv => whnf); (first | (with_reducible refine And.intro ?_ ?_) | (intro h0; exact absurd h0 (by decide)) | (intro h0; exact absurd rfl h0) | (intro h0; exfalso; clear hW; omega) | (intro _))))); (all_goals (try omega)); (all_goals (try exact xnn (by omega))); (all_goals (try exact Nat.le_of_ble_eq_true rfl)); (all_goals (try ((conv => whnf); (first | (refine hW.2.1 _ _ ?_) | (change X _ _ _ _ _ _) | (change C _ _ _ _ _ _ _))))); (all_goals (try simp only [xup_at, xup_ne, xup_up, ne_eq, Nat.reduceEqDiff, not_false_eq_true, Int.toNat_natCast, x_lcmp] at *)); (all_goals (try omega)))
        refine hW.1 _ _ _ _ _ _ (cb _ (fun M3 a b => ?_)) (by omega) (by decide) (Nat.le_of_ble_eq_true rfl)
        have h5 := p150 M3 a b
        clear p150 cb
        ((repeat' (first | (with_reducible refine And.intro ?_ ?_) | (intro h0; exact absurd h0 (by decide)) | (intro h0; exact absurd rfl h0) | (intro h0; exfalso; clear hW; omega) | (intro _) | ((conv => whnf); (first | (with_reducible refine And.intro ?_ ?_) | (intro h0; exact absurd h0 (by decide)) | (intro h0; exact absurd rfl h0) | (intro h0; exfalso; clear hW; omega) | (intro _))))); (all_goals (try omega)); (all_goals (try exact xnn (by omega))); (all_goals (try exact Nat.le_of_ble_eq_true rfl)); (all_goals (try ((conv => whnf); (first | (refine hW.2.1 _ _ ?_) | (change X _ _ _ _ _ _) | (change C _ _ _ _ _ _ _))))); (all_goals (try simp only [xup_at, xup_ne, xup_up, ne_eq, Nat.reduceEqDiff, not_false_eq_true, Int.toNat_natCast, x_lcmp] at *)); (all_goals (try omega)))
        all_goals exact h5
      have h5 := z_rdC (s := 0) hW (show n ≤ 60 by omega) g13 p145
      clear h next hz hrd hrest h87 hspf hsrg hfr f1 rg p145
      unfold zrdX at *
      refine xg hW k_M_reading [95, 116] 40 ?_
      ((repeat' (first | (with_reducible refine And.intro ?_ ?_) | (intro h0; exact absurd h0 (by decide)) | (intro h0; exact absurd rfl h0) | (intro h0; exfalso; clear hW; omega) | (intro _) | ((conv => whnf); (first | (with_reducible refine And.intro ?_ ?_) | (intro h0; exact absurd h0 (by decide)) | (intro h0; exact absurd rfl h0) | (intro h0; exfalso; clear hW; omega) | (intro _))))); (all_goals (try omega)); (all_goals (try exact xnn (by omega))); (all_goals (try exact Nat.le_of_ble_eq_true rfl)); (all_goals (try ((conv => whnf); (first | (refine hW.2.1 _ _ ?_) | (change X _ _ _ _ _ _) | (change C _ _ _ _ _ _ _))))); (all_goals (try simp only [xup_at, xup_ne, xup_up, ne_eq, Nat.reduceEqDiff, not_false_eq_true, Int.toNat_natCast, x_lcmp] at *)); (all_goals (try omega)))
      rw [show (w : Int) - 1 + 1 = (w : Int) by omega]
      exact h5
  have all : ∀ (m w : Nat) (M' : xM) (x5 : Option xV), w + m = spW M0 v K i → rdF M0 M' → M' 83 = M 83 → M' 64 = M 64 → M' 86 = M 86 → M' 87 = M 87 → zrdX X D nx 95 v (i : Int) ((w : Int) - 1) 0 x5 M' := by
    intro m
    induction m with
    | zero => exact fun w M' x5 hw f1 f2 f3 f4 f5 => step w M' x5 (by omega) f1 f2 f3 f4 f5 (fun q => absurd q (by omega))
    | succ m ih =>
      intro w M' x5 hw f1 f2 f3 f4 f5
      refine step w M' x5 (by omega) f1 f2 f3 f4 f5 (fun _ M'' x5 g1 g2 g3 g4 g5 => ?_)
      have := ih (w + 1) M'' x5 (by omega) g1 g2 g3 g4 g5
      rw [show ((w + 1 : Nat) : Int) - 1 = (w : Int) by omega] at this
      exact this
  exact all m w M' x5 hwm f1 f2 f3 f4 f5
set_option maxRecDepth 100000 in
set_option maxHeartbeats 2000000 in
theorem z_reading {M0 : xM} {Q : Option xV → xM → Prop} (hz : zR M0) (hq : ∀ M', rdF M0 M' → M' 64 26 = (bK M0 : Int) → (∀ i, i < bK M0 → M' 86 i = (spW M0 (bV M0) (bK M0) i : Int)) → Q (some (xI (bV M0))) M') : xm 5 m_M_reading [xR (some 64)] M0 Q := by
  have hrd := hz.rd
  obtain ⟨n, hn⟩ := Int.eq_ofNat_of_zero_le hrd.1.1
  have n60 := hrd.1.2.1
  have w0 := hrd.2.2.1
  have w10 := hrd.2.2.2
  have e13 : M0 64 13 = (n : Int) := by rw [hz.2.1.1]; exact hn
  have hbV := bV_rg hrd
  have hbK := bK_le M0
  obtain ⟨K, hKe⟩ : ∃ K, K = bK M0 := ⟨_, rfl⟩
  obtain ⟨v, hve⟩ : ∃ v, v = bV M0 := ⟨_, rfl⟩
  have hvK : rRow M0 K 0 = v := by rw [hKe, hve]; rfl
  rw [← hKe, ← hve] at hq
  rw [← hKe] at hbK
  rw [← hve] at hbV
  obtain ⟨r, hr⟩ : ∃ r : Nat → Int, r = fun k => rRow M0 k 0 := ⟨_, rfl⟩
  have hrr : ∀ k, 0 ≤ r k ∧ r k ≤ 1000000 := fun k => by rw [hr]; exact rRow_rg hrd k 0 (by omega)
  have hr0 : r 0 = 3 * (n : Int) := by rw [hr]; show 3 * (M0 23 1 - ((0 : Nat) : Int)) = 3 * (n : Int); omega
  have hK12 : bcK r 12 = K := by rw [hr, hKe]; rfl
  have hrk : ∀ k, rRow M0 k 0 = r k := fun k => by rw [hr]
  clear hr
  (refine xm_of (own := "DrumTongueModel") rfl (by decide +kernel) tk_M [some (xR (some 64)), none, none, none, none, none] (Nat.le_of_ble_eq_true rfl) rfl ?_; intro D nx X C P hW)
  -- the words are spelled
  have spell : ∀ (m i : Nat) (M' : xM), i + m = K → rdF M0 M' → M' 64 26 = (K : Int) → (∀ k, k ≤ 12 → ∀ j, j ≤ n → M' 83 (61 * k + j) = rRow M0 k j) → (∀ j, j ≤ n → M' 87 j = spU M0 v K i j) → (∀ q, q < i → M' 86 q = (spW M0 v K q : Int)) → ∀ x3 x4 x5, X 82 [some (xR (some 64)), some (xI v), some (xI (i : Int)), x3, x4, x5] [] (M', D, nx) 0 0 := by
    intro m
    induction m with
    | zero =>
      intro i M' hi fr h26 h83 h87 h86 x3 x4 x5
      obtain rfl : i = K := by omega
      have h5 := hq M' fr h26 h86
      clear hq hz hrd h83 h87 h86 hrr hvK hKe hve
      refine xg hW k_M_reading [82] 40 ?_
      ((repeat' (first | (with_reducible refine And.intro ?_ ?_) | (intro h0; exact absurd h0 (by decide)) | (intro h0; exact absurd rfl h0) | (intro h0; exfalso; clear hW; omega) | (intro _) | ((conv => whnf); (first | (with_reducible refine And.intro ?_ ?_) | (intro h0; exact absurd h0 (by decide)) | (intro h0; exact absurd rfl h0) | (intro h0; exfalso; clear hW; omega) | (intro _))))); (all_goals (try omega)); (all_goals (try exact xnn (by omega))); (all_goals (try exact Nat.le_of_ble_eq_true rfl)); (all_goals (try ((conv => whnf); (first | (refine hW.2.1 _ _ ?_) | (change X _ _ _ _ _ _) | (change C _ _ _ _ _ _ _))))); (all_goals (try simp only [xup_at, xup_ne, xup_up, ne_eq, Nat.reduceEqDiff, not_false_eq_true, Int.toNat_natCast, x_lcmp] at *)); (all_goals (try omega)))
      all_goals exact h5
    | succ m ih =>
      intro i M' hi fr h26 h83 h87 h86 x3 x4 x5
      obtain ⟨-, hspw⟩ := sp_word hrd (show v < 1000000 by omega) hvK (show i < K by omega)
      have p95 : ∀ M2, rdF M0 M2 → M2 83 = M' 83 → M2 64 = M' 64 → M2 86 = M' 86 → M2 87 = M' 87 → (∀ j, j ≤ n → M2 84 j = wF M0 (spW M0 v K i) (spU M0 v K i) j) → ∀ x5, zrdX X D nx 95 v (i : Int) (spW M0 v K i : Int) 1 x5 M2 := by
        intro M2 g1 g2 g3 g4 g5 g6 x5
        have p224 : zrdX X D nx 224 v (i : Int) (spW M0 v K i : Int) 1 (some (xI 0)) (xup M2 86 (xup (M2 86) i (spW M0 v K i : Int))) := by
          refine z_rdT hW (show n ≤ 60 by omega) (by rw [xup_ne (by decide), g1.2 13 (by decide)]; exact e13) (fun f hf x5 => ?_)
          have h5 := ih (i + 1) (xup (xup M2 86 (xup (M2 86) i (spW M0 v K i : Int))) 87 f) (by omega) (rdF_up (rdF_up g1 (by decide) (by decide)) (by decide) (by decide)) (by rw [xup_ne (by decide), xup_ne (by decide), g3]; exact h26) (fun k hk j hj => by rw [xup_ne (by decide), xup_ne (by decide), g2]; exact h83 k hk j hj) (fun j hj => by rw [xup_at, hf j hj, xup_ne (by decide), g6 j hj]; rfl) (fun q hq => by
            rw [xup_ne (by decide), xup_at]
            by_cases c : q = i
            · rw [c, xup_at]
            · rw [xup_ne c, g4]; exact h86 q (by omega)) (some (xI (spW M0 v K i : Int))) (some (xI 1)) x5
          clear hq hz hrd h83 h87 h86 hrr hvK hKe hve ih g1 g2 g3 g4 g5 g6 hf
          generalize spW M0 v K i = w at *
          unfold zrdX
          refine xg hW k_M_reading [82] 40 ?_
          ((repeat' (first | (with_reducible refine And.intro ?_ ?_) | (intro h0; exact absurd h0 (by decide)) | (intro h0; exact absurd rfl h0) | (intro h0; exfalso; clear hW; omega) | (intro _) | ((conv => whnf); (first | (with_reducible refine And.intro ?_ ?_) | (intro h0; exact absurd h0 (by decide)) | (intro h0; exact absurd rfl h0) | (intro h0; exfalso; clear hW; omega) | (intro _))))); (all_goals (try omega)); (all_goals (try exact xnn (by omega))); (all_goals (try exact Nat.le_of_ble_eq_true rfl)); (all_goals (try ((conv => whnf); (first | (refine hW.2.1 _ _ ?_) | (change X _ _ _ _ _ _) | (change C _ _ _ _ _ _ _))))); (all_goals (try simp only [xup_at, xup_ne, xup_up, ne_eq, Nat.reduceEqDiff, not_false_eq_true, Int.toNat_natCast, x_lcmp] at *)); (all_goals (try omega)))
          all_goals exact h5
        clear hq hz hrd h83 h87 h86 hrr hvK hKe hve ih g1 g2 g3 g4 g5 g6
        generalize spW M0 v K i = w at *
        unfold zrdX at *
        refine xg hW k_M_reading [95, 224] 40 ?_
        ((repeat' (first | (with_reducible refine And.intro ?_ ?_) | (intro h0; exact absurd h0 (by decide)) | (intro h0; exact absurd rfl h0) | (intro h0; exfalso; clear hW; omega) | (intro _) | ((conv => whnf); (first | (with_reducible refine And.intro ?_ ?_) | (intro h0; exact absurd h0 (by decide)) | (intro h0; exact absurd rfl h0) | (intro h0; exfalso; clear hW; omega) | (intro _))))); (all_goals (try omega)); (all_goals (try exact xnn (by omega))); (all_goals (try exact Nat.le_of_ble_eq_true rfl)); (all_goals (try ((conv => whnf); (first | (refine hW.2.1 _ _ ?_) | (change X _ _ _ _ _ _) | (change C _ _ _ _ _ _ _))))); (all_goals (try simp only [xup_at, xup_ne, xup_up, ne_eq, Nat.reduceEqDiff, not_false_eq_true, Int.toNat_natCast, x_lcmp] at *)); (all_goals (try omega)))
        all_goals exact p224
      have h5 := z_rdW (x5 := x5) (M := M') (K := K) (i := i) (n := n) (v := v) (by decide) hW hz hn hbV hvK hbK (by omega) fr h26 h83 h87 p95 (spW M0 v K i) 0 M'
      replace h5 := fun x5 => z_rdW (M := M') (K := K) (i := i) (n := n) (v := v) (by decide) hW hz hn hbV hvK hbK (by omega) fr h26 h83 h87 p95 (spW M0 v K i) 0 M' x5 (by omega) fr rfl rfl rfl rfl
      clear hq hz hrd h83 h87 h86 hrr hvK hKe hve ih p95
      unfold zrdX at *
      refine xg hW k_M_reading [82, 95] 40 ?_
      ((repeat' (first | (with_reducible refine And.intro ?_ ?_) | (intro h0; exact absurd h0 (by decide)) | (intro h0; exact absurd rfl h0) | (intro h0; exfalso; clear hW; omega) | (intro _) | ((conv => whnf); (first | (with_reducible refine And.intro ?_ ?_) | (intro h0; exact absurd h0 (by decide)) | (intro h0; exact absurd rfl h0) | (intro h0; exfalso; clear hW; omega) | (intro _))))); (all_goals (try omega)); (all_goals (try exact xnn (by omega))); (all_goals (try exact Nat.le_of_ble_eq_true rfl)); (all_goals (try ((conv => whnf); (first | (refine hW.2.1 _ _ ?_) | (change X _ _ _ _ _ _) | (change C _ _ _ _ _ _ _))))); (all_goals (try simp only [xup_at, xup_ne, xup_up, ne_eq, Nat.reduceEqDiff, not_false_eq_true, Int.toNat_natCast, x_lcmp] at *)); (all_goals (try omega)))
      exact h5 x5
  -- the row of the front
  have till : ∀ (m t : Nat) (f : Nat → Int) (M' : xM), t + m = n + 1 → rdF M0 M' → M' 64 26 = (K : Int) → (∀ k, k ≤ 12 → ∀ j, j ≤ n → M' 83 (61 * k + j) = rRow M0 k j) → (∀ j, j < t → f j = 3 * (j : Int)) → ∀ x3 x4 x5, X 57 [some (xR (some 64)), some (xI v), some (xI (t : Int)), x3, x4, x5] [] (xup M' 87 f, D, nx) 0 0 := by
    intro m
    induction m with
    | zero =>
      intro t f M' ht fr h26 h83 hf x3 x4 x5
      have h5 := spell K 0 (xup M' 87 f) (by omega) (rdF_up fr (by decide) (by decide)) (by rw [xup_ne (by decide)]; exact h26) (fun k hk j hj => by rw [xup_ne (by decide)]; exact h83 k hk j hj) (fun j hj => by rw [xup_at, hf j (by omega)]; rfl) (fun q hq => absurd hq (by omega)) x3 x4 x5
      have g13 : M' 64 13 = (n : Int) := by rw [fr.2 13 (by decide)]; exact e13
      clear hq hz hrd h83 hf hrr hvK hKe hve spell fr
      refine xg hW k_M_reading [57, 82] 40 ?_
      ((repeat' (first | (with_reducible refine And.intro ?_ ?_) | (intro h0; exact absurd h0 (by decide)) | (intro h0; exact absurd rfl h0) | (intro h0; exfalso; clear hW; omega) | (intro _) | ((conv => whnf); (first | (with_reducible refine And.intro ?_ ?_) | (intro h0; exact absurd h0 (by decide)) | (intro h0; exact absurd rfl h0) | (intro h0; exfalso; clear hW; omega) | (intro _))))); (all_goals (try omega)); (all_goals (try exact xnn (by omega))); (all_goals (try exact Nat.le_of_ble_eq_true rfl)); (all_goals (try ((conv => whnf); (first | (refine hW.2.1 _ _ ?_) | (change X _ _ _ _ _ _) | (change C _ _ _ _ _ _ _))))); (all_goals (try simp only [xup_at, xup_ne, xup_up, ne_eq, Nat.reduceEqDiff, not_false_eq_true, Int.toNat_natCast, x_lcmp] at *)); (all_goals (try omega)))
      all_goals exact h5
    | succ m ih =>
      intro t f M' ht fr h26 h83 hf x3 x4 x5
      have h5 := ih (t + 1) (xup f t (3 * (t : Int))) M' (by omega) fr h26 h83 (fun j hj => by
        by_cases q : j = t
        · rw [q, xup_at]
        · rw [xup_ne q]; exact hf j (by omega)) x3 x4 x5
      have g13 : M' 64 13 = (n : Int) := by rw [fr.2 13 (by decide)]; exact e13
      clear hq hz hrd h83 hf hrr hvK hKe hve spell fr ih
      refine xg hW k_M_reading [57, 82] 40 ?_
      ((repeat' (first | (with_reducible refine And.intro ?_ ?_) | (intro h0; exact absurd h0 (by decide)) | (intro h0; exact absurd rfl h0) | (intro h0; exfalso; clear hW; omega) | (intro _) | ((conv => whnf); (first | (with_reducible refine And.intro ?_ ?_) | (intro h0; exact absurd h0 (by decide)) | (intro h0; exact absurd rfl h0) | (intro h0; exfalso; clear hW; omega) | (intro _))))); (all_goals (try omega)); (all_goals (try exact xnn (by omega))); (all_goals (try exact Nat.le_of_ble_eq_true rfl)); (all_goals (try ((conv => whnf); (first | (refine hW.2.1 _ _ ?_) | (change X _ _ _ _ _ _) | (change C _ _ _ _ _ _ _))))); (all_goals (try simp only [xup_at, xup_ne, xup_up, ne_eq, Nat.reduceEqDiff, not_false_eq_true, Int.toNat_natCast, x_lcmp] at *)); (all_goals (try omega)))
      all_goals exact h5
  -- the counts
  have cnts : ∀ (m k : Nat) (M' : xM), k + m = 12 → rdF M0 M' → M' 64 26 = (bcK r k : Int) → (∀ k', k' ≤ k → ∀ j, j ≤ n → M' 83 (61 * k' + j) = rRow M0 k' j) → ∀ x3 x4 x5, X 10 [some (xR (some 64)), some (xI (r (bcK r k))), some (xI ((k + 1 : Nat) : Int)), x3, x4, x5] [] (M', D, nx) 0 0 := by
    intro m
    induction m with
    | zero =>
      intro k M' hk fr h26 h83 x3 x4 x5
      obtain rfl : k = 12 := by omega
      have h5 := till (n + 1) 0 (M' 87) M' (by omega) fr (by rw [h26, hK12]) h83 (fun j hj => absurd hj (by omega)) x3 x4 x5
      rw [xup_id] at h5
      have ev : r (bcK r 12) = v := by rw [hK12, ← hrk K]; exact hvK
      rw [ev]
      clear hq hz hrd h83 hrr hvK hKe hve spell fr till hK12 ev
      refine xg hW k_M_reading [10, 57] 40 ?_
      ((repeat' (first | (with_reducible refine And.intro ?_ ?_) | (intro h0; exact absurd h0 (by decide)) | (intro h0; exact absurd rfl h0) | (intro h0; exfalso; clear hW; omega) | (intro _) | ((conv => whnf); (first | (with_reducible refine And.intro ?_ ?_) | (intro h0; exact absurd h0 (by decide)) | (intro h0; exact absurd rfl h0) | (intro h0; exfalso; clear hW; omega) | (intro _))))); (all_goals (try omega)); (all_goals (try exact xnn (by omega))); (all_goals (try exact Nat.le_of_ble_eq_true rfl)); (all_goals (try ((conv => whnf); (first | (refine hW.2.1 _ _ ?_) | (change X _ _ _ _ _ _) | (change C _ _ _ _ _ _ _))))); (all_goals (try simp only [xup_at, xup_ne, xup_up, ne_eq, Nat.reduceEqDiff, not_false_eq_true, Int.toNat_natCast, x_lcmp] at *)); (all_goals (try omega)))
      all_goals exact h5
    | succ m ih =>
      intro k M' hk fr h26 h83 x3 x4 x5
      have frE1 : frE M0 M' := fun a ha => fr.1 a (by omega)
      have cr : ∀ Q' : Option xV → xM → Prop, (∀ M'', rdF M0 M'' → M'' 64 = M' 64 → (∀ k', k' ≤ k + 1 → ∀ j, j ≤ n → M'' 83 (61 * k' + j) = rRow M0 k' j) → Q' none M'') → xm 4 m_M_restFrom [xR (some 64), xI ((k + 1 : Nat) : Int)] M' Q' := fun Q' h => by
        have e23 : M' 23 1 = (n : Int) := by rw [frE1 23 (by decide)]; exact hn
        refine z_restS (zR_fr fr hz) (by omega) (fun j hj => by rw [rRow_fr frE1]; exact h83 k (Nat.le_refl _) j (by omega)) (fun M'' a b c => h M'' ⟨fun x hx => by rw [a x (by omega) (by omega) (by omega)]; exact fr.1 x hx, fun j hj => by rw [a 64 (by decide) (by decide) (by decide)]; exact fr.2 j hj⟩ (a 64 (by decide) (by decide) (by decide)) (fun k' hk' j hj => ?_))
        by_cases q : k' = k + 1
        · rw [q, c j (by omega), rRow_fr frE1]
        · rw [b _ (by omega)]
          exact h83 k' (by omega) j hj
      have next : ∀ M'', rdF M0 M'' → (∀ k', k' ≤ k + 1 → ∀ j, j ≤ n → M'' 83 (61 * k' + j) = rRow M0 k' j) → M'' 64 26 = (bcK r (k + 1) : Int) → ∀ x3 x4 x5, X 10 [some (xR (some 64)), some (xI (r (bcK r (k + 1)))), some (xI ((k + 1 + 1 : Nat) : Int)), x3, x4, x5] [] (M'', D, nx) 0 0 := fun M'' a b c => ih (k + 1) M'' (by omega) a c b
      rw [bcK] at next
      have r1 := hrr (k + 1)
      have r2 := hrr (bcK r k)
      have hb12 := bcK_le r k
      refine xg hW k_M_reading [10, 57] 40 ?_
      ((repeat' (first | (with_reducible refine And.intro ?_ ?_) | (intro h0; exact absurd h0 (by decide)) | (intro h0; exact absurd rfl h0) | (intro h0; exfalso; clear hW; omega) | (intro _) | ((conv => whnf); (first | (with_reducible refine And.intro ?_ ?_) | (intro h0; exact absurd h0 (by decide)) | (intro h0; exact absurd rfl h0) | (intro h0; exfalso; clear hW; omega) | (intro _))))); (all_goals (try omega)); (all_goals (try exact xnn (by omega))); (all_goals (try exact Nat.le_of_ble_eq_true rfl)); (all_goals (try ((conv => whnf); (first | (refine hW.2.1 _ _ ?_) | (change X _ _ _ _ _ _) | (change C _ _ _ _ _ _ _))))); (all_goals (try simp only [xup_at, xup_ne, xup_up, ne_eq, Nat.reduceEqDiff, not_false_eq_true, Int.toNat_natCast, x_lcmp] at *)); (all_goals (try omega)))
      all_goals (try (refine hW.1 _ _ _ _ _ _ (cr _ (fun M2 g1 g2 g3 => ?_)) (by decide) (by decide) (Nat.le_of_ble_eq_true rfl)))
      have e0 : M2 83 (61 * (k + 1)) = r (k + 1) := by
        have := g3 (k + 1) (Nat.le_refl _) 0 (by omega)
        rw [Nat.add_zero] at this
        rw [this, hrk]
      have ei : (61 * ((k + 1 : Nat) : Int)).toNat = 61 * (k + 1) := by omega
      have n1 : r (k + 1) < r (bcK r k) → ∀ x3 x4 x5, X 10 [some (xR (some 64)), some (xI (r (k + 1))), some (xI ((k + 1 + 1 : Nat) : Int)), x3, x4, x5] [] (xup M2 64 (xup (M2 64) 26 ((k + 1 : Nat) : Int)), D, nx) 0 0 := fun q => by
        have := next (xup M2 64 (xup (M2 64) 26 ((k + 1 : Nat) : Int))) ⟨fun x hx => by rw [xup_ne (by omega)]; exact g1.1 x hx, fun j hj => by rw [xup_at, xup_ne hj]; exact g1.2 j hj⟩ (fun k' hk' j hj => by rw [xup_ne (by decide)]; exact g3 k' hk' j hj) (by rw [xup_at, xup_at, if_pos q])
        rw [if_pos q] at this
        exact this
      have n0 : ¬ r (k + 1) < r (bcK r k) → ∀ x3 x4 x5, X 10 [some (xR (some 64)), some (xI (r (bcK r k))), some (xI ((k + 1 + 1 : Nat) : Int)), x3, x4, x5] [] (M2, D, nx) 0 0 := fun q => by
        have := next M2 g1 g3 (by rw [g2, h26, if_neg q])
        rw [if_neg q] at this
        exact this
      rw [← e0] at n1 n0 r1
      rw [← ei] at n1 n0 r1
      clear hq hz hrd h83 hrr hvK hKe hve spell fr till hK12 ih cr next g1 g3 hrk e0
      generalize r (bcK r k) = b at *
      ((repeat' (first | (with_reducible refine And.intro ?_ ?_) | (intro h0; exact absurd h0 (by decide)) | (intro h0; exact absurd rfl h0) | (intro h0; exfalso; clear hW; omega) | (intro _) | ((conv => whnf); (first | (with_reducible refine And.intro ?_ ?_) | (intro h0; exact absurd h0 (by decide)) | (intro h0; exact absurd rfl h0) | (intro h0; exfalso; clear hW; omega) | (intro _))))); (all_goals (try omega)); (all_goals (try exact xnn (by omega))); (all_goals (try exact Nat.le_of_ble_eq_true rfl)); (all_goals (try ((conv => whnf); (first | (refine hW.2.1 _ _ ?_) | (change X _ _ _ _ _ _) | (change C _ _ _ _ _ _ _))))); (all_goals (try simp only [xup_at, xup_ne, xup_up, ne_eq, Nat.reduceEqDiff, not_false_eq_true, Int.toNat_natCast, x_lcmp] at *)); (all_goals (try omega)))
      · exact n0 (by omega) _ _ _
      · exact n1 (by omega) _ _ _
  have c5 : ∀ g, (∀ j, j ≤ n → g j = 3 * ((n : Int) - j)) → ∀ x3 x4 x5, X 10 [some (xR (some 64)), some (xI (g 0)), some (xI ((0 + 1 : Nat) : Int)), x3, x4, x5] [] (xup (xup M0 64 (xup (M0 64) 26 0)) 83 g, D, nx) 0 0 := fun g hg x3 x4 x5 => by
    have h5 := cnts 12 0 (xup (xup M0 64 (xup (M0 64) 26 0)) 83 g) rfl (rdF_up ⟨fun x hx => by rw [xup_ne (by omega)], fun j hj => by rw [xup_at, xup_ne hj]⟩ (by decide) (by decide)) (by rw [xup_ne (by decide), xup_at, xup_at]; rfl) (fun k' hk' j hj => by
      obtain rfl : k' = 0 := by omega
      rw [xup_at, show 61 * 0 + j = j by omega, hg j hj]
      show 3 * ((n : Int) - j) = 3 * (M0 23 1 - (j : Int))
      rw [hn]) x3 x4 x5
    have e : r (bcK r 0) = g 0 := by
      rw [hg 0 (by omega)]
      show r 0 = _
      rw [hr0]
      omega
    rw [e] at h5
    exact h5
  have g64 : 0 ≤ M0 64 0 ∧ M0 64 0 ≤ 10 := by rw [hz.1.1.2.2.2.1.1]; exact ⟨w0, w10⟩
  have cr : ∀ Q' : Option xV → xM → Prop, (∀ g, (∀ j, j ≤ n → g j = 3 * ((n : Int) - j)) → Q' none (xup (xup M0 64 (xup (M0 64) 26 0)) 83 g)) → xm 4 m_M_restFrom [xR (some 64), xI 0] (xup M0 64 (xup (M0 64) 26 0)) Q' := fun Q' h => z_rest0 (n := n) (by omega) (by rw [xup_at, xup_ne (by decide)]; exact e13) (by rw [xup_at, xup_ne (by decide)]; exact g64) (fun g h1 _ => h g h1)
  clear hq hz hrd hrr hvK hKe hve spell till hK12 cnts hrk
  have start : X 10 [some (xR (some 64)), some (xI 1000000), some (xI 0), none, none, none] [] (xup M0 64 (xup (M0 64) 26 0), D, nx) 0 0 := by
    refine xg hW k_M_reading [10, 57] 40 ?_
    ((repeat' (first | (with_reducible refine And.intro ?_ ?_) | (intro h0; exact absurd h0 (by decide)) | (intro h0; exact absurd rfl h0) | (intro h0; exfalso; clear hW; omega) | (intro _) | ((conv => whnf); (first | (with_reducible refine And.intro ?_ ?_) | (intro h0; exact absurd h0 (by decide)) | (intro h0; exact absurd rfl h0) | (intro h0; exfalso; clear hW; omega) | (intro _))))); (all_goals (try omega)); (all_goals (try exact xnn (by omega))); (all_goals (try exact Nat.le_of_ble_eq_true rfl)); (all_goals (try ((conv => whnf); (first | (refine hW.2.1 _ _ ?_) | (change X _ _ _ _ _ _) | (change C _ _ _ _ _ _ _))))); (all_goals (try simp only [xup_at, xup_ne, xup_up, ne_eq, Nat.reduceEqDiff, not_false_eq_true, Int.toNat_natCast, x_lcmp] at *)); (all_goals (try omega)))
    refine hW.1 _ _ _ _ _ _ (cr _ (fun g hg => ?_)) (by decide) (by decide) (Nat.le_of_ble_eq_true rfl)
    have h5 := c5 g hg
    have e0 : g 0 = 3 * (n : Int) := by rw [hg 0 (by omega)]; omega
    have e0' : g (61 * (0 : Int)).toNat = 3 * (n : Int) := e0
    clear c5 cr hg
    ((repeat' (first | (with_reducible refine And.intro ?_ ?_) | (intro h0; exact absurd h0 (by decide)) | (intro h0; exact absurd rfl h0) | (intro h0; exfalso; clear hW; omega) | (intro _) | ((conv => whnf); (first | (with_reducible refine And.intro ?_ ?_) | (intro h0; exact absurd h0 (by decide)) | (intro h0; exact absurd rfl h0) | (intro h0; exfalso; clear hW; omega) | (intro _))))); (all_goals (try omega)); (all_goals (try exact xnn (by omega))); (all_goals (try exact Nat.le_of_ble_eq_true rfl)); (all_goals (try ((conv => whnf); (first | (refine hW.2.1 _ _ ?_) | (change X _ _ _ _ _ _) | (change C _ _ _ _ _ _ _))))); (all_goals (try simp only [xup_at, xup_ne, xup_up, ne_eq, Nat.reduceEqDiff, not_false_eq_true, Int.toNat_natCast, x_lcmp] at *)); (all_goals (try omega)))
    have es : xup (xup (xup M0 64 (xup (M0 64) 26 0)) 83 g) 64 (xup (M0 64) 26 0) = xup (xup M0 64 (xup (M0 64) 26 0)) 83 g := by
      funext a
      by_cases q : a = 64
      · rw [q, xup_at, xup_ne (by decide), xup_at]
      · rw [xup_ne q]
    rw [es]
    exact h5 _ _ _
  clear c5 cr
  refine xg hW k_M_reading [10] 40 ?_
  ((repeat' (first | (with_reducible refine And.intro ?_ ?_) | (intro h0; exact absurd h0 (by decide)) | (intro h0; exact absurd rfl h0) | (intro h0; exfalso; clear hW; omega) | (intro _) | ((conv => whnf); (first | (with_reducible refine And.intro ?_ ?_) | (intro h0; exact absurd h0 (by decide)) | (intro h0; exact absurd rfl h0) | (intro h0; exfalso; clear hW; omega) | (intro _))))); (all_goals (try omega)); (all_goals (try exact xnn (by omega))); (all_goals (try exact Nat.le_of_ble_eq_true rfl)); (all_goals (try ((conv => whnf); (first | (refine hW.2.1 _ _ ?_) | (change X _ _ _ _ _ _) | (change C _ _ _ _ _ _ _))))); (all_goals (try simp only [xup_at, xup_ne, xup_up, ne_eq, Nat.reduceEqDiff, not_false_eq_true, Int.toNat_natCast, x_lcmp] at *)); (all_goals (try omega)))
  all_goals exact start
