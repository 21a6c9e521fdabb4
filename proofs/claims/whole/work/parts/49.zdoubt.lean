/-! the reference: doubt, without the machine -/
theorem arF_cl {M : xM} {s : Nat → Int} (n : Nat) : ∀ q, clF n (arF M s q)
  | 0 => fun j _ => by show 3 * ((j + 1 : Nat) : Int) ≤ 3 * (j : Int) + 3; omega
  | q + 1 => by rw [arF]; exact wF_cl (arF_cl n q)
theorem wB_cl {M : xM} {w : Nat} {g : Nat → Int} (h : clB (M 23 1).toNat g) : clB (M 23 1).toNat (wB M w g) := bwN_cl h _
theorem arB_cl {M : xM} {s : Nat → Int} {K : Nat} (h0 : 0 ≤ M 23 1) : ∀ k, clB (M 23 1).toNat (arB M s K k)
  | 0 => fun j hj => by show 3 * (M 23 1 - (j : Int)) ≤ 3 * (M 23 1 - ((j + 1 : Nat) : Int)) + 3; omega
  | k + 1 => by rw [arB]; exact wB_cl (arB_cl h0 k)
theorem arF_congr {M : xM} {s s' : Nat → Int} : ∀ q, (∀ i, i < q → s i = s' i) → arF M s q = arF M s' q
  | 0, _ => rfl
  | q + 1, h => by rw [arF, arF, arF_congr q (fun i hi => h i (by omega)), h q (by omega)]
theorem arB_congr {M : xM} {s s' : Nat → Int} {K : Nat} : ∀ k, k ≤ K → (∀ i, K - k ≤ i → i < K → s i = s' i) → arB M s K k = arB M s' K k
  | 0, _, _ => rfl
  | k + 1, hk, h => by rw [arB, arB, arB_congr k (by omega) (fun i h1 h2 => h i (by omega) h2), h (K - (k + 1)) (Nat.le_refl _) (by omega)]
/-- what comes of other words in a place: from the front alone, or from both sides -/
theorem off_eq {M : xM} {s : Nat → Int} {K i : Nat} {o : Int} (h0 : 0 ≤ M 23 1) (hi : i < K) : arF M (xup s i o) K (M 23 1).toNat = mt (wF M o.toNat (arF M s i)) (arB M s K (K - i - 1)) (M 23 1).toNat := by
  have key : ∀ k, k ≤ K - i - 1 → arF M (xup s i o) K (M 23 1).toNat = mt (arF M (xup s i o) (K - k)) (arB M s K k) (M 23 1).toNat := by
    intro k
    induction k with
    | zero =>
      intro _
      obtain ⟨n, hn⟩ := Int.eq_ofNat_of_zero_le h0
      have hcl := arF_cl (M := M) (s := xup s i o) n K
      have hx : ∀ m j, j + m = n → arF M (xup s i o) K n ≤ arF M (xup s i o) K j + 3 * (m : Int) := by
        intro m
        induction m with
        | zero =>
          intro j hj
          have e : j = n := by omega
          rw [e]
          omega
        | succ m ih =>
          intro j hj
          have h1 := ih (j + 1) (by omega)
          have h2 := hcl j (by omega)
          omega
      have h2 : arB M s K 0 = fun j : Nat => 3 * ((n : Int) - (j : Int)) := by
        funext j
        show 3 * (M 23 1 - (j : Int)) = _
        rw [hn]
      rw [h2, hn, Int.toNat_natCast, Nat.sub_zero]
      generalize arF M (xup s i o) K = f at *
      obtain ⟨j, h3, h4⟩ := mt_at (f := f) (g := fun j : Nat => 3 * ((n : Int) - (j : Int))) n
      have h5 := mt_le (f := f) (g := fun j : Nat => 3 * ((n : Int) - (j : Int))) (Nat.le_refl n)
      have h6 := hx (n - j) j (by omega)
      (try simp only at h4 h5)
      omega
    | succ k ih =>
      intro hk
      rw [ih (by omega)]
      have e : K - k = (K - (k + 1)) + 1 := by omega
      rw [e, arF, xup_ne (show K - (k + 1) ≠ i by omega), mt_wF (arF_cl _ _) (arB_cl h0 k)]
      rfl
  rw [key (K - i - 1) (Nat.le_refl _), show K - (K - i - 1) = i + 1 by omega, arF, xup_at, arF_congr i (s := xup s i o) (s' := s) (fun q hq => xup_ne (by omega))]
theorem bwd_mono {H : Nat → Int} {b : Int} {n : Nat} {g g' : Nat → Int} (h : ∀ j, j ≤ n → g j ≤ g' j) : ∀ j, j ≤ n → bwd H b n g j ≤ bwd H b n g' j := by
  have : ∀ k j, j + k = n → bwd H b n g j ≤ bwd H b n g' j := by
    intro k
    induction k with
    | zero =>
      intro j hj
      obtain rfl : j = n := by omega
      have := h j (Nat.le_refl _)
      rw [bwd_n, bwd_n]
      omega
    | succ k ih =>
      intro j hj
      have a1 := ih (j + 1) (by omega)
      have a2 := h j (by omega)
      have a3 := h (j + 1) (by omega)
      rw [bwd_lt (g := g) (show j < n by omega), bwd_lt (g := g') (show j < n by omega)]
      omega
  exact fun j hj => this (n - j) j (by omega)
theorem bwN_mono {H β : Nat → Int} {n m : Nat} {g g' : Nat → Int} (h : ∀ j, j ≤ n → g j ≤ g' j) : ∀ k j, j ≤ n → bwN H β n m g k j ≤ bwN H β n m g' k j
  | 0, j, hj => h j hj
  | k + 1, j, hj => by rw [bwN, bwN]; exact bwd_mono (bwN_mono h k) j hj
theorem wB_mono {M : xM} {w : Nat} {g g' : Nat → Int} (h : ∀ j, j ≤ (M 23 1).toNat → g j ≤ g' j) : ∀ j, j ≤ (M 23 1).toNat → wB M w g j ≤ wB M w g' j := fun j hj => bwN_mono h _ j hj
theorem rRow_arB {M : xM} {s : Nat → Int} {K : Nat} (hs : ∀ q, q < K → hP M (s q) ∧ s q < M 3 2) : ∀ k, k ≤ K → ∀ j, j ≤ (M 23 1).toNat → rRow M k j ≤ arB M s K k j
  | 0, _, j, _ => Int.le_refl _
  | k + 1, hk, j, hj => by
    obtain ⟨⟨p1, p2, p3⟩, p4⟩ := hs (K - (k + 1)) (by omega)
    have h1 := wB_mono (w := (s (K - (k + 1))).toNat) (rRow_arB hs k (by omega)) j hj
    have h2 := lowW_le (M := M) (g := rRow M k) (W := (M 3 2).toNat) (j := j) (w := (s (K - (k + 1))).toNat) (by omega) p3
    rw [rRow, arB]
    omega
/-- another word in a place never makes it less -/
theorem dbt_ge {M : xM} (hk : rdOk M) {s : Nat → Int} {K i : Nat} {o : Int} (hs : ∀ q, q < K → hP M (s q) ∧ s q < M 3 2) (ho : hP M o ∧ o < M 3 2) (hi : i < K) (hv : rRow M K 0 < 1000000) : rRow M K 0 ≤ mt (wF M o.toNat (arF M s i)) (arB M s K (K - i - 1)) (M 23 1).toNat := by
  have h0 := hk.1.1
  obtain ⟨⟨o1, o2, o3⟩, o4⟩ := ho
  have low : ∀ q, q ≤ K → rRow M K 0 ≤ mt (arF M s q) (rRow M (K - q)) (M 23 1).toNat := by
    intro q
    induction q with
    | zero =>
      intro _
      have := (sp_inv hk hv rfl 0 (by omega)).2
      rw [Nat.sub_zero] at this ⊢
      have e : arF M s 0 = spU M (rRow M K 0) K 0 := rfl
      rw [e, this]
      exact Int.le_refl _
    | succ q ih =>
      intro hq
      have h1 := ih (by omega)
      obtain ⟨⟨p1, p2, p3⟩, p4⟩ := hs q (by omega)
      rw [show K - q = (K - (q + 1)) + 1 by omega, rRow] at h1
      rw [arF, mt_wF (arF_cl _ _) (rRow_cl hk _)]
      have h2 := mt_mono (f := arF M s q) (g := lowW M (rRow M (K - (q + 1))) (M 3 2).toNat) (g' := wB M (s q).toNat (rRow M (K - (q + 1)))) (n := (M 23 1).toNat) fun j _ => lowW_le (g := rRow M (K - (q + 1))) (j := j) (show (s q).toNat < (M 3 2).toNat by omega) p3
      omega
  have h1 := low i (by omega)
  rw [mt_wF (arF_cl _ _) (arB_cl h0 _)]
  rw [show K - i = (K - i - 1) + 1 by omega, rRow] at h1
  have h2 := mt_mono (f := arF M s i) (g := lowW M (rRow M (K - i - 1)) (M 3 2).toNat) (g' := wB M o.toNat (arB M s K (K - i - 1))) (n := (M 23 1).toNat) fun j hj => by
    have a1 := lowW_le (M := M) (g := rRow M (K - i - 1)) (W := (M 3 2).toNat) (j := j) (w := o.toNat) (by omega) o3
    have a2 := wB_mono (w := o.toNat) (rRow_arB hs (K - i - 1) (by omega)) j hj
    omega
  omega
