/-! leaves: the library's own methods -/
theorem xq {Q : Option xV → xM → Prop} {v w : Int} {M : xM} (h : Q (some (xI w)) M) (e : w = v) : Q (some (xI v)) M := e ▸ h
theorem xqm {Q : Option xV → xM → Prop} {r : Option xV} {M M' : xM} (h : Q r M') (e : M' = M) : Q r M := e ▸ h
theorem xar_of {M : xM} {D : Nat → Option xE} {nx a j n : Nat} {K : Nat → Nat → xV → Prop} (hT : xT0 a = some (.inr (0, n, none))) (hk : K 0 n (xI (M a j))) : xar xT0 (M, D, nx) a j K := by
  simp only [xar, hT]
  exact hk
theorem xwa_of {M : xM} {D : Nat → Option xE} {nx a k n : Nat} {z : Int} {K : xH → Prop} (hT : xT0 a = some (.inr (0, n, none))) (hk : K (xup M a (xup (M a) k z), D, nx)) : xwa xT0 (M, D, nx) a k (xI z) K := by
  simp only [xwa, hT]
  exact hk
/-- the first n places hold v -/
def xfill (f : Nat → Int) (n : Nat) (v : Int) : Nat → Int := fun j => if j < n then v else f j
theorem xfill_0 (f : Nat → Int) (v : Int) : xfill f 0 v = f := by
  funext j
  simp [xfill]
theorem xfill_s (f : Nat → Int) (n : Nat) (v : Int) : xup (xfill f n v) n v = xfill f (n + 1) v := by
  funext j
  simp only [xup, xfill]
  by_cases h1 : j = n
  · rw [if_pos h1, if_pos (by omega)]
  · rw [if_neg h1]
    by_cases h2 : j < n
    · rw [if_pos h2, if_pos (by omega)]
    · rw [if_neg h2, if_neg (by omega)]
theorem xup_id {α : Type} (f : Nat → α) (k : Nat) : xup f k (f k) = f := by
  funext j
  simp only [xup]
  split
  · rename_i h; rw [h]
  · rfl
theorem xup_up {α : Type} (f : Nat → α) (k : Nat) (v w : α) : xup (xup f k v) k w = xup f k w := by
  funext j
  simp only [xup]
  split <;> rfl
set_option maxRecDepth 100000 in
theorem c_fill {M : xM} {Q : Option xV → xM → Prop} {a n : Nat} {v : Int} (hT : xT0 a = some (.inr (0, n, none))) (hn : n < 1000) (h : Q none (xup M a (xfill (M a) n v))) : xm 1 m_Arrays_fill [xR (some a), xI v] M Q := by
  (refine xm_of (own := "java/util/Arrays") rfl (by decide +kernel) tk_Arrays [some (xR (some a)), some (xI v), none, none] (Nat.le_of_ble_eq_true rfl) rfl ?_; intro D nx X C P hW)
  have loop : ∀ (m i : Nat), i + m = n → X 5 [some (xR (some a)), some (xI v), some (xI (i : Int)), some (xI (n : Int))] [] (xup M a (xfill (M a) i v), D, nx) 0 0 := by
    intro m
    induction m with
    | zero =>
      intro i hi
      refine xg hW k_Arrays_fill [5] 40 ?_
      ((repeat' (first | (with_reducible refine And.intro ?_ ?_) | (intro h0; exact absurd h0 (by decide)) | (intro _) | ((conv => whnf); (first | (with_reducible refine And.intro ?_ ?_) | (intro h0; exact absurd h0 (by decide)) | (intro _) | (rw [hT]))))); (all_goals (try omega)); (all_goals (try exact Nat.le_of_ble_eq_true rfl)); (all_goals (try ((conv => whnf); (first | (refine hW.2.1 _ _ ?_) | (change X _ _ _ _ _ _) | (change C _ _ _ _ _ _ _))))); (all_goals (try simp only [xup_at, xup_ne, xup_up, ne_eq, Nat.reduceEqDiff, not_false_eq_true, Int.toNat_natCast] at *)); (all_goals (try omega)))
      obtain rfl : i = n := by omega
      exact h
    | succ m ih =>
      intro i hi
      refine xg hW k_Arrays_fill [5] 40 ?_
      ((repeat' (first | (with_reducible refine And.intro ?_ ?_) | (intro h0; exact absurd h0 (by decide)) | (intro _) | ((conv => whnf); (first | (with_reducible refine And.intro ?_ ?_) | (intro h0; exact absurd h0 (by decide)) | (intro _) | (rw [hT]))))); (all_goals (try omega)); (all_goals (try exact Nat.le_of_ble_eq_true rfl)); (all_goals (try ((conv => whnf); (first | (refine hW.2.1 _ _ ?_) | (change X _ _ _ _ _ _) | (change C _ _ _ _ _ _ _))))); (all_goals (try simp only [xup_at, xup_ne, xup_up, ne_eq, Nat.reduceEqDiff, not_false_eq_true, Int.toNat_natCast] at *)); (all_goals (try omega)))
      have h1 := ih (i + 1) (by omega)
      rw [← xfill_s] at h1
      exact h1
  refine xg hW k_Arrays_fill [5] 40 ?_
  ((repeat' (first | (with_reducible refine And.intro ?_ ?_) | (intro h0; exact absurd h0 (by decide)) | (intro _) | ((conv => whnf); (first | (with_reducible refine And.intro ?_ ?_) | (intro h0; exact absurd h0 (by decide)) | (intro _) | (rw [hT]))))); (all_goals (try omega)); (all_goals (try exact Nat.le_of_ble_eq_true rfl)); (all_goals (try ((conv => whnf); (first | (refine hW.2.1 _ _ ?_) | (change X _ _ _ _ _ _) | (change C _ _ _ _ _ _ _))))); (all_goals (try simp only [xup_at, xup_ne, xup_up, ne_eq, Nat.reduceEqDiff, not_false_eq_true, Int.toNat_natCast] at *)); (all_goals (try omega)))
  have h1 := loop n 0 (by omega)
  rw [xfill_0, xup_id] at h1
  exact h1
theorem bcf_eq (n : Nat) : bcf n = (let i := n - ((n >>> 1) &&& 1431655765); let i := (i &&& 858993459) + ((i >>> 2) &&& 858993459); let i := (i + (i >>> 4)) &&& 252645135; let i := i + (i >>> 8); let i := i + (i >>> 16); i &&& 63) := by
  unfold bcf
  simp only [bfc_eq]
theorem xu_1 {a : Nat} (ha : a < 2 ^ 31) : x_iushr (a : Int) 1 = ((a >>> 1 : Nat) : Int) := xn_ushr (k := 1) (by decide) ha
theorem xu_2 {a : Nat} (ha : a < 2 ^ 31) : x_iushr (a : Int) 2 = ((a >>> 2 : Nat) : Int) := xn_ushr (k := 2) (by decide) ha
theorem xu_4 {a : Nat} (ha : a < 2 ^ 31) : x_iushr (a : Int) 4 = ((a >>> 4 : Nat) : Int) := xn_ushr (k := 4) (by decide) ha
theorem xu_8 {a : Nat} (ha : a < 2 ^ 31) : x_iushr (a : Int) 8 = ((a >>> 8 : Nat) : Int) := xn_ushr (k := 8) (by decide) ha
theorem xu_16 {a : Nat} (ha : a < 2 ^ 31) : x_iushr (a : Int) 16 = ((a >>> 16 : Nat) : Int) := xn_ushr (k := 16) (by decide) ha
theorem xu_a (b : Nat) {a : Nat} (ha : a < 2 ^ 31) : x_iand (a : Int) (b : Int) = ((a &&& b : Nat) : Int) := xn_and ha
set_option maxRecDepth 100000 in
theorem c_bitCount {M : xM} {Q : Option xV → xM → Prop} {v : Nat} (h : v < 2 ^ 18 ∧ Q (some (xI (ones v))) M) : xm 1 m_Integer_bitCount [xI (v : Int)] M Q := by
  obtain ⟨hv, hq⟩ := h
  (refine xm_of (own := "java/lang/Integer") rfl (by decide +kernel) tk_Integer [some (xI (v : Int))] (Nat.le_of_ble_eq_true rfl) rfl ?_; intro D nx X C P hW)
  refine xg hW k_Integer_bitCount [] 40 ?_
  ((repeat' (first | (with_reducible refine And.intro ?_ ?_) | (intro h0; exact absurd h0 (by decide)) | (intro _) | ((conv => whnf); (first | (with_reducible refine And.intro ?_ ?_) | (intro h0; exact absurd h0 (by decide)) | (intro _))))); (all_goals (try omega)); (all_goals (try exact Nat.le_of_ble_eq_true rfl)); (all_goals (try ((conv => whnf); (first | (refine hW.2.1 _ _ ?_) | (change X _ _ _ _ _ _) | (change C _ _ _ _ _ _ _))))); (all_goals (try simp only [xup_at, xup_ne, xup_up, ne_eq, Nat.reduceEqDiff, not_false_eq_true, Int.toNat_natCast] at *)); (all_goals (try omega)))
  refine xq hq ?_
  rw [← bcf_ones hv, bcf_eq]
  have b1 : (v >>> 1) &&& 1431655765 ≤ v := Nat.le_trans Nat.and_le_left (Nat.shiftRight_le _ _)
  have e1 : (v : Int) - x_iand (x_iushr v 1) 1431655765 = ((v - ((v >>> 1) &&& 1431655765) : Nat) : Int) := by
    rw [xu_1 (by omega), show (1431655765 : Int) = ((1431655765 : Nat) : Int) from rfl, xu_a _ (Nat.lt_of_le_of_lt (Nat.shiftRight_le _ _) (by omega)), Int.ofNat_sub b1]
  rw [e1]
  simp only
  have l1 : v - ((v >>> 1) &&& 1431655765) < 2 ^ 18 := by omega
  generalize v - ((v >>> 1) &&& 1431655765) = i1 at l1 ⊢
  have l2 : (i1 &&& 858993459) + ((i1 >>> 2) &&& 858993459) < 2 ^ 19 := by
    have := Nat.and_le_left (n := i1) (m := 858993459)
    have := Nat.le_trans (Nat.and_le_left (n := i1 >>> 2) (m := 858993459)) (Nat.shiftRight_le i1 2)
    omega
  have e2 : x_iand (i1 : Int) 858993459 + x_iand (x_iushr (i1 : Int) 2) 858993459 = (((i1 &&& 858993459) + ((i1 >>> 2) &&& 858993459) : Nat) : Int) := by
    rw [xu_2 (by omega), show (858993459 : Int) = ((858993459 : Nat) : Int) from rfl, xu_a _ (by omega), xu_a _ (Nat.lt_of_le_of_lt (Nat.shiftRight_le _ _) (by omega))]
    exact (Int.natCast_add _ _).symm
  rw [e2]
  generalize (i1 &&& 858993459) + ((i1 >>> 2) &&& 858993459) = i2 at l2 ⊢
  have q3 := Nat.shiftRight_le i2 4
  have l3 : (i2 + (i2 >>> 4)) &&& 252645135 < 2 ^ 20 := Nat.lt_of_le_of_lt Nat.and_le_left (by omega)
  have e3 : x_iand ((i2 : Int) + x_iushr (i2 : Int) 4) 252645135 = (((i2 + (i2 >>> 4)) &&& 252645135 : Nat) : Int) := by
    rw [xu_4 (by omega), ← Int.natCast_add, show (252645135 : Int) = ((252645135 : Nat) : Int) from rfl, xu_a _ (by omega)]
  rw [e3]
  generalize (i2 + (i2 >>> 4)) &&& 252645135 = i3 at l3 ⊢
  have q4 := Nat.shiftRight_le i3 8
  rw [xu_8 (show i3 < 2 ^ 31 by omega), ← Int.natCast_add]
  generalize hi4 : i3 + i3 >>> 8 = i4
  have q5 := Nat.shiftRight_le i4 16
  rw [xu_16 (show i4 < 2 ^ 31 by omega), ← Int.natCast_add, show (63 : Int) = ((63 : Nat) : Int) from rfl, xu_a _ (by omega)]
/-! rows of beats, told by size and number -/
def isRow (n b : Int) : Prop := 1 ≤ n ∧ n ≤ 6 ∧ 0 ≤ b ∧ b < 2 ^ n.toNat
theorem xshl1 {n : Int} (h1 : 0 ≤ n) (h2 : n ≤ 30) : x_ishl 1 n = 2 ^ n.toNat := by
  obtain ⟨k, rfl⟩ := Int.eq_ofNat_of_zero_le h1
  have hk : (2 : Nat) ^ k < 2 ^ 31 := Nat.pow_lt_pow_right (by decide) (by omega)
  have := xn_shl (a := 1) (k := k) (by omega) (by rw [Nat.one_mul]; exact hk)
  rw [Nat.one_mul] at this
  rw [Int.toNat_natCast]
  refine Eq.trans this ?_
  exact Int.natCast_pow 2 k
theorem xpow_rg {n : Int} (h2 : n ≤ 30) : (1 : Int) ≤ 2 ^ n.toNat ∧ (2 : Int) ^ n.toNat ≤ 1073741824 := by
  have h : (2 : Nat) ^ n.toNat ≤ 2 ^ 30 := Nat.pow_le_pow_right (by decide) (by omega)
  have h0 : 1 ≤ (2 : Nat) ^ n.toNat := Nat.one_le_two_pow
  have e : ((2 ^ n.toNat : Nat) : Int) = 2 ^ n.toNat := Int.natCast_pow 2 _
  rw [← e]
  omega
set_option maxRecDepth 100000 in
theorem c_isRow {M : xM} {Q : Option xV → xM → Prop} {n b : Int} (h : (xrg n ∧ xrg b) ∧ (isRow n b → Q (some (xI 1)) M) ∧ (¬ isRow n b → Q (some (xI 0)) M)) : xm 1 m_Rows_isRow [xI n, xI b] M Q := by
  obtain ⟨⟨h1, h2⟩, h3, h4⟩ := h
  have e : ¬ (0 ≤ n ∧ n ≤ 30) ∨ (x_ishl 1 n = 2 ^ n.toNat ∧ (1 : Int) ≤ 2 ^ n.toNat ∧ (2 : Int) ^ n.toNat ≤ 1073741824) := by
    by_cases hq : 0 ≤ n ∧ n ≤ 30
    · exact Or.inr ⟨xshl1 hq.1 hq.2, xpow_rg hq.2⟩
    · exact Or.inl hq
  unfold isRow at h3 h4
  (refine xm_of (own := "DrumTongue$Rows") rfl (by decide +kernel) tk_Rows [some (xI n), some (xI b)] (Nat.le_of_ble_eq_true rfl) rfl ?_; intro D nx X C P hW)
  refine xg hW k_Rows_isRow [] 40 ?_
  ((repeat' (first | (with_reducible refine And.intro ?_ ?_) | (intro h0; exact absurd h0 (by decide)) | (intro _) | ((conv => whnf); (first | (with_reducible refine And.intro ?_ ?_) | (intro h0; exact absurd h0 (by decide)) | (intro _))))); (all_goals (try omega)); (all_goals (try exact Nat.le_of_ble_eq_true rfl)); (all_goals (try ((conv => whnf); (first | (refine hW.2.1 _ _ ?_) | (change X _ _ _ _ _ _) | (change C _ _ _ _ _ _ _))))); (all_goals (try simp only [xup_at, xup_ne, xup_up, ne_eq, Nat.reduceEqDiff, not_false_eq_true, Int.toNat_natCast] at *)); (all_goals (try omega)))
  all_goals generalize (2 : Int) ^ n.toNat = pw at e h3 h4
  all_goals first | omega | exact h4 (by omega) | exact h3 (by omega)
