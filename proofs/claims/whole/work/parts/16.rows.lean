/-! rows: size and number of each; how far two are apart -/
/-- at how many of the places that both rows have they differ -/
def dif (a n b m : Int) : Int := (ones ((n.toNat >>> (a - min a b).toNat) ^^^ (m.toNat >>> (b - min a b).toNat)) : Nat)
theorem onesU_le (v : Nat) : ∀ k, onesU v k ≤ k
  | 0 => Nat.le_refl _
  | k + 1 => by have := onesU_le v k; rw [onesU]; omega
theorem dif_rg {a n b m : Int} : 0 ≤ dif a n b m ∧ dif a n b m ≤ 20 :=
  ⟨Int.natCast_nonneg _, Int.ofNat_le.mpr (onesU_le _ 20)⟩
def isB (a n : Int) : Prop := 0 ≤ a ∧ a ≤ 18 ∧ 0 ≤ n ∧ n < 262144
def apart (a n b m v : Int) : Prop := 0 < dif a n b m ∧ v ≤ dif a n b m + (if 0 ≤ a - b then a - b else -(a - b))
theorem xshr_i {n k : Int} (h1 : 0 ≤ n) (h2 : n < 2147483648) (h3 : 0 ≤ k) (h4 : k < 32) : x_ishr n k = ((n.toNat >>> k.toNat : Nat) : Int) := by
  obtain ⟨a, rfl⟩ := Int.eq_ofNat_of_zero_le h1
  obtain ⟨b, rfl⟩ := Int.eq_ofNat_of_zero_le h3
  rw [Int.toNat_natCast, Int.toNat_natCast]
  exact xn_shr (by omega) (by omega)
set_option maxRecDepth 100000 in
theorem c_differing {M : xM} {Q : Option xV → xM → Prop} {a n b m : Int} (h : (isB a n ∧ isB b m) ∧ Q (some (xI (dif a n b m))) M) : xm 2 m_Rows_differing [xI a, xI n, xI b, xI m] M Q := by
  obtain ⟨⟨⟨h1, h2, h3, h4⟩, h5, h6, h7, h8⟩, hq⟩ := h
  (refine xm_of (own := "DrumTongue$Rows") rfl (by decide +kernel) tk_Rows [some (xI a), some (xI n), some (xI b), some (xI m), none] (Nat.le_of_ble_eq_true rfl) rfl ?_; intro D nx X C P hW)
  refine xg hW k_Rows_differing [] 40 ?_
  have e1 := xshr_i (k := a - min a b) h3 (by omega) (by omega) (by omega)
  have e2 := xshr_i (k := b - min a b) h7 (by omega) (by omega) (by omega)
  have b1 := Nat.shiftRight_le n.toNat (a - min a b).toNat
  have b2 := Nat.shiftRight_le m.toNat (b - min a b).toNat
  have e3 := xn_xor (a := n.toNat >>> (a - min a b).toNat) (b := m.toNat >>> (b - min a b).toNat) (by omega) (by omega)
  have b3 : (n.toNat >>> (a - min a b).toNat) ^^^ (m.toNat >>> (b - min a b).toNat) < 2 ^ 18 := Nat.xor_lt_two_pow (by omega) (by omega)
  ((repeat' (first | (with_reducible refine And.intro ?_ ?_) | (intro h0; exact absurd h0 (by decide)) | (intro _) | ((conv => whnf); (first | (with_reducible refine And.intro ?_ ?_) | (intro h0; exact absurd h0 (by decide)) | (intro _))))); (all_goals (try omega)); (all_goals (try exact Nat.le_of_ble_eq_true rfl)); (all_goals (try ((conv => whnf); (first | (refine hW.2.1 _ _ ?_) | (change X _ _ _ _ _ _) | (change C _ _ _ _ _ _ _))))); (all_goals (try simp only [xup_at, xup_ne, xup_up, ne_eq, Nat.reduceEqDiff, not_false_eq_true, Int.toNat_natCast] at *)); (all_goals (try omega)))
  rw [e1, e2, e3]
  refine hW.1 _ _ _ _ _ _ (c_bitCount ⟨b3, ?_⟩) (by decide) (by decide) (Nat.le_of_ble_eq_true rfl)
  ((repeat' (first | (with_reducible refine And.intro ?_ ?_) | (intro h0; exact absurd h0 (by decide)) | (intro _) | ((conv => whnf); (first | (with_reducible refine And.intro ?_ ?_) | (intro h0; exact absurd h0 (by decide)) | (intro _))))); (all_goals (try omega)); (all_goals (try exact Nat.le_of_ble_eq_true rfl)); (all_goals (try ((conv => whnf); (first | (refine hW.2.1 _ _ ?_) | (change X _ _ _ _ _ _) | (change C _ _ _ _ _ _ _))))); (all_goals (try simp only [xup_at, xup_ne, xup_up, ne_eq, Nat.reduceEqDiff, not_false_eq_true, Int.toNat_natCast] at *)); (all_goals (try omega)))
  exact hq
set_option maxRecDepth 100000 in
theorem c_areApart {M : xM} {Q : Option xV → xM → Prop} {a n b m v : Int} (h : (isB a n ∧ isB b m ∧ xrg v) ∧ (apart a n b m v → Q (some (xI 1)) M) ∧ (¬ apart a n b m v → Q (some (xI 0)) M)) : xm 3 m_Rows_areApart [xI a, xI n, xI b, xI m, xI v] M Q := by
  obtain ⟨⟨⟨a1, a2, a3, a4⟩, ⟨b1, b2, b3, b4⟩, hv1, hv2⟩, h3, h4⟩ := h
  have hd := dif_rg (a := a) (n := n) (b := b) (m := m)
  (refine xm_of (own := "DrumTongue$Rows") rfl (by decide +kernel) tk_Rows [some (xI a), some (xI n), some (xI b), some (xI m), some (xI v), none] (Nat.le_of_ble_eq_true rfl) rfl ?_; intro D nx X C P hW)
  refine xg hW k_Rows_areApart [] 40 ?_
  ((repeat' (first | (with_reducible refine And.intro ?_ ?_) | (intro h0; exact absurd h0 (by decide)) | (intro _) | ((conv => whnf); (first | (with_reducible refine And.intro ?_ ?_) | (intro h0; exact absurd h0 (by decide)) | (intro _) | (refine hW.1 _ _ _ _ _ _ (c_differing ?_) (by first | decide | omega) (by decide) (Nat.le_of_ble_eq_true rfl)))))); (all_goals (try omega)); (all_goals (try exact Nat.le_of_ble_eq_true rfl)); (all_goals (try ((conv => whnf); (first | (refine hW.2.1 _ _ ?_) | (change X _ _ _ _ _ _) | (change C _ _ _ _ _ _ _))))); (all_goals (try simp only [xup_at, xup_ne, xup_up, ne_eq, Nat.reduceEqDiff, not_false_eq_true, Int.toNat_natCast] at *)); (all_goals (try omega)))
  all_goals first | exact h4 (by unfold apart; omega) | exact h3 (by unfold apart; omega)
set_option maxRecDepth 100000 in
theorem c_used_W {M : xM} {Q : Option xV → xM → Prop} (h : Q (some (xI (M 3 2))) M) : xm 1 m_Rows_used [xR (some 3)] M Q := by
  (refine xm_of (own := "DrumTongue$Rows") rfl (by decide +kernel) tk_Rows [some (xR (some 3))] (Nat.le_of_ble_eq_true rfl) rfl ?_; intro D nx X C P hW)
  refine xg hW k_Rows_used [] 40 ?_
  ((repeat' (first | (with_reducible refine And.intro ?_ ?_) | (intro h0; exact absurd h0 (by decide)) | (intro _) | ((conv => whnf); (first | (with_reducible refine And.intro ?_ ?_) | (intro h0; exact absurd h0 (by decide)) | (intro _))))); (all_goals (try omega)); (all_goals (try exact Nat.le_of_ble_eq_true rfl)); (all_goals (try ((conv => whnf); (first | (refine hW.2.1 _ _ ?_) | (change X _ _ _ _ _ _) | (change C _ _ _ _ _ _ _))))); (all_goals (try simp only [xup_at, xup_ne, xup_up, ne_eq, Nat.reduceEqDiff, not_false_eq_true, Int.toNat_natCast] at *)); (all_goals (try omega)))
  all_goals exact h
set_option maxRecDepth 100000 in
theorem c_isFull_W {M : xM} {Q : Option xV → xM → Prop} (h : (0 ≤ M 3 2 ∧ M 3 2 ≤ 10) ∧ (M 3 2 = 10 → Q (some (xI 1)) M) ∧ (M 3 2 < 10 → Q (some (xI 0)) M)) : xm 1 m_Rows_isFull [xR (some 3)] M Q := by
  obtain ⟨⟨h1, h2⟩, h3, h4⟩ := h
  (refine xm_of (own := "DrumTongue$Rows") rfl (by decide +kernel) tk_Rows [some (xR (some 3))] (Nat.le_of_ble_eq_true rfl) rfl ?_; intro D nx X C P hW)
  refine xg hW k_Rows_isFull [] 40 ?_
  ((repeat' (first | (with_reducible refine And.intro ?_ ?_) | (intro h0; exact absurd h0 (by decide)) | (intro _) | ((conv => whnf); (first | (with_reducible refine And.intro ?_ ?_) | (intro h0; exact absurd h0 (by decide)) | (intro _))))); (all_goals (try omega)); (all_goals (try exact Nat.le_of_ble_eq_true rfl)); (all_goals (try ((conv => whnf); (first | (refine hW.2.1 _ _ ?_) | (change X _ _ _ _ _ _) | (change C _ _ _ _ _ _ _))))); (all_goals (try simp only [xup_at, xup_ne, xup_up, ne_eq, Nat.reduceEqDiff, not_false_eq_true, Int.toNat_natCast] at *)); (all_goals (try omega)))
  all_goals first | exact h3 (by omega) | exact h4 (by omega)
set_option maxRecDepth 100000 in
theorem c_size_W {M : xM} {Q : Option xV → xM → Prop} {i : Int} (h : (xrg i ∧ 0 ≤ M 3 2 ∧ M 3 2 ≤ 10) ∧ (0 ≤ i → i < M 3 2 → Q (some (xI (M 4 i.toNat))) M) ∧ (i < 0 ∨ M 3 2 ≤ i → Q (some (xI 0)) M)) : xm 1 m_Rows_size [xR (some 3), xI i] M Q := by
  obtain ⟨⟨h1, h2⟩, h3, h4⟩ := h
  (refine xm_of (own := "DrumTongue$Rows") rfl (by decide +kernel) tk_Rows [some (xR (some 3)), some (xI i)] (Nat.le_of_ble_eq_true rfl) rfl ?_; intro D nx X C P hW)
  refine xg hW k_Rows_size [] 40 ?_
  ((repeat' (first | (with_reducible refine And.intro ?_ ?_) | (intro h0; exact absurd h0 (by decide)) | (intro _) | ((conv => whnf); (first | (with_reducible refine And.intro ?_ ?_) | (intro h0; exact absurd h0 (by decide)) | (intro _))))); (all_goals (try omega)); (all_goals (try exact Nat.le_of_ble_eq_true rfl)); (all_goals (try ((conv => whnf); (first | (refine hW.2.1 _ _ ?_) | (change X _ _ _ _ _ _) | (change C _ _ _ _ _ _ _))))); (all_goals (try simp only [xup_at, xup_ne, xup_up, ne_eq, Nat.reduceEqDiff, not_false_eq_true, Int.toNat_natCast] at *)); (all_goals (try omega)))
  all_goals first | exact h3 (by omega) (by omega) | exact h4 (by omega)
set_option maxRecDepth 100000 in
theorem c_number_W {M : xM} {Q : Option xV → xM → Prop} {i : Int} (h : (xrg i ∧ 0 ≤ M 3 2 ∧ M 3 2 ≤ 10) ∧ (0 ≤ i → i < M 3 2 → Q (some (xI (M 5 i.toNat))) M) ∧ (i < 0 ∨ M 3 2 ≤ i → Q (some (xI 0)) M)) : xm 1 m_Rows_number [xR (some 3), xI i] M Q := by
  obtain ⟨⟨h1, h2⟩, h3, h4⟩ := h
  (refine xm_of (own := "DrumTongue$Rows") rfl (by decide +kernel) tk_Rows [some (xR (some 3)), some (xI i)] (Nat.le_of_ble_eq_true rfl) rfl ?_; intro D nx X C P hW)
  refine xg hW k_Rows_number [] 40 ?_
  ((repeat' (first | (with_reducible refine And.intro ?_ ?_) | (intro h0; exact absurd h0 (by decide)) | (intro _) | ((conv => whnf); (first | (with_reducible refine And.intro ?_ ?_) | (intro h0; exact absurd h0 (by decide)) | (intro _))))); (all_goals (try omega)); (all_goals (try exact Nat.le_of_ble_eq_true rfl)); (all_goals (try ((conv => whnf); (first | (refine hW.2.1 _ _ ?_) | (change X _ _ _ _ _ _) | (change C _ _ _ _ _ _ _))))); (all_goals (try simp only [xup_at, xup_ne, xup_up, ne_eq, Nat.reduceEqDiff, not_false_eq_true, Int.toNat_natCast] at *)); (all_goals (try omega)))
  all_goals first | exact h3 (by omega) (by omega) | exact h4 (by omega)
set_option maxRecDepth 100000 in
theorem c_sizeI_W {M : xM} {Q : Option xV → xM → Prop} {i : Int} (h : (0 ≤ i ∧ i < M 3 2 ∧ M 3 2 ≤ 10) ∧ Q (some (xI (M 4 i.toNat))) M) : xm 1 m_Rows_size [xR (some 3), xI i] M Q :=
  c_size_W ⟨⟨⟨by omega, by omega⟩, by omega, by omega⟩, fun _ _ => h.2, fun q => by omega⟩
set_option maxRecDepth 100000 in
theorem c_numberI_W {M : xM} {Q : Option xV → xM → Prop} {i : Int} (h : (0 ≤ i ∧ i < M 3 2 ∧ M 3 2 ≤ 10) ∧ Q (some (xI (M 5 i.toNat))) M) : xm 1 m_Rows_number [xR (some 3), xI i] M Q :=
  c_number_W ⟨⟨⟨by omega, by omega⟩, by omega, by omega⟩, fun _ _ => h.2, fun q => by omega⟩
/-- one more row -/
def rAdd_W (M : xM) (size number : Int) : xM := xup (xup (xup M 4 (xup (M 4) (M 3 2).toNat size)) 5 (xup (M 5) (M 3 2).toNat number)) 3 (xup (M 3) 2 (M 3 2 + 1))
set_option maxRecDepth 100000 in
theorem c_add_W {M : xM} {Q : Option xV → xM → Prop} {size number : Int} (h : (0 ≤ M 3 2 ∧ M 3 2 ≤ 10) ∧ (M 3 2 = 10 → Q none M) ∧ (M 3 2 < 10 → Q none (rAdd_W M size number))) : xm 2 m_Rows_add [xR (some 3), xI size, xI number] M Q := by
  obtain ⟨⟨h1, h2⟩, h3, h4⟩ := h
  (refine xm_of (own := "DrumTongue$Rows") rfl (by decide +kernel) tk_Rows [some (xR (some 3)), some (xI size), some (xI number)] (Nat.le_of_ble_eq_true rfl) rfl ?_; intro D nx X C P hW)
  refine xg hW k_Rows_add [] 40 ?_
  ((repeat' (first | (with_reducible refine And.intro ?_ ?_) | (intro h0; exact absurd h0 (by decide)) | (intro _) | ((conv => whnf); (first | (with_reducible refine And.intro ?_ ?_) | (intro h0; exact absurd h0 (by decide)) | (intro _) | (refine hW.1 _ _ _ _ _ _ (c_isFull_W ?_) (by first | decide | omega) (by decide) (Nat.le_of_ble_eq_true rfl)))))); (all_goals (try omega)); (all_goals (try exact Nat.le_of_ble_eq_true rfl)); (all_goals (try ((conv => whnf); (first | (refine hW.2.1 _ _ ?_) | (change X _ _ _ _ _ _) | (change C _ _ _ _ _ _ _))))); (all_goals (try simp only [xup_at, xup_ne, xup_up, ne_eq, Nat.reduceEqDiff, not_false_eq_true, Int.toNat_natCast] at *)); (all_goals (try omega)))
  all_goals (try simp only [xup_at, xup_ne, xup_up, ne_eq, Nat.reduceEqDiff, not_false_eq_true, Int.toNat_natCast])
  all_goals first | omega | exact h3 (by omega) | exact h4 (by omega)
set_option maxRecDepth 100000 in
theorem c_drop_W {M : xM} {Q : Option xV → xM → Prop} {keep : Int} (h : (xrg keep ∧ 0 ≤ M 3 2 ∧ M 3 2 ≤ 10) ∧ (0 ≤ keep → keep < M 3 2 → Q none (xup M 3 (xup (M 3) 2 keep))) ∧ (keep < 0 ∨ M 3 2 ≤ keep → Q none M)) : xm 1 m_Rows_dropAllBehind [xR (some 3), xI keep] M Q := by
  obtain ⟨⟨h1, h2⟩, h3, h4⟩ := h
  (refine xm_of (own := "DrumTongue$Rows") rfl (by decide +kernel) tk_Rows [some (xR (some 3)), some (xI keep)] (Nat.le_of_ble_eq_true rfl) rfl ?_; intro D nx X C P hW)
  refine xg hW k_Rows_dropAllBehind [] 40 ?_
  ((repeat' (first | (with_reducible refine And.intro ?_ ?_) | (intro h0; exact absurd h0 (by decide)) | (intro _) | ((conv => whnf); (first | (with_reducible refine And.intro ?_ ?_) | (intro h0; exact absurd h0 (by decide)) | (intro _))))); (all_goals (try omega)); (all_goals (try exact Nat.le_of_ble_eq_true rfl)); (all_goals (try ((conv => whnf); (first | (refine hW.2.1 _ _ ?_) | (change X _ _ _ _ _ _) | (change C _ _ _ _ _ _ _))))); (all_goals (try simp only [xup_at, xup_ne, xup_up, ne_eq, Nat.reduceEqDiff, not_false_eq_true, Int.toNat_natCast] at *)); (all_goals (try omega)))
  all_goals first | exact h3 (by omega) (by omega) | exact h4 (by omega)
set_option maxRecDepth 100000 in
theorem c_used_E {M : xM} {Q : Option xV → xM → Prop} (h : Q (some (xI (M 6 2))) M) : xm 1 m_Rows_used [xR (some 6)] M Q := by
  (refine xm_of (own := "DrumTongue$Rows") rfl (by decide +kernel) tk_Rows [some (xR (some 6))] (Nat.le_of_ble_eq_true rfl) rfl ?_; intro D nx X C P hW)
  refine xg hW k_Rows_used [] 40 ?_
  ((repeat' (first | (with_reducible refine And.intro ?_ ?_) | (intro h0; exact absurd h0 (by decide)) | (intro _) | ((conv => whnf); (first | (with_reducible refine And.intro ?_ ?_) | (intro h0; exact absurd h0 (by decide)) | (intro _))))); (all_goals (try omega)); (all_goals (try exact Nat.le_of_ble_eq_true rfl)); (all_goals (try ((conv => whnf); (first | (refine hW.2.1 _ _ ?_) | (change X _ _ _ _ _ _) | (change C _ _ _ _ _ _ _))))); (all_goals (try simp only [xup_at, xup_ne, xup_up, ne_eq, Nat.reduceEqDiff, not_false_eq_true, Int.toNat_natCast] at *)); (all_goals (try omega)))
  all_goals exact h
set_option maxRecDepth 100000 in
theorem c_isFull_E {M : xM} {Q : Option xV → xM → Prop} (h : (0 ≤ M 6 2 ∧ M 6 2 ≤ 5) ∧ (M 6 2 = 5 → Q (some (xI 1)) M) ∧ (M 6 2 < 5 → Q (some (xI 0)) M)) : xm 1 m_Rows_isFull [xR (some 6)] M Q := by
  obtain ⟨⟨h1, h2⟩, h3, h4⟩ := h
  (refine xm_of (own := "DrumTongue$Rows") rfl (by decide +kernel) tk_Rows [some (xR (some 6))] (Nat.le_of_ble_eq_true rfl) rfl ?_; intro D nx X C P hW)
  refine xg hW k_Rows_isFull [] 40 ?_
  ((repeat' (first | (with_reducible refine And.intro ?_ ?_) | (intro h0; exact absurd h0 (by decide)) | (intro _) | ((conv => whnf); (first | (with_reducible refine And.intro ?_ ?_) | (intro h0; exact absurd h0 (by decide)) | (intro _))))); (all_goals (try omega)); (all_goals (try exact Nat.le_of_ble_eq_true rfl)); (all_goals (try ((conv => whnf); (first | (refine hW.2.1 _ _ ?_) | (change X _ _ _ _ _ _) | (change C _ _ _ _ _ _ _))))); (all_goals (try simp only [xup_at, xup_ne, xup_up, ne_eq, Nat.reduceEqDiff, not_false_eq_true, Int.toNat_natCast] at *)); (all_goals (try omega)))
  all_goals first | exact h3 (by omega) | exact h4 (by omega)
set_option maxRecDepth 100000 in
theorem c_size_E {M : xM} {Q : Option xV → xM → Prop} {i : Int} (h : (xrg i ∧ 0 ≤ M 6 2 ∧ M 6 2 ≤ 5) ∧ (0 ≤ i → i < M 6 2 → Q (some (xI (M 7 i.toNat))) M) ∧ (i < 0 ∨ M 6 2 ≤ i → Q (some (xI 0)) M)) : xm 1 m_Rows_size [xR (some 6), xI i] M Q := by
  obtain ⟨⟨h1, h2⟩, h3, h4⟩ := h
  (refine xm_of (own := "DrumTongue$Rows") rfl (by decide +kernel) tk_Rows [some (xR (some 6)), some (xI i)] (Nat.le_of_ble_eq_true rfl) rfl ?_; intro D nx X C P hW)
  refine xg hW k_Rows_size [] 40 ?_
  ((repeat' (first | (with_reducible refine And.intro ?_ ?_) | (intro h0; exact absurd h0 (by decide)) | (intro _) | ((conv => whnf); (first | (with_reducible refine And.intro ?_ ?_) | (intro h0; exact absurd h0 (by decide)) | (intro _))))); (all_goals (try omega)); (all_goals (try exact Nat.le_of_ble_eq_true rfl)); (all_goals (try ((conv => whnf); (first | (refine hW.2.1 _ _ ?_) | (change X _ _ _ _ _ _) | (change C _ _ _ _ _ _ _))))); (all_goals (try simp only [xup_at, xup_ne, xup_up, ne_eq, Nat.reduceEqDiff, not_false_eq_true, Int.toNat_natCast] at *)); (all_goals (try omega)))
  all_goals first | exact h3 (by omega) (by omega) | exact h4 (by omega)
set_option maxRecDepth 100000 in
theorem c_number_E {M : xM} {Q : Option xV → xM → Prop} {i : Int} (h : (xrg i ∧ 0 ≤ M 6 2 ∧ M 6 2 ≤ 5) ∧ (0 ≤ i → i < M 6 2 → Q (some (xI (M 8 i.toNat))) M) ∧ (i < 0 ∨ M 6 2 ≤ i → Q (some (xI 0)) M)) : xm 1 m_Rows_number [xR (some 6), xI i] M Q := by
  obtain ⟨⟨h1, h2⟩, h3, h4⟩ := h
  (refine xm_of (own := "DrumTongue$Rows") rfl (by decide +kernel) tk_Rows [some (xR (some 6)), some (xI i)] (Nat.le_of_ble_eq_true rfl) rfl ?_; intro D nx X C P hW)
  refine xg hW k_Rows_number [] 40 ?_
  ((repeat' (first | (with_reducible refine And.intro ?_ ?_) | (intro h0; exact absurd h0 (by decide)) | (intro _) | ((conv => whnf); (first | (with_reducible refine And.intro ?_ ?_) | (intro h0; exact absurd h0 (by decide)) | (intro _))))); (all_goals (try omega)); (all_goals (try exact Nat.le_of_ble_eq_true rfl)); (all_goals (try ((conv => whnf); (first | (refine hW.2.1 _ _ ?_) | (change X _ _ _ _ _ _) | (change C _ _ _ _ _ _ _))))); (all_goals (try simp only [xup_at, xup_ne, xup_up, ne_eq, Nat.reduceEqDiff, not_false_eq_true, Int.toNat_natCast] at *)); (all_goals (try omega)))
  all_goals first | exact h3 (by omega) (by omega) | exact h4 (by omega)
set_option maxRecDepth 100000 in
theorem c_sizeI_E {M : xM} {Q : Option xV → xM → Prop} {i : Int} (h : (0 ≤ i ∧ i < M 6 2 ∧ M 6 2 ≤ 5) ∧ Q (some (xI (M 7 i.toNat))) M) : xm 1 m_Rows_size [xR (some 6), xI i] M Q :=
  c_size_E ⟨⟨⟨by omega, by omega⟩, by omega, by omega⟩, fun _ _ => h.2, fun q => by omega⟩
set_option maxRecDepth 100000 in
theorem c_numberI_E {M : xM} {Q : Option xV → xM → Prop} {i : Int} (h : (0 ≤ i ∧ i < M 6 2 ∧ M 6 2 ≤ 5) ∧ Q (some (xI (M 8 i.toNat))) M) : xm 1 m_Rows_number [xR (some 6), xI i] M Q :=
  c_number_E ⟨⟨⟨by omega, by omega⟩, by omega, by omega⟩, fun _ _ => h.2, fun q => by omega⟩
/-- one more row -/
def rAdd_E (M : xM) (size number : Int) : xM := xup (xup (xup M 7 (xup (M 7) (M 6 2).toNat size)) 8 (xup (M 8) (M 6 2).toNat number)) 6 (xup (M 6) 2 (M 6 2 + 1))
set_option maxRecDepth 100000 in
theorem c_add_E {M : xM} {Q : Option xV → xM → Prop} {size number : Int} (h : (0 ≤ M 6 2 ∧ M 6 2 ≤ 5) ∧ (M 6 2 = 5 → Q none M) ∧ (M 6 2 < 5 → Q none (rAdd_E M size number))) : xm 2 m_Rows_add [xR (some 6), xI size, xI number] M Q := by
  obtain ⟨⟨h1, h2⟩, h3, h4⟩ := h
  (refine xm_of (own := "DrumTongue$Rows") rfl (by decide +kernel) tk_Rows [some (xR (some 6)), some (xI size), some (xI number)] (Nat.le_of_ble_eq_true rfl) rfl ?_; intro D nx X C P hW)
  refine xg hW k_Rows_add [] 40 ?_
  ((repeat' (first | (with_reducible refine And.intro ?_ ?_) | (intro h0; exact absurd h0 (by decide)) | (intro _) | ((conv => whnf); (first | (with_reducible refine And.intro ?_ ?_) | (intro h0; exact absurd h0 (by decide)) | (intro _) | (refine hW.1 _ _ _ _ _ _ (c_isFull_E ?_) (by first | decide | omega) (by decide) (Nat.le_of_ble_eq_true rfl)))))); (all_goals (try omega)); (all_goals (try exact Nat.le_of_ble_eq_true rfl)); (all_goals (try ((conv => whnf); (first | (refine hW.2.1 _ _ ?_) | (change X _ _ _ _ _ _) | (change C _ _ _ _ _ _ _))))); (all_goals (try simp only [xup_at, xup_ne, xup_up, ne_eq, Nat.reduceEqDiff, not_false_eq_true, Int.toNat_natCast] at *)); (all_goals (try omega)))
  all_goals (try simp only [xup_at, xup_ne, xup_up, ne_eq, Nat.reduceEqDiff, not_false_eq_true, Int.toNat_natCast])
  all_goals first | omega | exact h3 (by omega) | exact h4 (by omega)
set_option maxRecDepth 100000 in
theorem c_drop_E {M : xM} {Q : Option xV → xM → Prop} {keep : Int} (h : (xrg keep ∧ 0 ≤ M 6 2 ∧ M 6 2 ≤ 5) ∧ (0 ≤ keep → keep < M 6 2 → Q none (xup M 6 (xup (M 6) 2 keep))) ∧ (keep < 0 ∨ M 6 2 ≤ keep → Q none M)) : xm 1 m_Rows_dropAllBehind [xR (some 6), xI keep] M Q := by
  obtain ⟨⟨h1, h2⟩, h3, h4⟩ := h
  (refine xm_of (own := "DrumTongue$Rows") rfl (by decide +kernel) tk_Rows [some (xR (some 6)), some (xI keep)] (Nat.le_of_ble_eq_true rfl) rfl ?_; intro D nx X C P hW)
  refine xg hW k_Rows_dropAllBehind [] 40 ?_
  ((repeat' (first | (with_reducible refine And.intro ?_ ?_) | (intro h0; exact absurd h0 (by decide)) | (intro _) | ((conv => whnf); (first | (with_reducible refine And.intro ?_ ?_) | (intro h0; exact absurd h0 (by decide)) | (intro _))))); (all_goals (try omega)); (all_goals (try exact Nat.le_of_ble_eq_true rfl)); (all_goals (try ((conv => whnf); (first | (refine hW.2.1 _ _ ?_) | (change X _ _ _ _ _ _) | (change C _ _ _ _ _ _ _))))); (all_goals (try simp only [xup_at, xup_ne, xup_up, ne_eq, Nat.reduceEqDiff, not_false_eq_true, Int.toNat_natCast] at *)); (all_goals (try omega)))
  all_goals first | exact h3 (by omega) (by omega) | exact h4 (by omega)
set_option maxRecDepth 100000 in
theorem c_used_LR {M : xM} {Q : Option xV → xM → Prop} (h : Q (some (xI (M 10 2))) M) : xm 1 m_Rows_used [xR (some 10)] M Q := by
  (refine xm_of (own := "DrumTongue$Rows") rfl (by decide +kernel) tk_Rows [some (xR (some 10))] (Nat.le_of_ble_eq_true rfl) rfl ?_; intro D nx X C P hW)
  refine xg hW k_Rows_used [] 40 ?_
  ((repeat' (first | (with_reducible refine And.intro ?_ ?_) | (intro h0; exact absurd h0 (by decide)) | (intro _) | ((conv => whnf); (first | (with_reducible refine And.intro ?_ ?_) | (intro h0; exact absurd h0 (by decide)) | (intro _))))); (all_goals (try omega)); (all_goals (try exact Nat.le_of_ble_eq_true rfl)); (all_goals (try ((conv => whnf); (first | (refine hW.2.1 _ _ ?_) | (change X _ _ _ _ _ _) | (change C _ _ _ _ _ _ _))))); (all_goals (try simp only [xup_at, xup_ne, xup_up, ne_eq, Nat.reduceEqDiff, not_false_eq_true, Int.toNat_natCast] at *)); (all_goals (try omega)))
  all_goals exact h
set_option maxRecDepth 100000 in
theorem c_isFull_LR {M : xM} {Q : Option xV → xM → Prop} (h : (0 ≤ M 10 2 ∧ M 10 2 ≤ 31) ∧ (M 10 2 = 31 → Q (some (xI 1)) M) ∧ (M 10 2 < 31 → Q (some (xI 0)) M)) : xm 1 m_Rows_isFull [xR (some 10)] M Q := by
  obtain ⟨⟨h1, h2⟩, h3, h4⟩ := h
  (refine xm_of (own := "DrumTongue$Rows") rfl (by decide +kernel) tk_Rows [some (xR (some 10))] (Nat.le_of_ble_eq_true rfl) rfl ?_; intro D nx X C P hW)
  refine xg hW k_Rows_isFull [] 40 ?_
  ((repeat' (first | (with_reducible refine And.intro ?_ ?_) | (intro h0; exact absurd h0 (by decide)) | (intro _) | ((conv => whnf); (first | (with_reducible refine And.intro ?_ ?_) | (intro h0; exact absurd h0 (by decide)) | (intro _))))); (all_goals (try omega)); (all_goals (try exact Nat.le_of_ble_eq_true rfl)); (all_goals (try ((conv => whnf); (first | (refine hW.2.1 _ _ ?_) | (change X _ _ _ _ _ _) | (change C _ _ _ _ _ _ _))))); (all_goals (try simp only [xup_at, xup_ne, xup_up, ne_eq, Nat.reduceEqDiff, not_false_eq_true, Int.toNat_natCast] at *)); (all_goals (try omega)))
  all_goals first | exact h3 (by omega) | exact h4 (by omega)
set_option maxRecDepth 100000 in
theorem c_size_LR {M : xM} {Q : Option xV → xM → Prop} {i : Int} (h : (xrg i ∧ 0 ≤ M 10 2 ∧ M 10 2 ≤ 31) ∧ (0 ≤ i → i < M 10 2 → Q (some (xI (M 11 i.toNat))) M) ∧ (i < 0 ∨ M 10 2 ≤ i → Q (some (xI 0)) M)) : xm 1 m_Rows_size [xR (some 10), xI i] M Q := by
  obtain ⟨⟨h1, h2⟩, h3, h4⟩ := h
  (refine xm_of (own := "DrumTongue$Rows") rfl (by decide +kernel) tk_Rows [some (xR (some 10)), some (xI i)] (Nat.le_of_ble_eq_true rfl) rfl ?_; intro D nx X C P hW)
  refine xg hW k_Rows_size [] 40 ?_
  ((repeat' (first | (with_reducible refine And.intro ?_ ?_) | (intro h0; exact absurd h0 (by decide)) | (intro _) | ((conv => whnf); (first | (with_reducible refine And.intro ?_ ?_) | (intro h0; exact absurd h0 (by decide)) | (intro _))))); (all_goals (try omega)); (all_goals (try exact Nat.le_of_ble_eq_true rfl)); (all_goals (try ((conv => whnf); (first | (refine hW.2.1 _ _ ?_) | (change X _ _ _ _ _ _) | (change C _ _ _ _ _ _ _))))); (all_goals (try simp only [xup_at, xup_ne, xup_up, ne_eq, Nat.reduceEqDiff, not_false_eq_true, Int.toNat_natCast] at *)); (all_goals (try omega)))
  all_goals first | exact h3 (by omega) (by omega) | exact h4 (by omega)
set_option maxRecDepth 100000 in
theorem c_number_LR {M : xM} {Q : Option xV → xM → Prop} {i : Int} (h : (xrg i ∧ 0 ≤ M 10 2 ∧ M 10 2 ≤ 31) ∧ (0 ≤ i → i < M 10 2 → Q (some (xI (M 12 i.toNat))) M) ∧ (i < 0 ∨ M 10 2 ≤ i → Q (some (xI 0)) M)) : xm 1 m_Rows_number [xR (some 10), xI i] M Q := by
  obtain ⟨⟨h1, h2⟩, h3, h4⟩ := h
  (refine xm_of (own := "DrumTongue$Rows") rfl (by decide +kernel) tk_Rows [some (xR (some 10)), some (xI i)] (Nat.le_of_ble_eq_true rfl) rfl ?_; intro D nx X C P hW)
  refine xg hW k_Rows_number [] 40 ?_
  ((repeat' (first | (with_reducible refine And.intro ?_ ?_) | (intro h0; exact absurd h0 (by decide)) | (intro _) | ((conv => whnf); (first | (with_reducible refine And.intro ?_ ?_) | (intro h0; exact absurd h0 (by decide)) | (intro _))))); (all_goals (try omega)); (all_goals (try exact Nat.le_of_ble_eq_true rfl)); (all_goals (try ((conv => whnf); (first | (refine hW.2.1 _ _ ?_) | (change X _ _ _ _ _ _) | (change C _ _ _ _ _ _ _))))); (all_goals (try simp only [xup_at, xup_ne, xup_up, ne_eq, Nat.reduceEqDiff, not_false_eq_true, Int.toNat_natCast] at *)); (all_goals (try omega)))
  all_goals first | exact h3 (by omega) (by omega) | exact h4 (by omega)
set_option maxRecDepth 100000 in
theorem c_sizeI_LR {M : xM} {Q : Option xV → xM → Prop} {i : Int} (h : (0 ≤ i ∧ i < M 10 2 ∧ M 10 2 ≤ 31) ∧ Q (some (xI (M 11 i.toNat))) M) : xm 1 m_Rows_size [xR (some 10), xI i] M Q :=
  c_size_LR ⟨⟨⟨by omega, by omega⟩, by omega, by omega⟩, fun _ _ => h.2, fun q => by omega⟩
set_option maxRecDepth 100000 in
theorem c_numberI_LR {M : xM} {Q : Option xV → xM → Prop} {i : Int} (h : (0 ≤ i ∧ i < M 10 2 ∧ M 10 2 ≤ 31) ∧ Q (some (xI (M 12 i.toNat))) M) : xm 1 m_Rows_number [xR (some 10), xI i] M Q :=
  c_number_LR ⟨⟨⟨by omega, by omega⟩, by omega, by omega⟩, fun _ _ => h.2, fun q => by omega⟩
/-- one more row -/
def rAdd_LR (M : xM) (size number : Int) : xM := xup (xup (xup M 11 (xup (M 11) (M 10 2).toNat size)) 12 (xup (M 12) (M 10 2).toNat number)) 10 (xup (M 10) 2 (M 10 2 + 1))
set_option maxRecDepth 100000 in
theorem c_add_LR {M : xM} {Q : Option xV → xM → Prop} {size number : Int} (h : (0 ≤ M 10 2 ∧ M 10 2 ≤ 31) ∧ (M 10 2 = 31 → Q none M) ∧ (M 10 2 < 31 → Q none (rAdd_LR M size number))) : xm 2 m_Rows_add [xR (some 10), xI size, xI number] M Q := by
  obtain ⟨⟨h1, h2⟩, h3, h4⟩ := h
  (refine xm_of (own := "DrumTongue$Rows") rfl (by decide +kernel) tk_Rows [some (xR (some 10)), some (xI size), some (xI number)] (Nat.le_of_ble_eq_true rfl) rfl ?_; intro D nx X C P hW)
  refine xg hW k_Rows_add [] 40 ?_
  ((repeat' (first | (with_reducible refine And.intro ?_ ?_) | (intro h0; exact absurd h0 (by decide)) | (intro _) | ((conv => whnf); (first | (with_reducible refine And.intro ?_ ?_) | (intro h0; exact absurd h0 (by decide)) | (intro _) | (refine hW.1 _ _ _ _ _ _ (c_isFull_LR ?_) (by first | decide | omega) (by decide) (Nat.le_of_ble_eq_true rfl)))))); (all_goals (try omega)); (all_goals (try exact Nat.le_of_ble_eq_true rfl)); (all_goals (try ((conv => whnf); (first | (refine hW.2.1 _ _ ?_) | (change X _ _ _ _ _ _) | (change C _ _ _ _ _ _ _))))); (all_goals (try simp only [xup_at, xup_ne, xup_up, ne_eq, Nat.reduceEqDiff, not_false_eq_true, Int.toNat_natCast] at *)); (all_goals (try omega)))
  all_goals (try simp only [xup_at, xup_ne, xup_up, ne_eq, Nat.reduceEqDiff, not_false_eq_true, Int.toNat_natCast])
  all_goals first | omega | exact h3 (by omega) | exact h4 (by omega)
set_option maxRecDepth 100000 in
theorem c_drop_LR {M : xM} {Q : Option xV → xM → Prop} {keep : Int} (h : (xrg keep ∧ 0 ≤ M 10 2 ∧ M 10 2 ≤ 31) ∧ (0 ≤ keep → keep < M 10 2 → Q none (xup M 10 (xup (M 10) 2 keep))) ∧ (keep < 0 ∨ M 10 2 ≤ keep → Q none M)) : xm 1 m_Rows_dropAllBehind [xR (some 10), xI keep] M Q := by
  obtain ⟨⟨h1, h2⟩, h3, h4⟩ := h
  (refine xm_of (own := "DrumTongue$Rows") rfl (by decide +kernel) tk_Rows [some (xR (some 10)), some (xI keep)] (Nat.le_of_ble_eq_true rfl) rfl ?_; intro D nx X C P hW)
  refine xg hW k_Rows_dropAllBehind [] 40 ?_
  ((repeat' (first | (with_reducible refine And.intro ?_ ?_) | (intro h0; exact absurd h0 (by decide)) | (intro _) | ((conv => whnf); (first | (with_reducible refine And.intro ?_ ?_) | (intro h0; exact absurd h0 (by decide)) | (intro _))))); (all_goals (try omega)); (all_goals (try exact Nat.le_of_ble_eq_true rfl)); (all_goals (try ((conv => whnf); (first | (refine hW.2.1 _ _ ?_) | (change X _ _ _ _ _ _) | (change C _ _ _ _ _ _ _))))); (all_goals (try simp only [xup_at, xup_ne, xup_up, ne_eq, Nat.reduceEqDiff, not_false_eq_true, Int.toNat_natCast] at *)); (all_goals (try omega)))
  all_goals first | exact h3 (by omega) (by omega) | exact h4 (by omega)
set_option maxRecDepth 100000 in
theorem c_used_H {M : xM} {Q : Option xV → xM → Prop} (h : Q (some (xI (M 18 2))) M) : xm 1 m_Rows_used [xR (some 18)] M Q := by
  (refine xm_of (own := "DrumTongue$Rows") rfl (by decide +kernel) tk_Rows [some (xR (some 18))] (Nat.le_of_ble_eq_true rfl) rfl ?_; intro D nx X C P hW)
  refine xg hW k_Rows_used [] 40 ?_
  ((repeat' (first | (with_reducible refine And.intro ?_ ?_) | (intro h0; exact absurd h0 (by decide)) | (intro _) | ((conv => whnf); (first | (with_reducible refine And.intro ?_ ?_) | (intro h0; exact absurd h0 (by decide)) | (intro _))))); (all_goals (try omega)); (all_goals (try exact Nat.le_of_ble_eq_true rfl)); (all_goals (try ((conv => whnf); (first | (refine hW.2.1 _ _ ?_) | (change X _ _ _ _ _ _) | (change C _ _ _ _ _ _ _))))); (all_goals (try simp only [xup_at, xup_ne, xup_up, ne_eq, Nat.reduceEqDiff, not_false_eq_true, Int.toNat_natCast] at *)); (all_goals (try omega)))
  all_goals exact h
set_option maxRecDepth 100000 in
theorem c_isFull_H {M : xM} {Q : Option xV → xM → Prop} (h : (0 ≤ M 18 2 ∧ M 18 2 ≤ 10) ∧ (M 18 2 = 10 → Q (some (xI 1)) M) ∧ (M 18 2 < 10 → Q (some (xI 0)) M)) : xm 1 m_Rows_isFull [xR (some 18)] M Q := by
  obtain ⟨⟨h1, h2⟩, h3, h4⟩ := h
  (refine xm_of (own := "DrumTongue$Rows") rfl (by decide +kernel) tk_Rows [some (xR (some 18))] (Nat.le_of_ble_eq_true rfl) rfl ?_; intro D nx X C P hW)
  refine xg hW k_Rows_isFull [] 40 ?_
  ((repeat' (first | (with_reducible refine And.intro ?_ ?_) | (intro h0; exact absurd h0 (by decide)) | (intro _) | ((conv => whnf); (first | (with_reducible refine And.intro ?_ ?_) | (intro h0; exact absurd h0 (by decide)) | (intro _))))); (all_goals (try omega)); (all_goals (try exact Nat.le_of_ble_eq_true rfl)); (all_goals (try ((conv => whnf); (first | (refine hW.2.1 _ _ ?_) | (change X _ _ _ _ _ _) | (change C _ _ _ _ _ _ _))))); (all_goals (try simp only [xup_at, xup_ne, xup_up, ne_eq, Nat.reduceEqDiff, not_false_eq_true, Int.toNat_natCast] at *)); (all_goals (try omega)))
  all_goals first | exact h3 (by omega) | exact h4 (by omega)
set_option maxRecDepth 100000 in
theorem c_size_H {M : xM} {Q : Option xV → xM → Prop} {i : Int} (h : (xrg i ∧ 0 ≤ M 18 2 ∧ M 18 2 ≤ 10) ∧ (0 ≤ i → i < M 18 2 → Q (some (xI (M 19 i.toNat))) M) ∧ (i < 0 ∨ M 18 2 ≤ i → Q (some (xI 0)) M)) : xm 1 m_Rows_size [xR (some 18), xI i] M Q := by
  obtain ⟨⟨h1, h2⟩, h3, h4⟩ := h
  (refine xm_of (own := "DrumTongue$Rows") rfl (by decide +kernel) tk_Rows [some (xR (some 18)), some (xI i)] (Nat.le_of_ble_eq_true rfl) rfl ?_; intro D nx X C P hW)
  refine xg hW k_Rows_size [] 40 ?_
  ((repeat' (first | (with_reducible refine And.intro ?_ ?_) | (intro h0; exact absurd h0 (by decide)) | (intro _) | ((conv => whnf); (first | (with_reducible refine And.intro ?_ ?_) | (intro h0; exact absurd h0 (by decide)) | (intro _))))); (all_goals (try omega)); (all_goals (try exact Nat.le_of_ble_eq_true rfl)); (all_goals (try ((conv => whnf); (first | (refine hW.2.1 _ _ ?_) | (change X _ _ _ _ _ _) | (change C _ _ _ _ _ _ _))))); (all_goals (try simp only [xup_at, xup_ne, xup_up, ne_eq, Nat.reduceEqDiff, not_false_eq_true, Int.toNat_natCast] at *)); (all_goals (try omega)))
  all_goals first | exact h3 (by omega) (by omega) | exact h4 (by omega)
set_option maxRecDepth 100000 in
theorem c_number_H {M : xM} {Q : Option xV → xM → Prop} {i : Int} (h : (xrg i ∧ 0 ≤ M 18 2 ∧ M 18 2 ≤ 10) ∧ (0 ≤ i → i < M 18 2 → Q (some (xI (M 20 i.toNat))) M) ∧ (i < 0 ∨ M 18 2 ≤ i → Q (some (xI 0)) M)) : xm 1 m_Rows_number [xR (some 18), xI i] M Q := by
  obtain ⟨⟨h1, h2⟩, h3, h4⟩ := h
  (refine xm_of (own := "DrumTongue$Rows") rfl (by decide +kernel) tk_Rows [some (xR (some 18)), some (xI i)] (Nat.le_of_ble_eq_true rfl) rfl ?_; intro D nx X C P hW)
  refine xg hW k_Rows_number [] 40 ?_
  ((repeat' (first | (with_reducible refine And.intro ?_ ?_) | (intro h0; exact absurd h0 (by decide)) | (intro _) | ((conv => whnf); (first | (with_reducible refine And.intro ?_ ?_) | (intro h0; exact absurd h0 (by decide)) | (intro _))))); (all_goals (try omega)); (all_goals (try exact Nat.le_of_ble_eq_true rfl)); (all_goals (try ((conv => whnf); (first | (refine hW.2.1 _ _ ?_) | (change X _ _ _ _ _ _) | (change C _ _ _ _ _ _ _))))); (all_goals (try simp only [xup_at, xup_ne, xup_up, ne_eq, Nat.reduceEqDiff, not_false_eq_true, Int.toNat_natCast] at *)); (all_goals (try omega)))
  all_goals first | exact h3 (by omega) (by omega) | exact h4 (by omega)
set_option maxRecDepth 100000 in
theorem c_sizeI_H {M : xM} {Q : Option xV → xM → Prop} {i : Int} (h : (0 ≤ i ∧ i < M 18 2 ∧ M 18 2 ≤ 10) ∧ Q (some (xI (M 19 i.toNat))) M) : xm 1 m_Rows_size [xR (some 18), xI i] M Q :=
  c_size_H ⟨⟨⟨by omega, by omega⟩, by omega, by omega⟩, fun _ _ => h.2, fun q => by omega⟩
set_option maxRecDepth 100000 in
theorem c_numberI_H {M : xM} {Q : Option xV → xM → Prop} {i : Int} (h : (0 ≤ i ∧ i < M 18 2 ∧ M 18 2 ≤ 10) ∧ Q (some (xI (M 20 i.toNat))) M) : xm 1 m_Rows_number [xR (some 18), xI i] M Q :=
  c_number_H ⟨⟨⟨by omega, by omega⟩, by omega, by omega⟩, fun _ _ => h.2, fun q => by omega⟩
/-- one more row -/
def rAdd_H (M : xM) (size number : Int) : xM := xup (xup (xup M 19 (xup (M 19) (M 18 2).toNat size)) 20 (xup (M 20) (M 18 2).toNat number)) 18 (xup (M 18) 2 (M 18 2 + 1))
set_option maxRecDepth 100000 in
theorem c_add_H {M : xM} {Q : Option xV → xM → Prop} {size number : Int} (h : (0 ≤ M 18 2 ∧ M 18 2 ≤ 10) ∧ (M 18 2 = 10 → Q none M) ∧ (M 18 2 < 10 → Q none (rAdd_H M size number))) : xm 2 m_Rows_add [xR (some 18), xI size, xI number] M Q := by
  obtain ⟨⟨h1, h2⟩, h3, h4⟩ := h
  (refine xm_of (own := "DrumTongue$Rows") rfl (by decide +kernel) tk_Rows [some (xR (some 18)), some (xI size), some (xI number)] (Nat.le_of_ble_eq_true rfl) rfl ?_; intro D nx X C P hW)
  refine xg hW k_Rows_add [] 40 ?_
  ((repeat' (first | (with_reducible refine And.intro ?_ ?_) | (intro h0; exact absurd h0 (by decide)) | (intro _) | ((conv => whnf); (first | (with_reducible refine And.intro ?_ ?_) | (intro h0; exact absurd h0 (by decide)) | (intro _) | (refine hW.1 _ _ _ _ _ _ (c_isFull_H ?_) (by first | decide | omega) (by decide) (Nat.le_of_ble_eq_true rfl)))))); (all_goals (try omega)); (all_goals (try exact Nat.le_of_ble_eq_true rfl)); (all_goals (try ((conv => whnf); (first | (refine hW.2.1 _ _ ?_) | (change X _ _ _ _ _ _) | (change C _ _ _ _ _ _ _))))); (all_goals (try simp only [xup_at, xup_ne, xup_up, ne_eq, Nat.reduceEqDiff, not_false_eq_true, Int.toNat_natCast] at *)); (all_goals (try omega)))
  all_goals (try simp only [xup_at, xup_ne, xup_up, ne_eq, Nat.reduceEqDiff, not_false_eq_true, Int.toNat_natCast])
  all_goals first | omega | exact h3 (by omega) | exact h4 (by omega)
set_option maxRecDepth 100000 in
theorem c_drop_H {M : xM} {Q : Option xV → xM → Prop} {keep : Int} (h : (xrg keep ∧ 0 ≤ M 18 2 ∧ M 18 2 ≤ 10) ∧ (0 ≤ keep → keep < M 18 2 → Q none (xup M 18 (xup (M 18) 2 keep))) ∧ (keep < 0 ∨ M 18 2 ≤ keep → Q none M)) : xm 1 m_Rows_dropAllBehind [xR (some 18), xI keep] M Q := by
  obtain ⟨⟨h1, h2⟩, h3, h4⟩ := h
  (refine xm_of (own := "DrumTongue$Rows") rfl (by decide +kernel) tk_Rows [some (xR (some 18)), some (xI keep)] (Nat.le_of_ble_eq_true rfl) rfl ?_; intro D nx X C P hW)
  refine xg hW k_Rows_dropAllBehind [] 40 ?_
  ((repeat' (first | (with_reducible refine And.intro ?_ ?_) | (intro h0; exact absurd h0 (by decide)) | (intro _) | ((conv => whnf); (first | (with_reducible refine And.intro ?_ ?_) | (intro h0; exact absurd h0 (by decide)) | (intro _))))); (all_goals (try omega)); (all_goals (try exact Nat.le_of_ble_eq_true rfl)); (all_goals (try ((conv => whnf); (first | (refine hW.2.1 _ _ ?_) | (change X _ _ _ _ _ _) | (change C _ _ _ _ _ _ _))))); (all_goals (try simp only [xup_at, xup_ne, xup_up, ne_eq, Nat.reduceEqDiff, not_false_eq_true, Int.toNat_natCast] at *)); (all_goals (try omega)))
  all_goals first | exact h3 (by omega) (by omega) | exact h4 (by omega)
/-- those ahead: how many, their sizes and numbers -/
def aheadOk (M : xM) : Prop := 0 ≤ M 18 2 ∧ M 18 2 ≤ 10 ∧ ∀ i : Nat, (i : Int) < M 18 2 → isB (M 19 i) (M 20 i)
def allApart (M : xM) (s n v : Int) : Prop := ∀ i : Nat, (i : Int) < M 18 2 → apart (M 19 i) (M 20 i) s n v
set_option maxRecDepth 100000 in
theorem c_allApart {M : xM} {Q : Option xV → xM → Prop} {s n v : Int} (h : (aheadOk M ∧ isB s n ∧ xrg v) ∧ (allApart M s n v → Q (some (xI 1)) M) ∧ (¬ allApart M s n v → Q (some (xI 0)) M)) : xm 4 m_Rows_allApartFrom [xR (some 18), xI s, xI n, xI v] M Q := by
  obtain ⟨⟨⟨u1, u2, u3⟩, hb, hv1, hv2⟩, h3, h4⟩ := h
  (refine xm_of (own := "DrumTongue$Rows") rfl (by decide +kernel) tk_Rows [some (xR (some 18)), some (xI s), some (xI n), some (xI v), none] (Nat.le_of_ble_eq_true rfl) rfl ?_; intro D nx X C P hW)
  obtain ⟨s1, s2, s3, s4⟩ := hb
  have loop : ∀ (m i : Nat), (i : Int) + m = M 18 2 → (∀ j, j < i → apart (M 19 j) (M 20 j) s n v) → X 3 [some (xR (some 18)), some (xI s), some (xI n), some (xI v), some (xI (i : Int))] [] (M, D, nx) 0 0 := by
    intro m
    induction m with
    | zero =>
      intro i hi hall
      refine xg hW k_Rows_allApartFrom [3] 40 ?_
      ((repeat' (first | (with_reducible refine And.intro ?_ ?_) | (intro h0; exact absurd h0 (by decide)) | (intro _) | ((conv => whnf); (first | (with_reducible refine And.intro ?_ ?_) | (intro h0; exact absurd h0 (by decide)) | (intro _))))); (all_goals (try omega)); (all_goals (try exact Nat.le_of_ble_eq_true rfl)); (all_goals (try ((conv => whnf); (first | (refine hW.2.1 _ _ ?_) | (change X _ _ _ _ _ _) | (change C _ _ _ _ _ _ _))))); (all_goals (try simp only [xup_at, xup_ne, xup_up, ne_eq, Nat.reduceEqDiff, not_false_eq_true, Int.toNat_natCast] at *)); (all_goals (try omega)))
      exact h3 fun j hj => hall j (by omega)
    | succ m ih =>
      intro i hi hall
      obtain ⟨t1, t2, t3, t4⟩ := u3 i (by omega)
      refine xg hW k_Rows_allApartFrom [3] 40 ?_
      ((repeat' (first | (with_reducible refine And.intro ?_ ?_) | (intro h0; exact absurd h0 (by decide)) | (intro _) | ((conv => whnf); (first | (with_reducible refine And.intro ?_ ?_) | (intro h0; exact absurd h0 (by decide)) | (intro _) | (refine hW.1 _ _ _ _ _ _ (c_areApart ?_) (by first | decide | omega) (by decide) (Nat.le_of_ble_eq_true rfl)))))); (all_goals (try omega)); (all_goals (try exact Nat.le_of_ble_eq_true rfl)); (all_goals (try ((conv => whnf); (first | (refine hW.2.1 _ _ ?_) | (change X _ _ _ _ _ _) | (change C _ _ _ _ _ _ _))))); (all_goals (try simp only [xup_at, xup_ne, xup_up, ne_eq, Nat.reduceEqDiff, not_false_eq_true, Int.toNat_natCast] at *)); (all_goals (try omega)))
      · rename_i hap _
        exact ih (i + 1) (by omega) fun j hj => by
          rcases Nat.lt_or_ge j i with q | q
          · exact hall j q
          · rw [show j = i by omega]; exact hap
      · rename_i hap _
        exact h4 fun hq => hap (hq i (by omega))
  refine xg hW k_Rows_allApartFrom [3] 40 ?_
  ((repeat' (first | (with_reducible refine And.intro ?_ ?_) | (intro h0; exact absurd h0 (by decide)) | (intro _) | ((conv => whnf); (first | (with_reducible refine And.intro ?_ ?_) | (intro h0; exact absurd h0 (by decide)) | (intro _))))); (all_goals (try omega)); (all_goals (try exact Nat.le_of_ble_eq_true rfl)); (all_goals (try ((conv => whnf); (first | (refine hW.2.1 _ _ ?_) | (change X _ _ _ _ _ _) | (change C _ _ _ _ _ _ _))))); (all_goals (try simp only [xup_at, xup_ne, xup_up, ne_eq, Nat.reduceEqDiff, not_false_eq_true, Int.toNat_natCast] at *)); (all_goals (try omega)))
  exact loop (M 18 2).toNat 0 (by omega) fun j hj => by omega
theorem c_allApartY {M : xM} {Q : Option xV → xM → Prop} {s n v : Int} (ha : aheadOk M) (hb : isB s n) (h : xrg v ∧ (allApart M s n v → Q (some (xI 1)) M) ∧ (¬ allApart M s n v → Q (some (xI 0)) M)) : xm 4 m_Rows_allApartFrom [xR (some 18), xI s, xI n, xI v] M Q :=
  c_allApart ⟨⟨ha, hb, h.1⟩, h.2⟩
theorem c_drop0_H {M : xM} {Q : Option xV → xM → Prop} (h : (0 ≤ M 18 2 ∧ M 18 2 ≤ 10) ∧ Q none (xup M 18 (xup (M 18) 2 0))) : xm 1 m_Rows_dropAllBehind [xR (some 18), xI 0] M Q :=
  c_drop_H ⟨⟨⟨by decide, by decide⟩, h.1⟩, fun _ _ => h.2, fun q => by
    have e : M 18 2 = 0 := by omega
    have h2 := h.2
    rw [← e, xup_id, xup_id] at h2
    exact h2⟩
