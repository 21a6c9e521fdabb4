/-! constructors: the class and its parts -/
abbrev xGr (n first : Nat) : Option xE := some (.inr (2, n, fun j => xR (some (first + j))))
/-- the first n places hold v -/
abbrev xfl (f : Nat → xV) (n : Nat) (v : Int) : Nat → xV := fun j => if j < n then xI v else f j
theorem xfl_0 (f : Nat → xV) (v : Int) : xfl f 0 v = f := by
  funext j
  simp [xfl]
theorem xfl_s (f : Nat → xV) (n : Nat) (v : Int) : xup (xfl f n v) n (xI v) = xfl f (n + 1) v := by
  funext j
  simp only [xup, xfl]
  by_cases h1 : j = n
  · rw [if_pos h1, if_pos (by omega)]
  · rw [if_neg h1]
    by_cases h2 : j < n
    · rw [if_pos h2, if_pos (by omega)]
    · rw [if_neg h2, if_neg (by omega)]
theorem xat_s {α : Type} (f : Nat → α) (k : Nat) (v : α) : xup f k v k = v := by
  simp [xup]
set_option maxRecDepth 100000 in
theorem i_fill {D : Nat → Option xE} {nx : Nat} {Q : Option xV → (Nat → Option xE) → Nat → Prop} {a n : Nat} {v : Int} {f : Nat → xV} (h : (D a = xAr n f ∧ n < 1000) ∧ Q none (xup D a (xAr n (xfl f n v))) nx) : xi 1 0 0 m_Arrays_fill [xR (some a), xI v] D nx Q := by
  obtain ⟨⟨hD, hn⟩, h⟩ := h
  (refine xi_of (own := "java/util/Arrays") false rfl (by decide +kernel) tk_Arrays (fun q => by cases q) [some (xR (some a)), some (xI v), none, none] (Nat.le_of_ble_eq_true rfl) rfl ?_; intro M X C P hW)
  have loop : ∀ (m i : Nat), i + m = n → X 5 [some (xR (some a)), some (xI v), some (xI (i : Int)), some (xI (n : Int))] [] (M, xup D a (xAr n (xfl f i v)), nx) 0 0 := by
    intro m
    induction m with
    | zero =>
      intro i hi
      refine xgo hW.2.2 k_Arrays_fill [5] 40 ?_
      ((repeat' (first | (with_reducible refine And.intro ?_ ?_) | (intro h0; exact absurd h0 (by decide)) | (intro h0; exact absurd rfl h0) | (intro _) | ((conv => whnf); (first | (with_reducible refine And.intro ?_ ?_) | (intro h0; exact absurd h0 (by decide)) | (intro h0; exact absurd rfl h0) | (intro _) | (rw [xat_s]))))); (all_goals (try exact Nat.le_of_ble_eq_true rfl)); (all_goals (try (exact rfl))); (all_goals (try decide)); (all_goals (try omega)); (all_goals (try ((conv => whnf); (first | (refine hW.2.1 _ _ _ ?_) | (change X _ _ _ _ _ _) | (change C _ _ _ _ _ _ _))))))
      obtain rfl : i = n := by omega
      exact h
    | succ m ih =>
      intro i hi
      refine xgo hW.2.2 k_Arrays_fill [5] 40 ?_
      ((repeat' (first | (with_reducible refine And.intro ?_ ?_) | (intro h0; exact absurd h0 (by decide)) | (intro h0; exact absurd rfl h0) | (intro _) | ((conv => whnf); (first | (with_reducible refine And.intro ?_ ?_) | (intro h0; exact absurd h0 (by decide)) | (intro h0; exact absurd rfl h0) | (intro _) | (rw [xat_s]))))); (all_goals (try exact Nat.le_of_ble_eq_true rfl)); (all_goals (try (exact rfl))); (all_goals (try decide)); (all_goals (try omega)); (all_goals (try ((conv => whnf); (first | (refine hW.2.1 _ _ _ ?_) | (change X _ _ _ _ _ _) | (change C _ _ _ _ _ _ _))))))
      have h1 := ih (i + 1) (by omega)
      rw [← xfl_s] at h1
      rw [xup_up]
      exact h1
  have e : xup D a (xAr n f) = D := by rw [← hD]; exact xup_id D a
  have h1 := loop n 0 (by omega)
  rw [xfl_0] at h1
  rw [← e]
  refine xgo hW.2.2 k_Arrays_fill [5] 40 ?_
  ((repeat' (first | (with_reducible refine And.intro ?_ ?_) | (intro h0; exact absurd h0 (by decide)) | (intro h0; exact absurd rfl h0) | (intro _) | ((conv => whnf); (first | (with_reducible refine And.intro ?_ ?_) | (intro h0; exact absurd h0 (by decide)) | (intro h0; exact absurd rfl h0) | (intro _) | (rw [xat_s]))))); (all_goals (try exact Nat.le_of_ble_eq_true rfl)); (all_goals (try (exact rfl))); (all_goals (try decide)); (all_goals (try omega)); (all_goals (try ((conv => whnf); (first | (refine hW.2.1 _ _ _ ?_) | (change X _ _ _ _ _ _) | (change C _ _ _ _ _ _ _))))))
  exact h1
set_option maxRecDepth 100000 in
theorem i_forget {D : Nat → Option xE} {nx : Nat} {f : Nat → xV} {Q : Option xV → (Nat → Option xE) → Nat → Prop} (h : (D 2 = xO 5 [xR (some 3), xR (some 6), xR (some 9), xR (some 15), xR (some 16), xR (some 17), xI 1, xR (some 18), xR (some 21), xR (some 22), xI 0, xI 0] ∧ D 15 = xAr 10 f) ∧ Q none (xup D 15 (xAr 10 (xfl f 10 (-1)))) nx) : xi 2 0 0 m_Tongue_forgetPhrases [xR (some 2)] D nx Q := by
  obtain ⟨⟨hD, hD2⟩, h⟩ := h
  have e : xup (xup D 2 (xO 5 [xR (some 3), xR (some 6), xR (some 9), xR (some 15), xR (some 16), xR (some 17), xI 1, xR (some 18), xR (some 21), xR (some 22), xI 0, xI 0])) 15 (xAr 10 f) = D := by rw [← hD, ← hD2, xup_id, xup_id]
  rw [← e]
  (refine xi_of (own := "DrumTongue$Tongue") false rfl (by decide +kernel) tk_Tongue (fun q => by cases q) [some (xR (some 2))] (Nat.le_of_ble_eq_true rfl) rfl ?_; intro M X C P hW)
  refine xgo hW.2.2 k_Tongue_forgetPhrases [] 40 ?_
  ((repeat' (first | (with_reducible refine And.intro ?_ ?_) | (intro h0; exact absurd h0 (by decide)) | (intro h0; exact absurd rfl h0) | (intro _) | ((conv => whnf); (first | (with_reducible refine And.intro ?_ ?_) | (intro h0; exact absurd h0 (by decide)) | (intro h0; exact absurd rfl h0) | (intro _) | (refine hW.1 _ _ _ _ _ _ _ _ _ _ _ (i_fill (n := 10) (f := f) ?_) (by decide) (by decide) (Nat.le_of_ble_eq_true rfl) (Nat.le_of_ble_eq_true rfl) (Nat.le_of_ble_eq_true rfl)))))); (all_goals (try exact Nat.le_of_ble_eq_true rfl)); (all_goals (try (exact rfl))); (all_goals (try decide)); (all_goals (try omega)); (all_goals (try ((conv => whnf); (first | (refine hW.2.1 _ _ _ ?_) | (change X _ _ _ _ _ _) | (change C _ _ _ _ _ _ _))))))
  all_goals refine xqD h ?_
  all_goals
    intro b
    by_cases hb2 : b = 2
    · subst hb2
      first | rfl | assumption | exact Eq.symm (by assumption)
    by_cases hb15 : b = 15
    · subst hb15
      first | rfl | assumption | exact Eq.symm (by assumption)
    simp only [xup, xgrid]
    (repeat rw [if_neg (by omega)])
set_option maxRecDepth 100000 in
set_option maxHeartbeats 4000000 in
theorem i_Tongue {D : Nat → Option xE} {Q : Option xV → (Nat → Option xE) → Nat → Prop} (h : D 2 = xO 5 [xR none, xR none, xR none, xR none, xR none, xR none, xI 0, xR none, xR none, xR none, xI 0, xI 0] ∧ Q none (xup (xup (xup (xup (xup (xup (xup (xup (xup (xup (xup (xup (xup (xup (xup (xup (xup (xup (xup (xup (xup (D) 2 (xO 5 [xR (some 3), xR (some 6), xR (some 9), xR (some 15), xR (some 16), xR (some 17), xI 1, xR (some 18), xR (some 21), xR (some 22), xI 0, xI 0])) 3 (xO 3 [xR (some 4), xR (some 5), xI 0])) 4 (xAr 10 xz)) 5 (xAr 10 xz)) 6 (xO 3 [xR (some 7), xR (some 8), xI 0])) 7 (xAr 5 xz)) 8 (xAr 5 xz)) 9 (xO 4 [xR (some 10), xR (some 13), xR (some 14)])) 10 (xO 3 [xR (some 11), xR (some 12), xI 1])) 11 (xAr 31 (xup xz 0 (xI 0)))) 12 (xAr 31 (xup xz 0 (xI 0)))) 13 (xAr 31 (xup xz 0 (xI (-1))))) 14 (xAr 31 (xup xz 0 (xI (-1))))) 15 (xAr 10 (xfl xz 10 (-1)))) 16 (xAr 10 xz)) 17 (xAr 10 xz)) 18 (xO 3 [xR (some 19), xR (some 20), xI 0])) 19 (xAr 10 xz)) 20 (xAr 10 xz)) 21 (xAr 10 xz)) 22 (xAr 10 xz)) 23) : xi 5 20 239 m_Tongue_init [xR (some 2)] D 3 Q := by
  obtain ⟨hD, h⟩ := h
  have e : xup D 2 (xO 5 [xR none, xR none, xR none, xR none, xR none, xR none, xI 0, xR none, xR none, xR none, xI 0, xI 0]) = D := by rw [← hD]; exact xup_id D 2
  rw [← e]
  (refine xi_of (own := "DrumTongue$Tongue") true rfl (by decide +kernel) tk_Tongue (fun _ => rfl) [some (xR (some 2))] (Nat.le_of_ble_eq_true rfl) rfl ?_; intro M X C P hW)
  refine xgo hW.2.2 k_Tongue_init [] 40 ?_
  ((repeat' (first | (with_reducible refine And.intro ?_ ?_) | (intro h0; exact absurd h0 (by decide)) | (intro h0; exact absurd rfl h0) | (intro _) | ((conv => whnf); (first | (with_reducible refine And.intro ?_ ?_) | (intro h0; exact absurd h0 (by decide)) | (intro h0; exact absurd rfl h0) | (intro _) | (refine hW.1 _ _ _ _ _ _ _ _ _ _ _ (i_Rows_W ?_) (by decide) (by decide) (Nat.le_of_ble_eq_true rfl) (Nat.le_of_ble_eq_true rfl) (Nat.le_of_ble_eq_true rfl)) | (refine hW.1 _ _ _ _ _ _ _ _ _ _ _ (i_Rows_E ?_) (by decide) (by decide) (Nat.le_of_ble_eq_true rfl) (Nat.le_of_ble_eq_true rfl) (Nat.le_of_ble_eq_true rfl)) | (refine hW.1 _ _ _ _ _ _ _ _ _ _ _ (i_Tails_init ?_) (by decide) (by decide) (Nat.le_of_ble_eq_true rfl) (Nat.le_of_ble_eq_true rfl) (Nat.le_of_ble_eq_true rfl)) | (refine hW.1 _ _ _ _ _ _ _ _ _ _ _ (i_Rows_H ?_) (by decide) (by decide) (Nat.le_of_ble_eq_true rfl) (Nat.le_of_ble_eq_true rfl) (Nat.le_of_ble_eq_true rfl)) | (refine hW.1 _ _ _ _ _ _ _ _ _ _ _ (i_forget (f := xz) ?_) (by decide) (by decide) (Nat.le_of_ble_eq_true rfl) (Nat.le_of_ble_eq_true rfl) (Nat.le_of_ble_eq_true rfl)))))); (all_goals (try exact Nat.le_of_ble_eq_true rfl)); (all_goals (try (exact rfl))); (all_goals (try decide)); (all_goals (try omega)); (all_goals (try ((conv => whnf); (first | (refine hW.2.1 _ _ _ ?_) | (change X _ _ _ _ _ _) | (change C _ _ _ _ _ _ _))))))
  all_goals refine xqD h ?_
  all_goals
    intro b
    by_cases hb2 : b = 2
    · subst hb2
      first | rfl | assumption | exact Eq.symm (by assumption)
    by_cases hb3 : b = 3
    · subst hb3
      first | rfl | assumption | exact Eq.symm (by assumption)
    by_cases hb4 : b = 4
    · subst hb4
      first | rfl | assumption | exact Eq.symm (by assumption)
    by_cases hb5 : b = 5
    · subst hb5
      first | rfl | assumption | exact Eq.symm (by assumption)
    by_cases hb6 : b = 6
    · subst hb6
      first | rfl | assumption | exact Eq.symm (by assumption)
    by_cases hb7 : b = 7
    · subst hb7
      first | rfl | assumption | exact Eq.symm (by assumption)
    by_cases hb8 : b = 8
    · subst hb8
      first | rfl | assumption | exact Eq.symm (by assumption)
    by_cases hb9 : b = 9
    · subst hb9
      first | rfl | assumption | exact Eq.symm (by assumption)
    by_cases hb10 : b = 10
    · subst hb10
      first | rfl | assumption | exact Eq.symm (by assumption)
    by_cases hb11 : b = 11
    · subst hb11
      first | rfl | assumption | exact Eq.symm (by assumption)
    by_cases hb12 : b = 12
    · subst hb12
      first | rfl | assumption | exact Eq.symm (by assumption)
    by_cases hb13 : b = 13
    · subst hb13
      first | rfl | assumption | exact Eq.symm (by assumption)
    by_cases hb14 : b = 14
    · subst hb14
      first | rfl | assumption | exact Eq.symm (by assumption)
    by_cases hb15 : b = 15
    · subst hb15
      first | rfl | assumption | exact Eq.symm (by assumption)
    by_cases hb16 : b = 16
    · subst hb16
      first | rfl | assumption | exact Eq.symm (by assumption)
    by_cases hb17 : b = 17
    · subst hb17
      first | rfl | assumption | exact Eq.symm (by assumption)
    by_cases hb18 : b = 18
    · subst hb18
      first | rfl | assumption | exact Eq.symm (by assumption)
    by_cases hb19 : b = 19
    · subst hb19
      first | rfl | assumption | exact Eq.symm (by assumption)
    by_cases hb20 : b = 20
    · subst hb20
      first | rfl | assumption | exact Eq.symm (by assumption)
    by_cases hb21 : b = 21
    · subst hb21
      first | rfl | assumption | exact Eq.symm (by assumption)
    by_cases hb22 : b = 22
    · subst hb22
      first | rfl | assumption | exact Eq.symm (by assumption)
    simp only [xup, xgrid]
    (repeat rw [if_neg (by omega)])
set_option maxRecDepth 100000 in
set_option maxHeartbeats 4000000 in
theorem i_Ear {D : Nat → Option xE} {Q : Option xV → (Nat → Option xE) → Nat → Prop} (h : D 23 = xO 0 [xR none, xI 0] ∧ Q none (xup (xup (D) 23 (xO 0 [xR (some 24), xI 0])) 24 (xAr 60 xz)) 25) : xi 2 1 60 m_Ear_init [xR (some 23)] D 24 Q := by
  obtain ⟨hD, h⟩ := h
  have e : xup D 23 (xO 0 [xR none, xI 0]) = D := by rw [← hD]; exact xup_id D 23
  rw [← e]
  (refine xi_of (own := "DrumTongue$Ear") true rfl (by decide +kernel) tk_Ear (fun _ => rfl) [some (xR (some 23))] (Nat.le_of_ble_eq_true rfl) rfl ?_; intro M X C P hW)
  refine xgo hW.2.2 k_Ear_init [] 40 ?_
  ((repeat' (first | (with_reducible refine And.intro ?_ ?_) | (intro h0; exact absurd h0 (by decide)) | (intro h0; exact absurd rfl h0) | (intro _) | ((conv => whnf); (first | (with_reducible refine And.intro ?_ ?_) | (intro h0; exact absurd h0 (by decide)) | (intro h0; exact absurd rfl h0) | (intro _))))); (all_goals (try exact Nat.le_of_ble_eq_true rfl)); (all_goals (try (exact rfl))); (all_goals (try decide)); (all_goals (try omega)); (all_goals (try ((conv => whnf); (first | (refine hW.2.1 _ _ _ ?_) | (change X _ _ _ _ _ _) | (change C _ _ _ _ _ _ _))))))
  all_goals refine xqD h ?_
  all_goals
    intro b
    by_cases hb23 : b = 23
    · subst hb23
      first | rfl | assumption | exact Eq.symm (by assumption)
    by_cases hb24 : b = 24
    · subst hb24
      first | rfl | assumption | exact Eq.symm (by assumption)
    simp only [xup, xgrid]
    (repeat rw [if_neg (by omega)])
set_option maxRecDepth 100000 in
set_option maxHeartbeats 4000000 in
theorem i_Reader {D : Nat → Option xE} {Q : Option xV → (Nat → Option xE) → Nat → Prop} (h : D 25 = xO 2 [xR none, xR none, xR none, xI 0, xR none, xI 0, xI 0, xR none, xR none, xR none, xR none] ∧ Q none (xup (xup (xup (xup (xup (xup (xup (xup (xup (xup (xup (xup (xup (xup (xup (xup (xup (xup (xup (xup (D) 25 (xO 2 [xR (some 2), xR (some 23), xR (some 26), xI 0, xR (some 27), xI 0, xI 0, xR (some 28), xR (some 42), xR (some 43), xR (some 44)])) 26 (xAr 12 xz)) 27 (xAr 12 xz)) 28 (xGr 13 29)) 29 (xAr 61 xz)) 30 (xAr 61 xz)) 31 (xAr 61 xz)) 32 (xAr 61 xz)) 33 (xAr 61 xz)) 34 (xAr 61 xz)) 35 (xAr 61 xz)) 36 (xAr 61 xz)) 37 (xAr 61 xz)) 38 (xAr 61 xz)) 39 (xAr 61 xz)) 40 (xAr 61 xz)) 41 (xAr 61 xz)) 42 (xAr 61 xz)) 43 (xAr 61 xz)) 44 (xAr 61 xz)) 45) : xi 2 19 1013 m_Reader_init [xR (some 25), xR (some 2), xR (some 23)] D 26 Q := by
  obtain ⟨hD, h⟩ := h
  have e : xup D 25 (xO 2 [xR none, xR none, xR none, xI 0, xR none, xI 0, xI 0, xR none, xR none, xR none, xR none]) = D := by rw [← hD]; exact xup_id D 25
  rw [← e]
  (refine xi_of (own := "DrumTongue$Reader") true rfl (by decide +kernel) tk_Reader (fun _ => rfl) [some (xR (some 25)), some (xR (some 2)), some (xR (some 23))] (Nat.le_of_ble_eq_true rfl) rfl ?_; intro M X C P hW)
  refine xgo hW.2.2 k_Reader_init [] 40 ?_
  ((repeat' (first | (with_reducible refine And.intro ?_ ?_) | (intro h0; exact absurd h0 (by decide)) | (intro h0; exact absurd rfl h0) | (intro _) | ((conv => whnf); (first | (with_reducible refine And.intro ?_ ?_) | (intro h0; exact absurd h0 (by decide)) | (intro h0; exact absurd rfl h0) | (intro _))))); (all_goals (try exact Nat.le_of_ble_eq_true rfl)); (all_goals (try (exact rfl))); (all_goals (try decide)); (all_goals (try omega)); (all_goals (try ((conv => whnf); (first | (refine hW.2.1 _ _ _ ?_) | (change X _ _ _ _ _ _) | (change C _ _ _ _ _ _ _))))))
  all_goals refine xqD h ?_
  all_goals
    intro b
    by_cases hb25 : b = 25
    · subst hb25
      first | rfl | assumption | exact Eq.symm (by assumption)
    by_cases hb26 : b = 26
    · subst hb26
      first | rfl | assumption | exact Eq.symm (by assumption)
    by_cases hb27 : b = 27
    · subst hb27
      first | rfl | assumption | exact Eq.symm (by assumption)
    by_cases hb28 : b = 28
    · subst hb28
      first | rfl | assumption | exact Eq.symm (by assumption)
    by_cases hb29 : b = 29
    · subst hb29
      first | rfl | assumption | exact Eq.symm (by assumption)
    by_cases hb30 : b = 30
    · subst hb30
      first | rfl | assumption | exact Eq.symm (by assumption)
    by_cases hb31 : b = 31
    · subst hb31
      first | rfl | assumption | exact Eq.symm (by assumption)
    by_cases hb32 : b = 32
    · subst hb32
      first | rfl | assumption | exact Eq.symm (by assumption)
    by_cases hb33 : b = 33
    · subst hb33
      first | rfl | assumption | exact Eq.symm (by assumption)
    by_cases hb34 : b = 34
    · subst hb34
      first | rfl | assumption | exact Eq.symm (by assumption)
    by_cases hb35 : b = 35
    · subst hb35
      first | rfl | assumption | exact Eq.symm (by assumption)
    by_cases hb36 : b = 36
    · subst hb36
      first | rfl | assumption | exact Eq.symm (by assumption)
    by_cases hb37 : b = 37
    · subst hb37
      first | rfl | assumption | exact Eq.symm (by assumption)
    by_cases hb38 : b = 38
    · subst hb38
      first | rfl | assumption | exact Eq.symm (by assumption)
    by_cases hb39 : b = 39
    · subst hb39
      first | rfl | assumption | exact Eq.symm (by assumption)
    by_cases hb40 : b = 40
    · subst hb40
      first | rfl | assumption | exact Eq.symm (by assumption)
    by_cases hb41 : b = 41
    · subst hb41
      first | rfl | assumption | exact Eq.symm (by assumption)
    by_cases hb42 : b = 42
    · subst hb42
      first | rfl | assumption | exact Eq.symm (by assumption)
    by_cases hb43 : b = 43
    · subst hb43
      first | rfl | assumption | exact Eq.symm (by assumption)
    by_cases hb44 : b = 44
    · subst hb44
      first | rfl | assumption | exact Eq.symm (by assumption)
    simp only [xup, xgrid]
    (repeat rw [if_neg (by omega)])
set_option maxRecDepth 100000 in
set_option maxHeartbeats 4000000 in
theorem i_Hills {D : Nat → Option xE} {Q : Option xV → (Nat → Option xE) → Nat → Prop} (h : D 45 = xO 1 [xR none, xR none, xR none, xR none, xI 0, xJ 0, xI 0, xR none, xR none, xI 0] ∧ Q none (xup (xup (xup (xup (xup (xup (xup (xup (xup (xup (xup (xup (xup (xup (xup (xup (xup (xup (xup (D) 45 (xO 1 [xR (some 46), xR (some 53), xR (some 60), xR (some 61), xI 0, xJ 0, xI 0, xR (some 62), xR (some 63), xI 0])) 46 (xGr 6 47)) 47 (xAr 6 xz)) 48 (xAr 6 xz)) 49 (xAr 6 xz)) 50 (xAr 6 xz)) 51 (xAr 6 xz)) 52 (xAr 6 xz)) 53 (xGr 6 54)) 54 (xAr 6 (xfl xz 6 1))) 55 (xAr 6 (xfl xz 6 1))) 56 (xAr 6 (xfl xz 6 1))) 57 (xAr 6 (xfl xz 6 1))) 58 (xAr 6 (xfl xz 6 1))) 59 (xAr 6 (xfl xz 6 1))) 60 (xAr 6 xz)) 61 (xAr 6 xz)) 62 (xAr 6 xz)) 63 (xAr 6 xz)) 64) : xi 2 18 108 m_Hills_init [xR (some 45)] D 46 Q := by
  obtain ⟨hD, h⟩ := h
  have e : xup D 45 (xO 1 [xR none, xR none, xR none, xR none, xI 0, xJ 0, xI 0, xR none, xR none, xI 0]) = D := by rw [← hD]; exact xup_id D 45
  rw [← e]
  (refine xi_of (own := "DrumTongue$Hills") true rfl (by decide +kernel) tk_Hills (fun _ => rfl) [some (xR (some 45)), none] (Nat.le_of_ble_eq_true rfl) rfl ?_; intro M X C P hW)
  refine xgo hW.2.2 k_Hills_init [] 40 ?_
  ((repeat' (first | (with_reducible refine And.intro ?_ ?_) | (intro h0; exact absurd h0 (by decide)) | (intro h0; exact absurd rfl h0) | (intro _) | ((conv => whnf); (first | (with_reducible refine And.intro ?_ ?_) | (intro h0; exact absurd h0 (by decide)) | (intro h0; exact absurd rfl h0) | (intro _) | (refine hW.1 _ _ _ _ _ _ _ _ _ _ _ (i_fill (n := 6) (f := xz) (v := 1) ?_) (by decide) (by decide) (Nat.le_of_ble_eq_true rfl) (Nat.le_of_ble_eq_true rfl) (Nat.le_of_ble_eq_true rfl)))))); (all_goals (try exact Nat.le_of_ble_eq_true rfl)); (all_goals (try (exact rfl))); (all_goals (try decide)); (all_goals (try omega)); (all_goals (try ((conv => whnf); (first | (refine hW.2.1 _ _ _ ?_) | (change X _ _ _ _ _ _) | (change C _ _ _ _ _ _ _))))))
  all_goals refine xqD h ?_
  all_goals
    intro b
    by_cases hb45 : b = 45
    · subst hb45
      first | rfl | assumption | exact Eq.symm (by assumption)
    by_cases hb46 : b = 46
    · subst hb46
      first | rfl | assumption | exact Eq.symm (by assumption)
    by_cases hb47 : b = 47
    · subst hb47
      first | rfl | assumption | exact Eq.symm (by assumption)
    by_cases hb48 : b = 48
    · subst hb48
      first | rfl | assumption | exact Eq.symm (by assumption)
    by_cases hb49 : b = 49
    · subst hb49
      first | rfl | assumption | exact Eq.symm (by assumption)
    by_cases hb50 : b = 50
    · subst hb50
      first | rfl | assumption | exact Eq.symm (by assumption)
    by_cases hb51 : b = 51
    · subst hb51
      first | rfl | assumption | exact Eq.symm (by assumption)
    by_cases hb52 : b = 52
    · subst hb52
      first | rfl | assumption | exact Eq.symm (by assumption)
    by_cases hb53 : b = 53
    · subst hb53
      first | rfl | assumption | exact Eq.symm (by assumption)
    by_cases hb54 : b = 54
    · subst hb54
      first | rfl | assumption | exact Eq.symm (by assumption)
    by_cases hb55 : b = 55
    · subst hb55
      first | rfl | assumption | exact Eq.symm (by assumption)
    by_cases hb56 : b = 56
    · subst hb56
      first | rfl | assumption | exact Eq.symm (by assumption)
    by_cases hb57 : b = 57
    · subst hb57
      first | rfl | assumption | exact Eq.symm (by assumption)
    by_cases hb58 : b = 58
    · subst hb58
      first | rfl | assumption | exact Eq.symm (by assumption)
    by_cases hb59 : b = 59
    · subst hb59
      first | rfl | assumption | exact Eq.symm (by assumption)
    by_cases hb60 : b = 60
    · subst hb60
      first | rfl | assumption | exact Eq.symm (by assumption)
    by_cases hb61 : b = 61
    · subst hb61
      first | rfl | assumption | exact Eq.symm (by assumption)
    by_cases hb62 : b = 62
    · subst hb62
      first | rfl | assumption | exact Eq.symm (by assumption)
    by_cases hb63 : b = 63
    · subst hb63
      first | rfl | assumption | exact Eq.symm (by assumption)
    simp only [xup, xgrid]
    (repeat rw [if_neg (by omega)])
set_option maxRecDepth 100000 in
set_option maxHeartbeats 4000000 in
theorem i_X {D : Nat → Option xE} {Q : Option xV → (Nat → Option xE) → Nat → Prop} (h : D 1 = xO 6 [xR none, xR none, xR none, xR none] ∧ Q none (xup (xup (xup (xup (xup (xup (xup (xup (xup (xup (xup (xup (xup (xup (xup (xup (xup (xup (xup (xup (xup (xup (xup (xup (xup (xup (xup (xup (xup (xup (xup (xup (xup (xup (xup (xup (xup (xup (xup (xup (xup (xup (xup (xup (xup (xup (xup (xup (xup (xup (xup (xup (xup (xup (xup (xup (xup (xup (xup (xup (xup (xup (xup (D) 1 (xO 6 [xR (some 2), xR (some 23), xR (some 25), xR (some 45)])) 2 (xO 5 [xR (some 3), xR (some 6), xR (some 9), xR (some 15), xR (some 16), xR (some 17), xI 1, xR (some 18), xR (some 21), xR (some 22), xI 0, xI 0])) 3 (xO 3 [xR (some 4), xR (some 5), xI 0])) 4 (xAr 10 xz)) 5 (xAr 10 xz)) 6 (xO 3 [xR (some 7), xR (some 8), xI 0])) 7 (xAr 5 xz)) 8 (xAr 5 xz)) 9 (xO 4 [xR (some 10), xR (some 13), xR (some 14)])) 10 (xO 3 [xR (some 11), xR (some 12), xI 1])) 11 (xAr 31 (xup xz 0 (xI 0)))) 12 (xAr 31 (xup xz 0 (xI 0)))) 13 (xAr 31 (xup xz 0 (xI (-1))))) 14 (xAr 31 (xup xz 0 (xI (-1))))) 15 (xAr 10 (xfl xz 10 (-1)))) 16 (xAr 10 xz)) 17 (xAr 10 xz)) 18 (xO 3 [xR (some 19), xR (some 20), xI 0])) 19 (xAr 10 xz)) 20 (xAr 10 xz)) 21 (xAr 10 xz)) 22 (xAr 10 xz)) 23 (xO 0 [xR (some 24), xI 0])) 24 (xAr 60 xz)) 25 (xO 2 [xR (some 2), xR (some 23), xR (some 26), xI 0, xR (some 27), xI 0, xI 0, xR (some 28), xR (some 42), xR (some 43), xR (some 44)])) 26 (xAr 12 xz)) 27 (xAr 12 xz)) 28 (xGr 13 29)) 29 (xAr 61 xz)) 30 (xAr 61 xz)) 31 (xAr 61 xz)) 32 (xAr 61 xz)) 33 (xAr 61 xz)) 34 (xAr 61 xz)) 35 (xAr 61 xz)) 36 (xAr 61 xz)) 37 (xAr 61 xz)) 38 (xAr 61 xz)) 39 (xAr 61 xz)) 40 (xAr 61 xz)) 41 (xAr 61 xz)) 42 (xAr 61 xz)) 43 (xAr 61 xz)) 44 (xAr 61 xz)) 45 (xO 1 [xR (some 46), xR (some 53), xR (some 60), xR (some 61), xI 0, xJ 0, xI 0, xR (some 62), xR (some 63), xI 0])) 46 (xGr 6 47)) 47 (xAr 6 xz)) 48 (xAr 6 xz)) 49 (xAr 6 xz)) 50 (xAr 6 xz)) 51 (xAr 6 xz)) 52 (xAr 6 xz)) 53 (xGr 6 54)) 54 (xAr 6 (xfl xz 6 1))) 55 (xAr 6 (xfl xz 6 1))) 56 (xAr 6 (xfl xz 6 1))) 57 (xAr 6 (xfl xz 6 1))) 58 (xAr 6 (xfl xz 6 1))) 59 (xAr 6 (xfl xz 6 1))) 60 (xAr 6 xz)) 61 (xAr 6 xz)) 62 (xAr 6 xz)) 63 (xAr 6 xz)) 64) : xi 6 62 1455 m_X_init [xR (some 1)] D 2 Q := by
  obtain ⟨hD, h⟩ := h
  have e : xup D 1 (xO 6 [xR none, xR none, xR none, xR none]) = D := by rw [← hD]; exact xup_id D 1
  rw [← e]
  (refine xi_of (own := "DrumTongue") true rfl (by decide +kernel) tk_X (fun _ => rfl) [some (xR (some 1))] (Nat.le_of_ble_eq_true rfl) rfl ?_; intro M X C P hW)
  refine xgo hW.2.2 k_X_init [] 40 ?_
  ((repeat' (first | (with_reducible refine And.intro ?_ ?_) | (intro h0; exact absurd h0 (by decide)) | (intro h0; exact absurd rfl h0) | (intro _) | ((conv => whnf); (first | (with_reducible refine And.intro ?_ ?_) | (intro h0; exact absurd h0 (by decide)) | (intro h0; exact absurd rfl h0) | (intro _) | (refine hW.1 _ _ _ _ _ _ _ _ _ _ _ (i_Tongue ?_) (by decide) (by decide) (Nat.le_of_ble_eq_true rfl) (Nat.le_of_ble_eq_true rfl) (Nat.le_of_ble_eq_true rfl)) | (refine hW.1 _ _ _ _ _ _ _ _ _ _ _ (i_Ear ?_) (by decide) (by decide) (Nat.le_of_ble_eq_true rfl) (Nat.le_of_ble_eq_true rfl) (Nat.le_of_ble_eq_true rfl)) | (refine hW.1 _ _ _ _ _ _ _ _ _ _ _ (i_Reader ?_) (by decide) (by decide) (Nat.le_of_ble_eq_true rfl) (Nat.le_of_ble_eq_true rfl) (Nat.le_of_ble_eq_true rfl)) | (refine hW.1 _ _ _ _ _ _ _ _ _ _ _ (i_Hills ?_) (by decide) (by decide) (Nat.le_of_ble_eq_true rfl) (Nat.le_of_ble_eq_true rfl) (Nat.le_of_ble_eq_true rfl)))))); (all_goals (try exact Nat.le_of_ble_eq_true rfl)); (all_goals (try (exact rfl))); (all_goals (try decide)); (all_goals (try omega)); (all_goals (try ((conv => whnf); (first | (refine hW.2.1 _ _ _ ?_) | (change X _ _ _ _ _ _) | (change C _ _ _ _ _ _ _))))))
  all_goals refine xqD h ?_
  all_goals
    intro b
    by_cases hb1 : b = 1
    · subst hb1
      first | rfl | assumption | exact Eq.symm (by assumption)
    by_cases hb2 : b = 2
    · subst hb2
      first | rfl | assumption | exact Eq.symm (by assumption)
    by_cases hb3 : b = 3
    · subst hb3
      first | rfl | assumption | exact Eq.symm (by assumption)
    by_cases hb4 : b = 4
    · subst hb4
      first | rfl | assumption | exact Eq.symm (by assumption)
    by_cases hb5 : b = 5
    · subst hb5
      first | rfl | assumption | exact Eq.symm (by assumption)
    by_cases hb6 : b = 6
    · subst hb6
      first | rfl | assumption | exact Eq.symm (by assumption)
    by_cases hb7 : b = 7
    · subst hb7
      first | rfl | assumption | exact Eq.symm (by assumption)
    by_cases hb8 : b = 8
    · subst hb8
      first | rfl | assumption | exact Eq.symm (by assumption)
    by_cases hb9 : b = 9
    · subst hb9
      first | rfl | assumption | exact Eq.symm (by assumption)
    by_cases hb10 : b = 10
    · subst hb10
      first | rfl | assumption | exact Eq.symm (by assumption)
    by_cases hb11 : b = 11
    · subst hb11
      first | rfl | assumption | exact Eq.symm (by assumption)
    by_cases hb12 : b = 12
    · subst hb12
      first | rfl | assumption | exact Eq.symm (by assumption)
    by_cases hb13 : b = 13
    · subst hb13
      first | rfl | assumption | exact Eq.symm (by assumption)
    by_cases hb14 : b = 14
    · subst hb14
      first | rfl | assumption | exact Eq.symm (by assumption)
    by_cases hb15 : b = 15
    · subst hb15
      first | rfl | assumption | exact Eq.symm (by assumption)
    by_cases hb16 : b = 16
    · subst hb16
      first | rfl | assumption | exact Eq.symm (by assumption)
    by_cases hb17 : b = 17
    · subst hb17
      first | rfl | assumption | exact Eq.symm (by assumption)
    by_cases hb18 : b = 18
    · subst hb18
      first | rfl | assumption | exact Eq.symm (by assumption)
    by_cases hb19 : b = 19
    · subst hb19
      first | rfl | assumption | exact Eq.symm (by assumption)
    by_cases hb20 : b = 20
    · subst hb20
      first | rfl | assumption | exact Eq.symm (by assumption)
    by_cases hb21 : b = 21
    · subst hb21
      first | rfl | assumption | exact Eq.symm (by assumption)
    by_cases hb22 : b = 22
    · subst hb22
      first | rfl | assumption | exact Eq.symm (by assumption)
    by_cases hb23 : b = 23
    · subst hb23
      first | rfl | assumption | exact Eq.symm (by assumption)
    by_cases hb24 : b = 24
    · subst hb24
      first | rfl | assumption | exact Eq.symm (by assumption)
    by_cases hb25 : b = 25
    · subst hb25
      first | rfl | assumption | exact Eq.symm (by assumption)
    by_cases hb26 : b = 26
    · subst hb26
      first | rfl | assumption | exact Eq.symm (by assumption)
    by_cases hb27 : b = 27
    · subst hb27
      first | rfl | assumption | exact Eq.symm (by assumption)
    by_cases hb28 : b = 28
    · subst hb28
      first | rfl | assumption | exact Eq.symm (by assumption)
    by_cases hb29 : b = 29
    · subst hb29
      first | rfl | assumption | exact Eq.symm (by assumption)
    by_cases hb30 : b = 30
    · subst hb30
      first | rfl | assumption | exact Eq.symm (by assumption)
    by_cases hb31 : b = 31
    · subst hb31
      first | rfl | assumption | exact Eq.symm (by assumption)
    by_cases hb32 : b = 32
    · subst hb32
      first | rfl | assumption | exact Eq.symm (by assumption)
    by_cases hb33 : b = 33
    · subst hb33
      first | rfl | assumption | exact Eq.symm (by assumption)
    by_cases hb34 : b = 34
    · subst hb34
      first | rfl | assumption | exact Eq.symm (by assumption)
    by_cases hb35 : b = 35
    · subst hb35
      first | rfl | assumption | exact Eq.symm (by assumption)
    by_cases hb36 : b = 36
    · subst hb36
      first | rfl | assumption | exact Eq.symm (by assumption)
    by_cases hb37 : b = 37
    · subst hb37
      first | rfl | assumption | exact Eq.symm (by assumption)
    by_cases hb38 : b = 38
    · subst hb38
      first | rfl | assumption | exact Eq.symm (by assumption)
    by_cases hb39 : b = 39
    · subst hb39
      first | rfl | assumption | exact Eq.symm (by assumption)
    by_cases hb40 : b = 40
    · subst hb40
      first | rfl | assumption | exact Eq.symm (by assumption)
    by_cases hb41 : b = 41
    · subst hb41
      first | rfl | assumption | exact Eq.symm (by assumption)
    by_cases hb42 : b = 42
    · subst hb42
      first | rfl | assumption | exact Eq.symm (by assumption)
    by_cases hb43 : b = 43
    · subst hb43
      first | rfl | assumption | exact Eq.symm (by assumption)
    by_cases hb44 : b = 44
    · subst hb44
      first | rfl | assumption | exact Eq.symm (by assumption)
    by_cases hb45 : b = 45
    · subst hb45
      first | rfl | assumption | exact Eq.symm (by assumption)
    by_cases hb46 : b = 46
    · subst hb46
      first | rfl | assumption | exact Eq.symm (by assumption)
    by_cases hb47 : b = 47
    · subst hb47
      first | rfl | assumption | exact Eq.symm (by assumption)
    by_cases hb48 : b = 48
    · subst hb48
      first | rfl | assumption | exact Eq.symm (by assumption)
    by_cases hb49 : b = 49
    · subst hb49
      first | rfl | assumption | exact Eq.symm (by assumption)
    by_cases hb50 : b = 50
    · subst hb50
      first | rfl | assumption | exact Eq.symm (by assumption)
    by_cases hb51 : b = 51
    · subst hb51
      first | rfl | assumption | exact Eq.symm (by assumption)
    by_cases hb52 : b = 52
    · subst hb52
      first | rfl | assumption | exact Eq.symm (by assumption)
    by_cases hb53 : b = 53
    · subst hb53
      first | rfl | assumption | exact Eq.symm (by assumption)
    by_cases hb54 : b = 54
    · subst hb54
      first | rfl | assumption | exact Eq.symm (by assumption)
    by_cases hb55 : b = 55
    · subst hb55
      first | rfl | assumption | exact Eq.symm (by assumption)
    by_cases hb56 : b = 56
    · subst hb56
      first | rfl | assumption | exact Eq.symm (by assumption)
    by_cases hb57 : b = 57
    · subst hb57
      first | rfl | assumption | exact Eq.symm (by assumption)
    by_cases hb58 : b = 58
    · subst hb58
      first | rfl | assumption | exact Eq.symm (by assumption)
    by_cases hb59 : b = 59
    · subst hb59
      first | rfl | assumption | exact Eq.symm (by assumption)
    by_cases hb60 : b = 60
    · subst hb60
      first | rfl | assumption | exact Eq.symm (by assumption)
    by_cases hb61 : b = 61
    · subst hb61
      first | rfl | assumption | exact Eq.symm (by assumption)
    by_cases hb62 : b = 62
    · subst hb62
      first | rfl | assumption | exact Eq.symm (by assumption)
    by_cases hb63 : b = 63
    · subst hb63
      first | rfl | assumption | exact Eq.symm (by assumption)
    simp only [xup, xgrid]
    (repeat rw [if_neg (by omega)])
