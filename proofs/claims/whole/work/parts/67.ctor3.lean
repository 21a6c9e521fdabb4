/-! constructors: the reference -/
theorem xXD {X : xS} {pc : Nat} {L : xLs} {st : List xV} {M : xM} {D D' : Nat → Option xE} {nx k n : Nat} (h : X pc L st (M, D, nx) k n) (e : ∀ b, D' b = D b) : X pc L st (M, D', nx) k n := by
  rw [show D' = D from funext e]
  exact h
set_option maxRecDepth 100000 in
set_option maxHeartbeats 4000000 in
theorem i_M {D : Nat → Option xE} {Q : Option xV → (Nat → Option xE) → Nat → Prop} (h : D 64 = xO 7 [xI 0, xR none, xR none, xI 0, xR none, xR none, xI 0, xR none, xR none, xR none, xR none, xR none, xR none, xI 0, xR none, xI 0, xR none, xR none, xR none, xR none, xR none, xR none, xR none, xR none, xR none, xR none, xI 0, xR none, xR none, xI 0, xR none, xI 0, xI 0, xR none, xR none, xR none, xR none, xR none, xR none] ∧ Q none (xup (xup (xup (xup (xup (xup (xup (xup (xup (xup (xup (xup (xup (xup (xup (xup (xup (xup (xup (xup (xup (xup (xup (xup (xup (xup (xup (xup (xup (xup (xup (D) 64 (xO 7 [xI 0, xR (some 65), xR (some 66), xI 0, xR (some 67), xR (some 68), xI 1, xR (some 69), xR (some 70), xR (some 71), xR (some 72), xR (some 73), xR (some 74), xI 0, xR (some 75), xI 0, xR (some 76), xR (some 77), xR (some 78), xR (some 79), xR (some 80), xR (some 81), xR (some 82), xR (some 83), xR (some 84), xR (some 85), xI 0, xR (some 86), xR (some 87), xI 0, xR (some 88), xI 0, xI 0, xR (some 89), xR (some 90), xR (some 91), xR (some 92), xR (some 93), xR (some 94)])) 65 (xAr 10 xz)) 66 (xAr 10 xz)) 67 (xAr 5 xz)) 68 (xAr 5 xz)) 69 (xAr 10 xz)) 70 (xAr 310 xz)) 71 (xAr 310 xz)) 72 (xAr 310 xz)) 73 (xAr 310 xz)) 74 (xAr 10 (xfl xz 10 (-1)))) 75 (xAr 60 xz)) 76 (xAr 12 xz)) 77 (xAr 36 xz)) 78 (xAr 36 (xfl xz 36 1))) 79 (xAr 10 xz)) 80 (xAr 10 xz)) 81 (xAr 11 xz)) 82 (xAr 10 xz)) 83 (xAr 793 xz)) 84 (xAr 61 xz)) 85 (xAr 61 xz)) 86 (xAr 12 xz)) 87 (xAr 61 xz)) 88 (xAr 6 xz)) 89 (xAr 6 xz)) 90 (xAr 6 xz)) 91 (some (.inr (1, 6, fun _ => xJ 0)))) 92 (xAr 6 xz)) 93 (xAr 6 xz)) 94 (xAr 6 xz)) 95) : xi 2 30 2505 m_M_init [xR (some 64)] D 65 Q := by
  obtain ⟨hD, h⟩ := h
  have e : xup D 64 (xO 7 [xI 0, xR none, xR none, xI 0, xR none, xR none, xI 0, xR none, xR none, xR none, xR none, xR none, xR none, xI 0, xR none, xI 0, xR none, xR none, xR none, xR none, xR none, xR none, xR none, xR none, xR none, xR none, xI 0, xR none, xR none, xI 0, xR none, xI 0, xI 0, xR none, xR none, xR none, xR none, xR none, xR none]) = D := by rw [← hD]; exact xup_id D 64
  rw [← e]
  (refine xi_of (own := "DrumTongueModel") true rfl (by decide +kernel) tk_M (fun _ => rfl) [some (xR (some 64)), none] (Nat.le_of_ble_eq_true rfl) rfl ?_; intro M X C P hW)
  obtain ⟨Z, hZ⟩ : ∃ Z, Z = xup (xup (xup (xup (xup (xup (xup (xup (xup (xup (xup (xup (xup (xup (xup (xup (xup (xup (xup (xup (xup (xup (xup (xup (xup (xup (xup (xup (xup (xup (xup (D) 64 (xO 7 [xI 0, xR (some 65), xR (some 66), xI 0, xR (some 67), xR (some 68), xI 1, xR (some 69), xR (some 70), xR (some 71), xR (some 72), xR (some 73), xR (some 74), xI 0, xR (some 75), xI 0, xR (some 76), xR (some 77), xR (some 78), xR (some 79), xR (some 80), xR (some 81), xR (some 82), xR (some 83), xR (some 84), xR (some 85), xI 0, xR (some 86), xR (some 87), xI 0, xR (some 88), xI 0, xI 0, xR (some 89), xR (some 90), xR (some 91), xR (some 92), xR (some 93), xR (some 94)])) 65 (xAr 10 xz)) 66 (xAr 10 xz)) 67 (xAr 5 xz)) 68 (xAr 5 xz)) 69 (xAr 10 xz)) 70 (xAr 310 xz)) 71 (xAr 310 xz)) 72 (xAr 310 xz)) 73 (xAr 310 xz)) 74 (xAr 10 (xfl xz 10 (-1)))) 75 (xAr 60 xz)) 76 (xAr 12 xz)) 77 (xAr 36 xz)) 78 (xAr 36 (xfl xz 36 1))) 79 (xAr 10 xz)) 80 (xAr 10 xz)) 81 (xAr 11 xz)) 82 (xAr 10 xz)) 83 (xAr 793 xz)) 84 (xAr 61 xz)) 85 (xAr 61 xz)) 86 (xAr 12 xz)) 87 (xAr 61 xz)) 88 (xAr 6 xz)) 89 (xAr 6 xz)) 90 (xAr 6 xz)) 91 (some (.inr (1, 6, fun _ => xJ 0)))) 92 (xAr 6 xz)) 93 (xAr 6 xz)) 94 (xAr 6 xz) := ⟨_, rfl⟩
  rw [← hZ] at h
  have z64 : Z 64 = (xO 7 [xI 0, xR (some 65), xR (some 66), xI 0, xR (some 67), xR (some 68), xI 1, xR (some 69), xR (some 70), xR (some 71), xR (some 72), xR (some 73), xR (some 74), xI 0, xR (some 75), xI 0, xR (some 76), xR (some 77), xR (some 78), xR (some 79), xR (some 80), xR (some 81), xR (some 82), xR (some 83), xR (some 84), xR (some 85), xI 0, xR (some 86), xR (some 87), xI 0, xR (some 88), xI 0, xI 0, xR (some 89), xR (some 90), xR (some 91), xR (some 92), xR (some 93), xR (some 94)]) := by rw [hZ]; rfl
  have z74 : Z 74 = xAr 10 (xfl xz 10 (-1)) := by rw [hZ]; rfl
  have z78 : Z 78 = xAr 36 (xfl xz 36 1) := by rw [hZ]; rfl
  have l2 : ∀ (m i : Nat), i + m = 10 → X 275 [some (xR (some 64)), some (xI (i : Int))] [] (M, xup (xup Z 64 (xO 7 [xI 0, xR (some 65), xR (some 66), xI 0, xR (some 67), xR (some 68), xI 1, xR (some 69), xR (some 70), xR (some 71), xR (some 72), xR (some 73), xR (some 74), xI 0, xR (some 75), xI 0, xR (some 76), xR (some 77), xR (some 78), xR (some 79), xR (some 80), xR (some 81), xR (some 82), xR (some 83), xR (some 84), xR (some 85), xI 0, xR (some 86), xR (some 87), xI 0, xR (some 88), xI 0, xI 0, xR (some 89), xR (some 90), xR (some 91), xR (some 92), xR (some 93), xR (some 94)])) 74 (xAr 10 (xfl xz i (-1))), 95) 30 2505 := by
    clear hZ
    intro m
    induction m with
    | zero =>
      intro i hi
      refine xgo hW.2.2 k_M_init [275] 40 ?_
      ((repeat' (first | (with_reducible refine And.intro ?_ ?_) | (intro h0; exact absurd h0 (by decide)) | (intro h0; exact absurd rfl h0) | (intro _) | ((conv => whnf); (first | (with_reducible refine And.intro ?_ ?_) | (intro h0; exact absurd h0 (by decide)) | (intro h0; exact absurd rfl h0) | (intro _))))); (all_goals (try exact Nat.le_of_ble_eq_true rfl)); (all_goals (try (exact rfl))); (all_goals (try decide)); (all_goals (try omega)); (all_goals (try ((conv => whnf); (first | (refine hW.2.1 _ _ _ ?_) | (change X _ _ _ _ _ _) | (change C _ _ _ _ _ _ _))))))
      obtain rfl : i = 10 := by omega
      refine xqD h (fun b => ?_)
      rw [← z64, ← z74, xup_id, xup_id]
    | succ m ih =>
      intro i hi
      refine xgo hW.2.2 k_M_init [275] 40 ?_
      ((repeat' (first | (with_reducible refine And.intro ?_ ?_) | (intro h0; exact absurd h0 (by decide)) | (intro h0; exact absurd rfl h0) | (intro _) | ((conv => whnf); (first | (with_reducible refine And.intro ?_ ?_) | (intro h0; exact absurd h0 (by decide)) | (intro h0; exact absurd rfl h0) | (intro _))))); (all_goals (try exact Nat.le_of_ble_eq_true rfl)); (all_goals (try (exact rfl))); (all_goals (try decide)); (all_goals (try omega)); (all_goals (try ((conv => whnf); (first | (refine hW.2.1 _ _ _ ?_) | (change X _ _ _ _ _ _) | (change C _ _ _ _ _ _ _))))))
      have h1 := ih (i + 1) (by omega)
      rw [← xfl_s] at h1
      rw [xup_up]
      exact h1
  have l1 : ∀ (m i : Nat), i + m = 36 → X 254 [some (xR (some 64)), some (xI (i : Int))] [] (M, xup (xup (xup Z 64 (xO 7 [xI 0, xR (some 65), xR (some 66), xI 0, xR (some 67), xR (some 68), xI 1, xR (some 69), xR (some 70), xR (some 71), xR (some 72), xR (some 73), xR (some 74), xI 0, xR (some 75), xI 0, xR (some 76), xR (some 77), xR (some 78), xR (some 79), xR (some 80), xR (some 81), xR (some 82), xR (some 83), xR (some 84), xR (some 85), xI 0, xR (some 86), xR (some 87), xI 0, xR (some 88), xI 0, xI 0, xR (some 89), xR (some 90), xR (some 91), xR (some 92), xR (some 93), xR (some 94)])) 74 (xAr 10 xz)) 78 (xAr 36 (xfl xz i 1)), 95) 30 2505 := by
    clear hZ
    intro m
    induction m with
    | zero =>
      intro i hi
      refine xgo hW.2.2 k_M_init [254, 275] 40 ?_
      ((repeat' (first | (with_reducible refine And.intro ?_ ?_) | (intro h0; exact absurd h0 (by decide)) | (intro h0; exact absurd rfl h0) | (intro _) | ((conv => whnf); (first | (with_reducible refine And.intro ?_ ?_) | (intro h0; exact absurd h0 (by decide)) | (intro h0; exact absurd rfl h0) | (intro _))))); (all_goals (try exact Nat.le_of_ble_eq_true rfl)); (all_goals (try (exact rfl))); (all_goals (try decide)); (all_goals (try omega)); (all_goals (try ((conv => whnf); (first | (refine hW.2.1 _ _ _ ?_) | (change X _ _ _ _ _ _) | (change C _ _ _ _ _ _ _))))))
      obtain rfl : i = 36 := by omega
      have h1 := l2 10 0 (by omega)
      rw [xfl_0] at h1
      refine xXD h1 (fun b => ?_)
      rw [← z78]
      by_cases hb : b = 78
      · subst hb
        rfl
      · simp only [xup]
        rw [if_neg hb]
    | succ m ih =>
      intro i hi
      refine xgo hW.2.2 k_M_init [254, 275] 40 ?_
      ((repeat' (first | (with_reducible refine And.intro ?_ ?_) | (intro h0; exact absurd h0 (by decide)) | (intro h0; exact absurd rfl h0) | (intro _) | ((conv => whnf); (first | (with_reducible refine And.intro ?_ ?_) | (intro h0; exact absurd h0 (by decide)) | (intro h0; exact absurd rfl h0) | (intro _))))); (all_goals (try exact Nat.le_of_ble_eq_true rfl)); (all_goals (try (exact rfl))); (all_goals (try decide)); (all_goals (try omega)); (all_goals (try ((conv => whnf); (first | (refine hW.2.1 _ _ _ ?_) | (change X _ _ _ _ _ _) | (change C _ _ _ _ _ _ _))))))
      have h1 := ih (i + 1) (by omega)
      rw [← xfl_s] at h1
      rw [xup_up]
      exact h1
  have h1 := l1 36 0 (by omega)
  rw [xfl_0] at h1
  clear l1 l2
  refine xgo hW.2.2 k_M_init [254] 40 ?_
  ((repeat' (first | (with_reducible refine And.intro ?_ ?_) | (intro h0; exact absurd h0 (by decide)) | (intro h0; exact absurd rfl h0) | (intro _) | ((conv => whnf); (first | (with_reducible refine And.intro ?_ ?_) | (intro h0; exact absurd h0 (by decide)) | (intro h0; exact absurd rfl h0) | (intro _))))); (all_goals (try exact Nat.le_of_ble_eq_true rfl)); (all_goals (try (exact rfl))); (all_goals (try decide)); (all_goals (try omega)); (all_goals (try ((conv => whnf); (first | (refine hW.2.1 _ _ _ ?_) | (change X _ _ _ _ _ _) | (change C _ _ _ _ _ _ _))))))
  all_goals refine xXD h1 ?_
  all_goals subst hZ
  all_goals
    intro b
    by_cases hb64 : b = 64
    · subst hb64
      first | rfl | assumption | exact Eq.symm (by assumption)
    by_cases hb65 : b = 65
    · subst hb65
      first | rfl | assumption | exact Eq.symm (by assumption)
    by_cases hb66 : b = 66
    · subst hb66
      first | rfl | assumption | exact Eq.symm (by assumption)
    by_cases hb67 : b = 67
    · subst hb67
      first | rfl | assumption | exact Eq.symm (by assumption)
    by_cases hb68 : b = 68
    · subst hb68
      first | rfl | assumption | exact Eq.symm (by assumption)
    by_cases hb69 : b = 69
    · subst hb69
      first | rfl | assumption | exact Eq.symm (by assumption)
    by_cases hb70 : b = 70
    · subst hb70
      first | rfl | assumption | exact Eq.symm (by assumption)
    by_cases hb71 : b = 71
    · subst hb71
      first | rfl | assumption | exact Eq.symm (by assumption)
    by_cases hb72 : b = 72
    · subst hb72
      first | rfl | assumption | exact Eq.symm (by assumption)
    by_cases hb73 : b = 73
    · subst hb73
      first | rfl | assumption | exact Eq.symm (by assumption)
    by_cases hb74 : b = 74
    · subst hb74
      first | rfl | assumption | exact Eq.symm (by assumption)
    by_cases hb75 : b = 75
    · subst hb75
      first | rfl | assumption | exact Eq.symm (by assumption)
    by_cases hb76 : b = 76
    · subst hb76
      first | rfl | assumption | exact Eq.symm (by assumption)
    by_cases hb77 : b = 77
    · subst hb77
      first | rfl | assumption | exact Eq.symm (by assumption)
    by_cases hb78 : b = 78
    · subst hb78
      first | rfl | assumption | exact Eq.symm (by assumption)
    by_cases hb79 : b = 79
    · subst hb79
      first | rfl | assumption | exact Eq.symm (by assumption)
    by_cases hb80 : b = 80
    · subst hb80
      first | rfl | assumption | exact Eq.symm (by assumption)
    by_cases hb81 : b = 81
    · subst hb81
      first | rfl | assumption | exact Eq.symm (by assumption)
    by_cases hb82 : b = 82
    · subst hb82
      first | rfl | assumption | exact Eq.symm (by assumption)
    by_cases hb83 : b = 83
    · subst hb83
      first | rfl | assumption | exact Eq.symm (by assumption)
    by_cases hb84 : b = 84
    · subst hb84
      first | rfl | assumption | exact Eq.symm (by assumption)
    by_cases hb85 : b = 85
    · subst hb85
      first | rfl | assumption | exact Eq.symm (by assumption)
    by_cases hb86 : b = 86
    · subst hb86
      first | rfl | assumption | exact Eq.symm (by assumption)
    by_cases hb87 : b = 87
    · subst hb87
      first | rfl | assumption | exact Eq.symm (by assumption)
    by_cases hb88 : b = 88
    · subst hb88
      first | rfl | assumption | exact Eq.symm (by assumption)
    by_cases hb89 : b = 89
    · subst hb89
      first | rfl | assumption | exact Eq.symm (by assumption)
    by_cases hb90 : b = 90
    · subst hb90
      first | rfl | assumption | exact Eq.symm (by assumption)
    by_cases hb91 : b = 91
    · subst hb91
      first | rfl | assumption | exact Eq.symm (by assumption)
    by_cases hb92 : b = 92
    · subst hb92
      first | rfl | assumption | exact Eq.symm (by assumption)
    by_cases hb93 : b = 93
    · subst hb93
      first | rfl | assumption | exact Eq.symm (by assumption)
    by_cases hb94 : b = 94
    · subst hb94
      first | rfl | assumption | exact Eq.symm (by assumption)
    simp only [xup, xgrid]
    (repeat rw [if_neg (by omega)])
