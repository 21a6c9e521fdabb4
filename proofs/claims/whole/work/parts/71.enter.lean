/-! the law's entry: both sides are made; then the fixed objects stand -/
def xFX (D : Nat → Option xE) : Nat → Option xE := xup (xup (xup (xup (xup (xup (xup (xup (xup (xup (xup (xup (xup (xup (xup (xup (xup (xup (xup (xup (xup (xup (xup (xup (xup (xup (xup (xup (xup (xup (xup (xup (xup (xup (xup (xup (xup (xup (xup (xup (xup (xup (xup (xup (xup (xup (xup (xup (xup (xup (xup (xup (xup (xup (xup (xup (xup (xup (xup (xup (xup (xup (xup (D) 1 (xO 6 [xR (some 2), xR (some 23), xR (some 25), xR (some 45)])) 2 (xO 5 [xR (some 3), xR (some 6), xR (some 9), xR (some 15), xR (some 16), xR (some 17), xI 1, xR (some 18), xR (some 21), xR (some 22), xI 0, xI 0])) 3 (xO 3 [xR (some 4), xR (some 5), xI 0])) 4 (xAr 10 xz)) 5 (xAr 10 xz)) 6 (xO 3 [xR (some 7), xR (some 8), xI 0])) 7 (xAr 5 xz)) 8 (xAr 5 xz)) 9 (xO 4 [xR (some 10), xR (some 13), xR (some 14)])) 10 (xO 3 [xR (some 11), xR (some 12), xI 1])) 11 (xAr 31 (xup xz 0 (xI 0)))) 12 (xAr 31 (xup xz 0 (xI 0)))) 13 (xAr 31 (xup xz 0 (xI (-1))))) 14 (xAr 31 (xup xz 0 (xI (-1))))) 15 (xAr 10 (xfl xz 10 (-1)))) 16 (xAr 10 xz)) 17 (xAr 10 xz)) 18 (xO 3 [xR (some 19), xR (some 20), xI 0])) 19 (xAr 10 xz)) 20 (xAr 10 xz)) 21 (xAr 10 xz)) 22 (xAr 10 xz)) 23 (xO 0 [xR (some 24), xI 0])) 24 (xAr 60 xz)) 25 (xO 2 [xR (some 2), xR (some 23), xR (some 26), xI 0, xR (some 27), xI 0, xI 0, xR (some 28), xR (some 42), xR (some 43), xR (some 44)])) 26 (xAr 12 xz)) 27 (xAr 12 xz)) 28 (xGr 13 29)) 29 (xAr 61 xz)) 30 (xAr 61 xz)) 31 (xAr 61 xz)) 32 (xAr 61 xz)) 33 (xAr 61 xz)) 34 (xAr 61 xz)) 35 (xAr 61 xz)) 36 (xAr 61 xz)) 37 (xAr 61 xz)) 38 (xAr 61 xz)) 39 (xAr 61 xz)) 40 (xAr 61 xz)) 41 (xAr 61 xz)) 42 (xAr 61 xz)) 43 (xAr 61 xz)) 44 (xAr 61 xz)) 45 (xO 1 [xR (some 46), xR (some 53), xR (some 60), xR (some 61), xI 0, xJ 0, xI 0, xR (some 62), xR (some 63), xI 0])) 46 (xGr 6 47)) 47 (xAr 6 xz)) 48 (xAr 6 xz)) 49 (xAr 6 xz)) 50 (xAr 6 xz)) 51 (xAr 6 xz)) 52 (xAr 6 xz)) 53 (xGr 6 54)) 54 (xAr 6 (xfl xz 6 1))) 55 (xAr 6 (xfl xz 6 1))) 56 (xAr 6 (xfl xz 6 1))) 57 (xAr 6 (xfl xz 6 1))) 58 (xAr 6 (xfl xz 6 1))) 59 (xAr 6 (xfl xz 6 1))) 60 (xAr 6 xz)) 61 (xAr 6 xz)) 62 (xAr 6 xz)) 63 (xAr 6 xz)
def xFM (D : Nat → Option xE) : Nat → Option xE := xup (xup (xup (xup (xup (xup (xup (xup (xup (xup (xup (xup (xup (xup (xup (xup (xup (xup (xup (xup (xup (xup (xup (xup (xup (xup (xup (xup (xup (xup (xup (D) 64 (xO 7 [xI 0, xR (some 65), xR (some 66), xI 0, xR (some 67), xR (some 68), xI 1, xR (some 69), xR (some 70), xR (some 71), xR (some 72), xR (some 73), xR (some 74), xI 0, xR (some 75), xI 0, xR (some 76), xR (some 77), xR (some 78), xR (some 79), xR (some 80), xR (some 81), xR (some 82), xR (some 83), xR (some 84), xR (some 85), xI 0, xR (some 86), xR (some 87), xI 0, xR (some 88), xI 0, xI 0, xR (some 89), xR (some 90), xR (some 91), xR (some 92), xR (some 93), xR (some 94)])) 65 (xAr 10 xz)) 66 (xAr 10 xz)) 67 (xAr 5 xz)) 68 (xAr 5 xz)) 69 (xAr 10 xz)) 70 (xAr 310 xz)) 71 (xAr 310 xz)) 72 (xAr 310 xz)) 73 (xAr 310 xz)) 74 (xAr 10 (xfl xz 10 (-1)))) 75 (xAr 60 xz)) 76 (xAr 12 xz)) 77 (xAr 36 xz)) 78 (xAr 36 (xfl xz 36 1))) 79 (xAr 10 xz)) 80 (xAr 10 xz)) 81 (xAr 11 xz)) 82 (xAr 10 xz)) 83 (xAr 793 xz)) 84 (xAr 61 xz)) 85 (xAr 61 xz)) 86 (xAr 12 xz)) 87 (xAr 61 xz)) 88 (xAr 6 xz)) 89 (xAr 6 xz)) 90 (xAr 6 xz)) 91 (some (.inr (1, 6, fun _ => xJ 0)))) 92 (xAr 6 xz)) 93 (xAr 6 xz)) 94 (xAr 6 xz)
/-- both sides as they are made -/
def xFin (D : Nat → Option xE) : Nat → Option xE := xFM (xup (xFX (xup D 1 (xO 6 [xR none, xR none, xR none, xR none]))) 64 (xO 7 [xI 0, xR none, xR none, xI 0, xR none, xR none, xI 0, xR none, xR none, xR none, xR none, xR none, xR none, xI 0, xR none, xI 0, xR none, xR none, xR none, xR none, xR none, xR none, xR none, xR none, xR none, xR none, xI 0, xR none, xR none, xI 0, xR none, xI 0, xI 0, xR none, xR none, xR none, xR none, xR none, xR none]))
theorem i_XF {D : Nat → Option xE} {Q : Option xV → (Nat → Option xE) → Nat → Prop} (h : D 1 = xO 6 [xR none, xR none, xR none, xR none] ∧ Q none (xFX D) 64) : xi 6 62 1455 m_X_init [xR (some 1)] D 2 Q := i_X h
theorem i_MF {D : Nat → Option xE} {Q : Option xV → (Nat → Option xE) → Nat → Prop} (h : D 64 = xO 7 [xI 0, xR none, xR none, xI 0, xR none, xR none, xI 0, xR none, xR none, xR none, xR none, xR none, xR none, xI 0, xR none, xI 0, xR none, xR none, xR none, xR none, xR none, xR none, xR none, xR none, xR none, xR none, xI 0, xR none, xR none, xI 0, xR none, xI 0, xI 0, xR none, xR none, xR none, xR none, xR none, xR none] ∧ Q none (xFM D) 95) : xi 2 30 2505 m_M_init [xR (some 64)] D 65 Q := i_M h
set_option maxRecDepth 100000 in
set_option maxHeartbeats 4000000 in
theorem w_enter {M : xM} {X : xS} {C : xC} {P : xP} (hW : xL1 M X C P) {D : Nat → Option xE} (hn : X 18 (xLl 0) [] (M, xFin D, 95) 94 4003) : X 0 [some (xR (some 0)), none, none, none] [] (M, D, 1) 0 0 := by
  refine xgo hW.2.2 k_Law [18] 40 ?_
  ((repeat' (first | (with_reducible refine And.intro ?_ ?_) | (intro h0; exact absurd h0 (by decide)) | (intro h0; exact absurd rfl h0) | (intro _) | ((conv => whnf); (first | (with_reducible refine And.intro ?_ ?_) | (intro h0; exact absurd h0 (by decide)) | (intro h0; exact absurd rfl h0) | (intro _) | (refine hW.1 _ _ _ _ _ _ _ _ _ _ _ (i_XF ?_) (by decide) (by decide) (Nat.le_of_ble_eq_true rfl) (Nat.le_of_ble_eq_true rfl) (Nat.le_of_ble_eq_true rfl)) | (refine hW.1 _ _ _ _ _ _ _ _ _ _ _ (i_MF ?_) (by decide) (by decide) (Nat.le_of_ble_eq_true rfl) (Nat.le_of_ble_eq_true rfl) (Nat.le_of_ble_eq_true rfl)))))); (all_goals (try exact Nat.le_of_ble_eq_true rfl)); (all_goals (try (exact rfl))); (all_goals (try decide)); (all_goals (try omega)); (all_goals (try ((conv => whnf); (first | (refine hW.2.1 _ _ _ ?_) | (change X _ _ _ _ _ _) | (change C _ _ _ _ _ _ _))))))
  all_goals exact hn
/-- the numbers at the start -/
def xM0 : xM := fun a k => cond (Nat.beq a 2) (cond (Nat.beq k 6) 1 0) (cond (Nat.beq a 10) (cond (Nat.beq k 2) 1 0) (cond (Nat.beq a 13 || Nat.beq a 14) (if k = 0 then -1 else 0) (cond (Nat.beq a 15 || Nat.beq a 74) (if k < 10 then -1 else 0) (cond (Nat.ble 54 a && Nat.ble a 59) (if k < 6 then 1 else 0) (cond (Nat.beq a 64) (cond (Nat.beq k 6) 1 0) (cond (Nat.beq a 78) (if k < 36 then 1 else 0) 0))))))
theorem xAr_eq {n : Nat} {f g : Nat → xV} (h : ∀ j, f j = g j) : xAr n f = xAr n g := by
  rw [show f = g from funext h]
theorem xfl_if (n : Nat) (v : Int) (j : Nat) : xfl xz n v j = xI (if j < n then v else 0) := by
  simp only [xfl]
  split <;> rfl
theorem xup_if (v : Int) (j : Nat) : xup xz 0 (xI v) j = xI (if j = 0 then v else 0) := by
  simp only [xup]
  split <;> rfl
theorem xup_i0 (j : Nat) : xup xz 0 (xI 0) j = xI 0 := by
  simp only [xup]
  split <;> rfl
set_option maxRecDepth 100000 in
set_option maxHeartbeats 4000000 in
theorem xFin_at {L : Nat} {xs : Nat → Int32} {a : Nat} {e : xE} (he : xrd xT0 (xM0, xDs L xs, 95) a = some e) : xFin (xDs L xs) a = some e := by
  by_cases h0 : a = 0
  · subst h0
    refine Eq.trans ?_ he
    rfl
  by_cases h1 : a = 1
  · subst h1
    refine Eq.trans ?_ he
    rfl
  by_cases h2 : a = 2
  · subst h2
    refine Eq.trans ?_ he
    rfl
  by_cases h3 : a = 3
  · subst h3
    refine Eq.trans ?_ he
    rfl
  by_cases h4 : a = 4
  · subst h4
    refine Eq.trans ?_ he
    rfl
  by_cases h5 : a = 5
  · subst h5
    refine Eq.trans ?_ he
    rfl
  by_cases h6 : a = 6
  · subst h6
    refine Eq.trans ?_ he
    rfl
  by_cases h7 : a = 7
  · subst h7
    refine Eq.trans ?_ he
    rfl
  by_cases h8 : a = 8
  · subst h8
    refine Eq.trans ?_ he
    rfl
  by_cases h9 : a = 9
  · subst h9
    refine Eq.trans ?_ he
    rfl
  by_cases h10 : a = 10
  · subst h10
    refine Eq.trans ?_ he
    rfl
  by_cases h11 : a = 11
  · subst h11
    refine Eq.trans ?_ he
    exact xAr_eq xup_i0
  by_cases h12 : a = 12
  · subst h12
    refine Eq.trans ?_ he
    exact xAr_eq xup_i0
  by_cases h13 : a = 13
  · subst h13
    refine Eq.trans ?_ he
    exact xAr_eq (xup_if _)
  by_cases h14 : a = 14
  · subst h14
    refine Eq.trans ?_ he
    exact xAr_eq (xup_if _)
  by_cases h15 : a = 15
  · subst h15
    refine Eq.trans ?_ he
    exact xAr_eq (xfl_if _ _)
  by_cases h16 : a = 16
  · subst h16
    refine Eq.trans ?_ he
    rfl
  by_cases h17 : a = 17
  · subst h17
    refine Eq.trans ?_ he
    rfl
  by_cases h18 : a = 18
  · subst h18
    refine Eq.trans ?_ he
    rfl
  by_cases h19 : a = 19
  · subst h19
    refine Eq.trans ?_ he
    rfl
  by_cases h20 : a = 20
  · subst h20
    refine Eq.trans ?_ he
    rfl
  by_cases h21 : a = 21
  · subst h21
    refine Eq.trans ?_ he
    rfl
  by_cases h22 : a = 22
  · subst h22
    refine Eq.trans ?_ he
    rfl
  by_cases h23 : a = 23
  · subst h23
    refine Eq.trans ?_ he
    rfl
  by_cases h24 : a = 24
  · subst h24
    refine Eq.trans ?_ he
    rfl
  by_cases h25 : a = 25
  · subst h25
    refine Eq.trans ?_ he
    rfl
  by_cases h26 : a = 26
  · subst h26
    refine Eq.trans ?_ he
    rfl
  by_cases h27 : a = 27
  · subst h27
    refine Eq.trans ?_ he
    rfl
  by_cases h28 : a = 28
  · subst h28
    refine Eq.trans ?_ he
    rfl
  by_cases h29 : a = 29
  · subst h29
    refine Eq.trans ?_ he
    rfl
  by_cases h30 : a = 30
  · subst h30
    refine Eq.trans ?_ he
    rfl
  by_cases h31 : a = 31
  · subst h31
    refine Eq.trans ?_ he
    rfl
  by_cases h32 : a = 32
  · subst h32
    refine Eq.trans ?_ he
    rfl
  by_cases h33 : a = 33
  · subst h33
    refine Eq.trans ?_ he
    rfl
  by_cases h34 : a = 34
  · subst h34
    refine Eq.trans ?_ he
    rfl
  by_cases h35 : a = 35
  · subst h35
    refine Eq.trans ?_ he
    rfl
  by_cases h36 : a = 36
  · subst h36
    refine Eq.trans ?_ he
    rfl
  by_cases h37 : a = 37
  · subst h37
    refine Eq.trans ?_ he
    rfl
  by_cases h38 : a = 38
  · subst h38
    refine Eq.trans ?_ he
    rfl
  by_cases h39 : a = 39
  · subst h39
    refine Eq.trans ?_ he
    rfl
  by_cases h40 : a = 40
  · subst h40
    refine Eq.trans ?_ he
    rfl
  by_cases h41 : a = 41
  · subst h41
    refine Eq.trans ?_ he
    rfl
  by_cases h42 : a = 42
  · subst h42
    refine Eq.trans ?_ he
    rfl
  by_cases h43 : a = 43
  · subst h43
    refine Eq.trans ?_ he
    rfl
  by_cases h44 : a = 44
  · subst h44
    refine Eq.trans ?_ he
    rfl
  by_cases h45 : a = 45
  · subst h45
    refine Eq.trans ?_ he
    rfl
  by_cases h46 : a = 46
  · subst h46
    refine Eq.trans ?_ he
    rfl
  by_cases h47 : a = 47
  · subst h47
    refine Eq.trans ?_ he
    rfl
  by_cases h48 : a = 48
  · subst h48
    refine Eq.trans ?_ he
    rfl
  by_cases h49 : a = 49
  · subst h49
    refine Eq.trans ?_ he
    rfl
  by_cases h50 : a = 50
  · subst h50
    refine Eq.trans ?_ he
    rfl
  by_cases h51 : a = 51
  · subst h51
    refine Eq.trans ?_ he
    rfl
  by_cases h52 : a = 52
  · subst h52
    refine Eq.trans ?_ he
    rfl
  by_cases h53 : a = 53
  · subst h53
    refine Eq.trans ?_ he
    rfl
  by_cases h54 : a = 54
  · subst h54
    refine Eq.trans ?_ he
    exact xAr_eq (xfl_if _ _)
  by_cases h55 : a = 55
  · subst h55
    refine Eq.trans ?_ he
    exact xAr_eq (xfl_if _ _)
  by_cases h56 : a = 56
  · subst h56
    refine Eq.trans ?_ he
    exact xAr_eq (xfl_if _ _)
  by_cases h57 : a = 57
  · subst h57
    refine Eq.trans ?_ he
    exact xAr_eq (xfl_if _ _)
  by_cases h58 : a = 58
  · subst h58
    refine Eq.trans ?_ he
    exact xAr_eq (xfl_if _ _)
  by_cases h59 : a = 59
  · subst h59
    refine Eq.trans ?_ he
    exact xAr_eq (xfl_if _ _)
  by_cases h60 : a = 60
  · subst h60
    refine Eq.trans ?_ he
    rfl
  by_cases h61 : a = 61
  · subst h61
    refine Eq.trans ?_ he
    rfl
  by_cases h62 : a = 62
  · subst h62
    refine Eq.trans ?_ he
    rfl
  by_cases h63 : a = 63
  · subst h63
    refine Eq.trans ?_ he
    rfl
  by_cases h64 : a = 64
  · subst h64
    refine Eq.trans ?_ he
    rfl
  by_cases h65 : a = 65
  · subst h65
    refine Eq.trans ?_ he
    rfl
  by_cases h66 : a = 66
  · subst h66
    refine Eq.trans ?_ he
    rfl
  by_cases h67 : a = 67
  · subst h67
    refine Eq.trans ?_ he
    rfl
  by_cases h68 : a = 68
  · subst h68
    refine Eq.trans ?_ he
    rfl
  by_cases h69 : a = 69
  · subst h69
    refine Eq.trans ?_ he
    rfl
  by_cases h70 : a = 70
  · subst h70
    refine Eq.trans ?_ he
    rfl
  by_cases h71 : a = 71
  · subst h71
    refine Eq.trans ?_ he
    rfl
  by_cases h72 : a = 72
  · subst h72
    refine Eq.trans ?_ he
    rfl
  by_cases h73 : a = 73
  · subst h73
    refine Eq.trans ?_ he
    rfl
  by_cases h74 : a = 74
  · subst h74
    refine Eq.trans ?_ he
    exact xAr_eq (xfl_if _ _)
  by_cases h75 : a = 75
  · subst h75
    refine Eq.trans ?_ he
    rfl
  by_cases h76 : a = 76
  · subst h76
    refine Eq.trans ?_ he
    rfl
  by_cases h77 : a = 77
  · subst h77
    refine Eq.trans ?_ he
    rfl
  by_cases h78 : a = 78
  · subst h78
    refine Eq.trans ?_ he
    exact xAr_eq (xfl_if _ _)
  by_cases h79 : a = 79
  · subst h79
    refine Eq.trans ?_ he
    rfl
  by_cases h80 : a = 80
  · subst h80
    refine Eq.trans ?_ he
    rfl
  by_cases h81 : a = 81
  · subst h81
    refine Eq.trans ?_ he
    rfl
  by_cases h82 : a = 82
  · subst h82
    refine Eq.trans ?_ he
    rfl
  by_cases h83 : a = 83
  · subst h83
    refine Eq.trans ?_ he
    rfl
  by_cases h84 : a = 84
  · subst h84
    refine Eq.trans ?_ he
    rfl
  by_cases h85 : a = 85
  · subst h85
    refine Eq.trans ?_ he
    rfl
  by_cases h86 : a = 86
  · subst h86
    refine Eq.trans ?_ he
    rfl
  by_cases h87 : a = 87
  · subst h87
    refine Eq.trans ?_ he
    rfl
  by_cases h88 : a = 88
  · subst h88
    refine Eq.trans ?_ he
    rfl
  by_cases h89 : a = 89
  · subst h89
    refine Eq.trans ?_ he
    rfl
  by_cases h90 : a = 90
  · subst h90
    refine Eq.trans ?_ he
    rfl
  by_cases h91 : a = 91
  · subst h91
    refine Eq.trans ?_ he
    rfl
  by_cases h92 : a = 92
  · subst h92
    refine Eq.trans ?_ he
    rfl
  by_cases h93 : a = 93
  · subst h93
    refine Eq.trans ?_ he
    rfl
  by_cases h94 : a = 94
  · subst h94
    refine Eq.trans ?_ he
    rfl
  have hT : xT0 a = none := by
    unfold xT0
    rw [show Nat.beq a 0 = false by rw [Bool.eq_false_iff]; intro q; exact h0 (Nat.eq_of_beq_eq_true q), show Nat.ble 95 a = true from Nat.ble_eq.mpr (by omega)]
    rfl
  unfold xrd at he
  rw [hT] at he
  simp only [xup] at he
  rw [if_neg h0] at he
  cases he
theorem xMt_fin {G : xG} {L : Nat} {xs : Nat → Int32} {M : xM} {H : Heap} (h : xMt xN0 G (M, xFin (xDs L xs), 95) H) : xMt xT0 G (xM0, xDs L xs, 95) H := ⟨h.1, h.2.1, h.2.2.1, fun a e he => h.2.2.2 a e (xFin_at he)⟩
theorem TLs0 : TLs xM0 = [(0, 0, 0)] := rfl
theorem tlOk0 : tlOk xM0 := by
  refine ⟨by rw [TLs0]; rfl, fun t x hx => ?_⟩
  rw [TLs0] at hx
  cases t with
  | zero =>
    cases hx
    exact ⟨rfl, rfl, rfl, rfl⟩
  | succ t => cases hx
theorem INV0 : INV xM0 := by
  have w0 : wOk xM0 := ⟨by decide, by decide, fun i hi => absurd (show (i : Int) < 0 from hi) (by omega)⟩
  have e0 : eOk xM0 := ⟨by decide, by decide, fun i hi => absurd (show (i : Int) < 0 from hi) (by omega)⟩
  have r0 : relW xM0 := ⟨rfl, rfl, rfl, fun i hi => absurd (show (i : Int) < 0 from hi) (by omega), fun i hi => absurd (show (i : Int) < 0 from hi) (by omega), fun w _ => ⟨by show (0 : Int) ≤ 0; decide, by show (0 : Int) ≤ 6; decide⟩, fun i _ => ⟨by show (0 : Int) ≤ 0; decide, by show (0 : Int) ≤ 6; decide⟩⟩
  have g0 : gvOk xM0 := fun w hw => Or.inl (show (if w < 10 then (-1 : Int) else 0) = -1 from if_pos hw)
  have c0 : relC xM0 := ⟨fun w hw => absurd (show (w : Int) < 0 from hw) (by omega), fun w hw => absurd (show (w : Int) < 0 from hw) (by omega)⟩
  have k0 : earOk xM0 := ⟨by decide, by decide, fun j => ⟨by show (-1 : Int) ≤ 0; decide, by show (0 : Int) ≤ 1; decide⟩⟩
  have H1 : ∀ f, f < 6 → ∀ t, t < 6 → 0 ≤ xM0 (47 + f) t ∧ xM0 (47 + f) t ≤ 1000 ∧ 1 ≤ xM0 (54 + f) t ∧ xM0 (54 + f) t ≤ 20 := by decide +kernel
  have H2 : ∀ f, f < 6 → ∀ t, t < 6 → xM0 77 (6 * f + t) = xM0 (47 + f) t ∧ xM0 78 (6 * f + t) = xM0 (54 + f) t := by decide +kernel
  have H3 : ∀ f, f < 6 → xM0 (47 + f) f = 0 := by decide +kernel
  exact ⟨⟨⟨⟨w0, e0, tlOk0, r0, by decide, by decide⟩, g0, c0⟩, ⟨rfl, fun j hj => absurd (show (j : Int) < 0 from hj) (by omega)⟩, k0⟩, ⟨rfl, by decide, by decide, fun i hi => absurd (show (i : Int) < 0 from hi) (by omega)⟩, ⟨by decide, by decide⟩, fun f t hf ht => H1 f hf t ht, fun f t hf ht => H2 f hf t ht, fun f hf => H3 f hf⟩
