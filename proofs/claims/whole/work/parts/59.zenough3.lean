/-! the reference: enough, times -/
/-- from a hill to itself nothing is heard -/
def relD (M : xM) : Prop := ∀ f : Nat, f < 6 → cM M f f = 0
def enFr (M0 M : xM) : Prop := (∀ a, a < 64 ∨ 64 < a ∧ a < 88 ∨ 94 < a → M a = M0 a) ∧ ∀ j, j ≠ 29 → j ≠ 31 → j ≠ 32 → M 64 j = M0 64 j
set_option maxRecDepth 100000 in
set_option maxHeartbeats 1000000 in
theorem z_enoughFor {M : xM} {Q : Option xV → xM → Prop} {s d : Nat} {c : Int} (hh : hillOk M) (hg : relG M) (hD : relD M) (hs : s < 6) (hd : d < 6) (hsd : s ≠ d) (hc : 1 ≤ c ∧ c ≤ 1000000000) (h0 : (hBest (cM M) (hM M) s d).1 = 0 → ∀ M', enFr M M' → Q (some (xI (-1))) M') (h1 : 0 < (hBest (cM M) (hM M) s d).1 → ∀ M', enFr M M' → M' 64 29 = ((hBest (cM M) (hM M) s d).2.2.1 : Int) - 1 → (0 < (enR (cM M) (hM M) s d c).1 → ∀ j, j < (hBest (cM M) (hM M) s d).2.2.1 - 1 → M' 94 j = (enR (cM M) (hM M) s d c).2 j) → 0 ≤ (enR (cM M) (hM M) s d c).1 → (enR (cM M) (hM M) s d c).1 ≤ 100 → Q (some (xI (enB (enR (cM M) (hM M) s d c)))) M') : xm 2 m_M_enoughFor [xR (some 64), xI (s : Int), xI (d : Int), xI c] M Q := by
  have hch := hh.ch
  unfold enR at h1
  obtain ⟨B, e, b, cf⟩ := z_look' hh hg hs hd hsd
  rw [← e] at h0 h1
  obtain ⟨b1, b2, b3, b4, b5, b6⟩ := b
  clear e
  (refine xm_of (own := "DrumTongueModel") rfl (by decide +kernel) tk_M [some (xR (some 64)), some (xI (s : Int)), some (xI (d : Int)), some (xI c), none, none, none, none, none, none, none, none, none, none] (Nat.le_of_ble_eq_true rfl) rfl ?_; intro D nx X C P hW)
  have main : ∀ M1, lkFr M M1 → lkB M1 B → 0 < B.1 → enX X D nx 21 s d c (-1) [some (xI 0), none, none, none, none, none, none, none, none] M1 := by
    intro M1 f1 f2 hpos
    obtain ⟨k1, k2, k3⟩ := f2
    obtain ⟨k4, k5⟩ := k3 hpos
    obtain ⟨b7, b8, b9⟩ := b5 hpos
    obtain ⟨ns, hns⟩ : ∃ ns, B.2.2.1 = ns + 1 := ⟨B.2.2.1 - 1, by omega⟩
    have h1' := h1 hpos
    rw [hns, Nat.add_sub_cancel] at h1'
    rw [hns] at k4 k5 b9
    have e29 : M1 64 29 = (ns : Int) := by omega
    have h88 : ∀ k, k ≤ ns → M1 88 k = (B.2.2.2 k : Int) ∧ B.2.2.2 k < 6 := fun k hk => ⟨k5 k (by omega), b9 k (by omega)⟩
    have rth := thS_rg (c := cM M) (h := hM M) (p := B.2.2.2) (ns := ns) hch (fun i hi => b9 i (by omega))
    have hth : ∀ k, k < ns → M1 77 (6 * B.2.2.2 k + B.2.2.2 (k + 1)) = thS (cM M) B.2.2.2 ns k := fun k hk => by
      rw [f1.1 77 (by omega), (hg _ _ (b9 k (by omega)) (b9 (k + 1) (by omega))).1]
      unfold thS
      rw [if_pos hk]
      split
      · rename_i q
        rw [← q]
        exact hD _ (b9 k (by omega))
      · rfl
    generalize thS (cM M) B.2.2.2 ns = th at *
    have hK : enK X D nx M1 s d c ns 0 (fun _ => 0) (eRec th c ns 0 (fun _ => 0) (smN (fun _ => 0) 0) (itN th (fun _ => 0) 0) (0, fun _ => 0)) := by
      intro M'' hI its sum y10 y11 y12 y13
      obtain ⟨j1, j2, j3, j4, j5, j6⟩ := hI
      have h5 := h1' M'' ⟨fun a ha => by rw [j1 a (by omega) (by omega)]; exact f1.1 a (by omega), fun j q1 q2 q3 => by rw [j1 64 (by decide) (by decide)]; exact f1.2 j q1 q2 q3⟩ (by rw [j1 64 (by decide) (by decide), e29]; omega) j4 j5 j6
      have g29 : M'' 64 29 = (ns : Int) := by rw [j1 64 (by decide) (by decide)]; exact e29
      clear h0 h1 h1' cf hh hg hD hch b5 b6 b9 k5 k3 h88 rth hth j1 j2 j3 j4 f1
      replace h5 : Q (some (xI (enB (eRec th c ns 0 (fun _ => 0) (smN (fun _ => 0) 0) (itN th (fun _ => 0) 0) (0, fun _ => 0))))) M'' := h5
      generalize enB (eRec th c ns 0 (fun _ => 0) (smN (fun _ => 0) 0) (itN th (fun _ => 0) 0) (0, fun _ => 0)) = be at *
      clear j5 j6
      unfold enX
      refine xg hW k_M_enoughFor [245] 40 ?_
      ((repeat' (first | (with_reducible refine And.intro ?_ ?_) | (intro h0; exact absurd h0 (by decide)) | (intro h0; exact absurd rfl h0) | (intro h0; exfalso; clear hW; omega) | (intro _) | ((conv => whnf); (first | (with_reducible refine And.intro ?_ ?_) | (intro h0; exact absurd h0 (by decide)) | (intro h0; exact absurd rfl h0) | (intro h0; exfalso; clear hW; omega) | (intro _))))); (all_goals (try omega)); (all_goals (try exact xnn (by omega))); (all_goals (try exact Nat.le_of_ble_eq_true rfl)); (all_goals (try ((conv => whnf); (first | (refine hW.2.1 _ _ ?_) | (change X _ _ _ _ _ _) | (change C _ _ _ _ _ _ _))))); (all_goals (try simp only [xup_at, xup_ne, xup_up, ne_eq, Nat.reduceEqDiff, not_false_eq_true, Int.toNat_natCast, x_lcmp] at *)); (all_goals (try omega)))
      all_goals exact h5
    have p47 : ∀ g : Nat → Int, (∀ j, j < ns → g j = 1) → ∀ x6 x7 x8 x9 x10 x11 x12 x13, enX X D nx 47 s d c (-1) [some (xI 1), x6, x7, x8, x9, x10, x11, x12, x13] (xup M1 93 g) := fun g hg' =>
      z_enR (M1 := M1) (E := (0, fun _ => 0)) hW (show ns ≤ 5 by omega) (by omega) e29 h88 hth rth hc ns 0 (by omega) (fun _ => 0) (xup M1 93 g) (fun j hj => absurd hj (by omega)) ⟨fun a a1 _ => by rw [xup_ne a1], fun j hj => absurd hj (by omega), fun j _ hj => by rw [xup_at]; exact hg' j hj, fun q => absurd q (by decide), by decide, by decide⟩ hK
    have loop : ∀ (m k : Nat) (g : Nat → Int), k + m = ns → (∀ j, j < k → g j = 1) → enX X D nx 21 s d c (-1) [some (xI (k : Int)), none, none, none, none, none, none, none, none] (xup M1 93 g) := by
      intro m
      induction m with
      | zero =>
        intro k g hk hg'
        obtain rfl : k = ns := by omega
        have h5 := p47 g hg' none none none none none none none none
        clear h0 h1 h1' cf hh hg hD hch b5 b6 b9 k5 k3 h88 rth hth f1 hK p47 hg'
        unfold enX at *
        refine xg hW k_M_enoughFor [21, 47] 40 ?_
        ((repeat' (first | (with_reducible refine And.intro ?_ ?_) | (intro h0; exact absurd h0 (by decide)) | (intro h0; exact absurd rfl h0) | (intro h0; exfalso; clear hW; omega) | (intro _) | ((conv => whnf); (first | (with_reducible refine And.intro ?_ ?_) | (intro h0; exact absurd h0 (by decide)) | (intro h0; exact absurd rfl h0) | (intro h0; exfalso; clear hW; omega) | (intro _))))); (all_goals (try omega)); (all_goals (try exact xnn (by omega))); (all_goals (try exact Nat.le_of_ble_eq_true rfl)); (all_goals (try ((conv => whnf); (first | (refine hW.2.1 _ _ ?_) | (change X _ _ _ _ _ _) | (change C _ _ _ _ _ _ _))))); (all_goals (try simp only [xup_at, xup_ne, xup_up, ne_eq, Nat.reduceEqDiff, not_false_eq_true, Int.toNat_natCast, x_lcmp] at *)); (all_goals (try omega)))
        all_goals exact h5
      | succ m ih =>
        intro k g hk hg'
        have h5 := ih (k + 1) (xup g k 1) (by omega) (fun j hj => by
          by_cases q : j = k
          · rw [q, xup_at]
          · rw [xup_ne q]; exact hg' j (by omega))
        clear h0 h1 h1' cf hh hg hD hch b5 b6 b9 k5 k3 h88 rth hth f1 hK p47 hg' ih
        unfold enX at *
        refine xg hW k_M_enoughFor [21, 47] 40 ?_
        ((repeat' (first | (with_reducible refine And.intro ?_ ?_) | (intro h0; exact absurd h0 (by decide)) | (intro h0; exact absurd rfl h0) | (intro h0; exfalso; clear hW; omega) | (intro _) | ((conv => whnf); (first | (with_reducible refine And.intro ?_ ?_) | (intro h0; exact absurd h0 (by decide)) | (intro h0; exact absurd rfl h0) | (intro h0; exfalso; clear hW; omega) | (intro _))))); (all_goals (try omega)); (all_goals (try exact xnn (by omega))); (all_goals (try exact Nat.le_of_ble_eq_true rfl)); (all_goals (try ((conv => whnf); (first | (refine hW.2.1 _ _ ?_) | (change X _ _ _ _ _ _) | (change C _ _ _ _ _ _ _))))); (all_goals (try simp only [xup_at, xup_ne, xup_up, ne_eq, Nat.reduceEqDiff, not_false_eq_true, Int.toNat_natCast, x_lcmp] at *)); (all_goals (try omega)))
        all_goals exact h5
    have h5 := loop ns 0 (M1 93) (by omega) (fun j hj => absurd hj (by omega))
    rw [xup_id] at h5
    exact h5
  refine xg hW k_M_enoughFor [21] 40 ?_
  ((repeat' (first | (with_reducible refine And.intro ?_ ?_) | (intro h0; exact absurd h0 (by decide)) | (intro h0; exact absurd rfl h0) | (intro h0; exfalso; clear hW; omega) | (intro _) | ((conv => whnf); (first | (with_reducible refine And.intro ?_ ?_) | (intro h0; exact absurd h0 (by decide)) | (intro h0; exact absurd rfl h0) | (intro h0; exfalso; clear hW; omega) | (intro _))))); (all_goals (try omega)); (all_goals (try exact xnn (by omega))); (all_goals (try exact Nat.le_of_ble_eq_true rfl)); (all_goals (try ((conv => whnf); (first | (refine hW.2.1 _ _ ?_) | (change X _ _ _ _ _ _) | (change C _ _ _ _ _ _ _))))); (all_goals (try simp only [xup_at, xup_ne, xup_up, ne_eq, Nat.reduceEqDiff, not_false_eq_true, Int.toNat_natCast, x_lcmp] at *)); (all_goals (try omega)))
  refine hW.1 _ _ _ _ _ _ (cf _ (fun M1 f1 f2 => ?_)) (by decide) (by decide) (Nat.le_of_ble_eq_true rfl)
  have k1 := f2.1
  have h5 := fun q => h0 q M1 ⟨fun a ha => f1.1 a (by omega), f1.2⟩
  have h6 := main M1 f1 f2
  rw [← k1] at h5 h6 b1 b2
  clear h0 h1 cf hh hg hD hch b5 b6 f1 f2 main
  unfold enX at h6
  ((repeat' (first | (with_reducible refine And.intro ?_ ?_) | (intro h0; exact absurd h0 (by decide)) | (intro h0; exact absurd rfl h0) | (intro h0; exfalso; clear hW; omega) | (intro _) | ((conv => whnf); (first | (with_reducible refine And.intro ?_ ?_) | (intro h0; exact absurd h0 (by decide)) | (intro h0; exact absurd rfl h0) | (intro h0; exfalso; clear hW; omega) | (intro _))))); (all_goals (try omega)); (all_goals (try exact xnn (by omega))); (all_goals (try exact Nat.le_of_ble_eq_true rfl)); (all_goals (try ((conv => whnf); (first | (refine hW.2.1 _ _ ?_) | (change X _ _ _ _ _ _) | (change C _ _ _ _ _ _ _))))); (all_goals (try simp only [xup_at, xup_ne, xup_up, ne_eq, Nat.reduceEqDiff, not_false_eq_true, Int.toNat_natCast, x_lcmp] at *)); (all_goals (try omega)))
  all_goals first | exact h5 (by omega) | exact h6 (by omega) | trace_state
theorem z_enoughFor' {M : xM} {s d : Nat} {c : Int} (hh : hillOk M) (hg : relG M) (hD : relD M) (hs : s < 6) (hd : d < 6) (hsd : s ≠ d) (hc : 1 ≤ c ∧ c ≤ 1000000000) : ∃ (B : xB) (E : xE2), B = hBest (cM M) (hM M) s d ∧ E = enR (cM M) (hM M) s d c ∧ hbOk B ∧ ∀ Q : Option xV → xM → Prop, (B.1 = 0 → ∀ M', enFr M M' → Q (some (xI (-1))) M') → (0 < B.1 → ∀ M', enFr M M' → M' 64 29 = (B.2.2.1 : Int) - 1 → (0 < E.1 → ∀ j, j < B.2.2.1 - 1 → M' 94 j = E.2 j) → 0 ≤ E.1 → E.1 ≤ 100 → Q (some (xI (enB E))) M') → xm 2 m_M_enoughFor [xR (some 64), xI (s : Int), xI (d : Int), xI c] M Q := ⟨_, _, rfl, rfl, hBest_ok hh.ch hs, fun Q a b => z_enoughFor hh hg hD hs hd hsd hc a b⟩
set_option maxRecDepth 100000 in
set_option maxHeartbeats 600000 in
theorem z_enoughN {M : xM} {Q : Option xV → xM → Prop} {s d c : Int} (hs : xrg s) (hd : xrg d) (hc : xrg c) (hp : ¬ (isPair s d ∧ 1 ≤ c ∧ c ≤ 1000000000)) (h : Q (some (xI (-2))) M) : xm 4 m_M_enough [xR (some 64), xI s, xI d, xI c] M Q := by
  obtain ⟨c1, c2⟩ := hc
  by_cases q : isPair s d
  · have q3 : ¬ (1 ≤ c ∧ c ≤ 1000000000) := fun r => hp ⟨q, r⟩
    obtain ⟨r1, r2, r3, r4, r5⟩ := id q
    have zp : ∀ Q' : Option xV → xM → Prop, Q' (some (xI 1)) M → xm 3 m_M_areHills [xI s, xI d] M Q' := fun _ h => z_areHills ⟨⟨hs, hd⟩, fun _ => h, fun a => absurd q a⟩
    clear hp q
    (refine xm_of (own := "DrumTongueModel") rfl (by decide +kernel) tk_M [some (xR (some 64)), some (xI s), some (xI d), some (xI c)] (Nat.le_of_ble_eq_true rfl) rfl ?_; intro D nx X C P hW)
    refine xg hW k_M_enough [] 40 ?_
    ((repeat' (first | (with_reducible refine And.intro ?_ ?_) | (intro h0; exact absurd h0 (by decide)) | (intro h0; exact absurd rfl h0) | (intro h0; exfalso; clear hW; omega) | (intro _) | ((conv => whnf); (first | (with_reducible refine And.intro ?_ ?_) | (intro h0; exact absurd h0 (by decide)) | (intro h0; exact absurd rfl h0) | (intro h0; exfalso; clear hW; omega) | (intro _) | (refine hW.1 _ _ _ _ _ _ (zp _ ?_) (by first | decide | omega) (by decide) (Nat.le_of_ble_eq_true rfl)) | (refine hW.1 _ _ _ _ _ _ (z_in ?_) (by first | decide | omega) (by decide) (Nat.le_of_ble_eq_true rfl)))))); (all_goals (try omega)); (all_goals (try exact xnn (by omega))); (all_goals (try exact Nat.le_of_ble_eq_true rfl)); (all_goals (try ((conv => whnf); (first | (refine hW.2.1 _ _ ?_) | (change X _ _ _ _ _ _) | (change C _ _ _ _ _ _ _))))); (all_goals (try simp only [xup_at, xup_ne, xup_up, ne_eq, Nat.reduceEqDiff, not_false_eq_true, Int.toNat_natCast, x_lcmp] at *)); (all_goals (try omega)))
    all_goals first | exact h | omega
  · (refine xm_of (own := "DrumTongueModel") rfl (by decide +kernel) tk_M [some (xR (some 64)), some (xI s), some (xI d), some (xI c)] (Nat.le_of_ble_eq_true rfl) rfl ?_; intro D nx X C P hW)
    refine xg hW k_M_enough [] 40 ?_
    ((repeat' (first | (with_reducible refine And.intro ?_ ?_) | (intro h0; exact absurd h0 (by decide)) | (intro h0; exact absurd rfl h0) | (intro h0; exfalso; clear hW; omega) | (intro _) | ((conv => whnf); (first | (with_reducible refine And.intro ?_ ?_) | (intro h0; exact absurd h0 (by decide)) | (intro h0; exact absurd rfl h0) | (intro h0; exfalso; clear hW; omega) | (intro _) | (refine hW.1 _ _ _ _ _ _ (z_pairN hs hd q _ ?_) (by first | decide | omega) (by decide) (Nat.le_of_ble_eq_true rfl)))))); (all_goals (try omega)); (all_goals (try exact xnn (by omega))); (all_goals (try exact Nat.le_of_ble_eq_true rfl)); (all_goals (try ((conv => whnf); (first | (refine hW.2.1 _ _ ?_) | (change X _ _ _ _ _ _) | (change C _ _ _ _ _ _ _))))); (all_goals (try simp only [xup_at, xup_ne, xup_up, ne_eq, Nat.reduceEqDiff, not_false_eq_true, Int.toNat_natCast, x_lcmp] at *)); (all_goals (try omega)))
    all_goals exact h
set_option maxRecDepth 100000 in
set_option maxHeartbeats 600000 in
theorem z_enough {M : xM} {Q : Option xV → xM → Prop} {s d : Nat} {c : Int} (hh : hillOk M) (hg : relG M) (hD : relD M) (hs : s < 6) (hd : d < 6) (hsd : s ≠ d) (hc : 1 ≤ c ∧ c ≤ 1000000000) (h1 : ∀ M', enFr M M' → 0 < (hBest (cM M) (hM M) s d).1 → 0 < (enR (cM M) (hM M) s d c).1 → Q (some (xI (enR (cM M) (hM M) s d c).1)) M') (h2 : ∀ M', enFr M M' → (hBest (cM M) (hM M) s d).1 = 0 ∨ (enR (cM M) (hM M) s d c).1 = 0 → Q (some (xI (-1))) M') : xm 4 m_M_enough [xR (some 64), xI (s : Int), xI (d : Int), xI c] M Q := by
  obtain ⟨B, E, e, e', b, cf⟩ := z_enoughFor' hh hg hD hs hd hsd hc
  rw [← e, ← e'] at h1 h2
  obtain ⟨c1, c2⟩ := hc
  clear e e' hh hg hD b
  (refine xm_of (own := "DrumTongueModel") rfl (by decide +kernel) tk_M [some (xR (some 64)), some (xI (s : Int)), some (xI (d : Int)), some (xI c)] (Nat.le_of_ble_eq_true rfl) rfl ?_; intro D nx X C P hW)
  refine xg hW k_M_enough [] 40 ?_
  ((repeat' (first | (with_reducible refine And.intro ?_ ?_) | (intro h0; exact absurd h0 (by decide)) | (intro h0; exact absurd rfl h0) | (intro h0; exfalso; clear hW; omega) | (intro _) | ((conv => whnf); (first | (with_reducible refine And.intro ?_ ?_) | (intro h0; exact absurd h0 (by decide)) | (intro h0; exact absurd rfl h0) | (intro h0; exfalso; clear hW; omega) | (intro _) | (refine hW.1 _ _ _ _ _ _ (z_pairY hs hd hsd _ ?_) (by first | decide | omega) (by decide) (Nat.le_of_ble_eq_true rfl)) | (refine hW.1 _ _ _ _ _ _ (z_in ?_) (by first | decide | omega) (by decide) (Nat.le_of_ble_eq_true rfl)))))); (all_goals (try omega)); (all_goals (try exact xnn (by omega))); (all_goals (try exact Nat.le_of_ble_eq_true rfl)); (all_goals (try ((conv => whnf); (first | (refine hW.2.1 _ _ ?_) | (change X _ _ _ _ _ _) | (change C _ _ _ _ _ _ _))))); (all_goals (try simp only [xup_at, xup_ne, xup_up, ne_eq, Nat.reduceEqDiff, not_false_eq_true, Int.toNat_natCast, x_lcmp] at *)); (all_goals (try omega)))
  refine hW.1 _ _ _ _ _ _ (cf _ (fun hb M' f1 => ?_) (fun hb M' f1 g1 g2 g3 g4 => ?_)) (by decide) (by decide) (Nat.le_of_ble_eq_true rfl)
  · have h5 := h2 M' f1 (Or.inl hb)
    clear cf h1 h2 f1
    ((repeat' (first | (with_reducible refine And.intro ?_ ?_) | (intro h0; exact absurd h0 (by decide)) | (intro h0; exact absurd rfl h0) | (intro h0; exfalso; clear hW; omega) | (intro _) | ((conv => whnf); (first | (with_reducible refine And.intro ?_ ?_) | (intro h0; exact absurd h0 (by decide)) | (intro h0; exact absurd rfl h0) | (intro h0; exfalso; clear hW; omega) | (intro _))))); (all_goals (try omega)); (all_goals (try exact xnn (by omega))); (all_goals (try exact Nat.le_of_ble_eq_true rfl)); (all_goals (try ((conv => whnf); (first | (refine hW.2.1 _ _ ?_) | (change X _ _ _ _ _ _) | (change C _ _ _ _ _ _ _))))); (all_goals (try simp only [xup_at, xup_ne, xup_up, ne_eq, Nat.reduceEqDiff, not_false_eq_true, Int.toNat_natCast, x_lcmp] at *)); (all_goals (try omega)))
    all_goals exact h5
  · have h5 : Q (some (xI (enB E))) M' := by
      unfold enB
      split
      · exact h2 M' f1 (Or.inr (by assumption))
      · exact h1 M' f1 hb (by omega)
    clear cf h1 h2 f1 g2
    generalize enB E = v at *
    ((repeat' (first | (with_reducible refine And.intro ?_ ?_) | (intro h0; exact absurd h0 (by decide)) | (intro h0; exact absurd rfl h0) | (intro h0; exfalso; clear hW; omega) | (intro _) | ((conv => whnf); (first | (with_reducible refine And.intro ?_ ?_) | (intro h0; exact absurd h0 (by decide)) | (intro h0; exact absurd rfl h0) | (intro h0; exfalso; clear hW; omega) | (intro _))))); (all_goals (try omega)); (all_goals (try exact xnn (by omega))); (all_goals (try exact Nat.le_of_ble_eq_true rfl)); (all_goals (try ((conv => whnf); (first | (refine hW.2.1 _ _ ?_) | (change X _ _ _ _ _ _) | (change C _ _ _ _ _ _ _))))); (all_goals (try simp only [xup_at, xup_ne, xup_up, ne_eq, Nat.reduceEqDiff, not_false_eq_true, Int.toNat_natCast, x_lcmp] at *)); (all_goals (try omega)))
    all_goals exact h5
set_option maxRecDepth 100000 in
set_option maxHeartbeats 600000 in
theorem z_timesN {M : xM} {Q : Option xV → xM → Prop} {s d c i : Int} (hs : xrg s) (hd : xrg d) (hc : xrg c) (hp : ¬ (isPair s d ∧ 1 ≤ c ∧ c ≤ 1000000000)) (h : Q (some (xI (-2))) M) : xm 4 m_M_times [xR (some 64), xI s, xI d, xI c, xI i] M Q := by
  obtain ⟨c1, c2⟩ := hc
  by_cases q : isPair s d
  · have q3 : ¬ (1 ≤ c ∧ c ≤ 1000000000) := fun r => hp ⟨q, r⟩
    obtain ⟨r1, r2, r3, r4, r5⟩ := id q
    have zp : ∀ Q' : Option xV → xM → Prop, Q' (some (xI 1)) M → xm 3 m_M_areHills [xI s, xI d] M Q' := fun _ h => z_areHills ⟨⟨hs, hd⟩, fun _ => h, fun a => absurd q a⟩
    clear hp q
    (refine xm_of (own := "DrumTongueModel") rfl (by decide +kernel) tk_M [some (xR (some 64)), some (xI s), some (xI d), some (xI c), some (xI i)] (Nat.le_of_ble_eq_true rfl) rfl ?_; intro D nx X C P hW)
    refine xg hW k_M_times [] 40 ?_
    ((repeat' (first | (with_reducible refine And.intro ?_ ?_) | (intro h0; exact absurd h0 (by decide)) | (intro h0; exact absurd rfl h0) | (intro h0; exfalso; clear hW; omega) | (intro _) | ((conv => whnf); (first | (with_reducible refine And.intro ?_ ?_) | (intro h0; exact absurd h0 (by decide)) | (intro h0; exact absurd rfl h0) | (intro h0; exfalso; clear hW; omega) | (intro _) | (refine hW.1 _ _ _ _ _ _ (zp _ ?_) (by first | decide | omega) (by decide) (Nat.le_of_ble_eq_true rfl)) | (refine hW.1 _ _ _ _ _ _ (z_in ?_) (by first | decide | omega) (by decide) (Nat.le_of_ble_eq_true rfl)))))); (all_goals (try omega)); (all_goals (try exact xnn (by omega))); (all_goals (try exact Nat.le_of_ble_eq_true rfl)); (all_goals (try ((conv => whnf); (first | (refine hW.2.1 _ _ ?_) | (change X _ _ _ _ _ _) | (change C _ _ _ _ _ _ _))))); (all_goals (try simp only [xup_at, xup_ne, xup_up, ne_eq, Nat.reduceEqDiff, not_false_eq_true, Int.toNat_natCast, x_lcmp] at *)); (all_goals (try omega)))
    all_goals first | exact h | omega
  · (refine xm_of (own := "DrumTongueModel") rfl (by decide +kernel) tk_M [some (xR (some 64)), some (xI s), some (xI d), some (xI c), some (xI i)] (Nat.le_of_ble_eq_true rfl) rfl ?_; intro D nx X C P hW)
    refine xg hW k_M_times [] 40 ?_
    ((repeat' (first | (with_reducible refine And.intro ?_ ?_) | (intro h0; exact absurd h0 (by decide)) | (intro h0; exact absurd rfl h0) | (intro h0; exfalso; clear hW; omega) | (intro _) | ((conv => whnf); (first | (with_reducible refine And.intro ?_ ?_) | (intro h0; exact absurd h0 (by decide)) | (intro h0; exact absurd rfl h0) | (intro h0; exfalso; clear hW; omega) | (intro _) | (refine hW.1 _ _ _ _ _ _ (z_pairN hs hd q _ ?_) (by first | decide | omega) (by decide) (Nat.le_of_ble_eq_true rfl)))))); (all_goals (try omega)); (all_goals (try exact xnn (by omega))); (all_goals (try exact Nat.le_of_ble_eq_true rfl)); (all_goals (try ((conv => whnf); (first | (refine hW.2.1 _ _ ?_) | (change X _ _ _ _ _ _) | (change C _ _ _ _ _ _ _))))); (all_goals (try simp only [xup_at, xup_ne, xup_up, ne_eq, Nat.reduceEqDiff, not_false_eq_true, Int.toNat_natCast, x_lcmp] at *)); (all_goals (try omega)))
    all_goals exact h
set_option maxRecDepth 100000 in
set_option maxHeartbeats 600000 in
theorem z_times {M : xM} {Q : Option xV → xM → Prop} {s d : Nat} {c i : Int} (hh : hillOk M) (hg : relG M) (hD : relD M) (hs : s < 6) (hd : d < 6) (hsd : s ≠ d) (hc : 1 ≤ c ∧ c ≤ 1000000000) (hi : xrg i) (h1 : ∀ M', enFr M M' → 0 < (hBest (cM M) (hM M) s d).1 → 0 < (enR (cM M) (hM M) s d c).1 → 0 ≤ i → i < ((hBest (cM M) (hM M) s d).2.2.1 : Int) - 1 → Q (some (xI ((enR (cM M) (hM M) s d c).2 i.toNat))) M') (h2 : ∀ M', enFr M M' → (hBest (cM M) (hM M) s d).1 = 0 ∨ (enR (cM M) (hM M) s d c).1 = 0 ∨ i < 0 ∨ ((hBest (cM M) (hM M) s d).2.2.1 : Int) - 1 ≤ i → Q (some (xI (-1))) M') : xm 4 m_M_times [xR (some 64), xI (s : Int), xI (d : Int), xI c, xI i] M Q := by
  obtain ⟨B, E, e, e', b, cf⟩ := z_enoughFor' hh hg hD hs hd hsd hc
  rw [← e, ← e'] at h1 h2
  obtain ⟨c1, c2⟩ := hc
  obtain ⟨i1, i2⟩ := hi
  obtain ⟨b1, b2, b3, b4, b5, b6⟩ := b
  clear e e' hh hg hD
  (refine xm_of (own := "DrumTongueModel") rfl (by decide +kernel) tk_M [some (xR (some 64)), some (xI (s : Int)), some (xI (d : Int)), some (xI c), some (xI i)] (Nat.le_of_ble_eq_true rfl) rfl ?_; intro D nx X C P hW)
  refine xg hW k_M_times [] 40 ?_
  ((repeat' (first | (with_reducible refine And.intro ?_ ?_) | (intro h0; exact absurd h0 (by decide)) | (intro h0; exact absurd rfl h0) | (intro h0; exfalso; clear hW; omega) | (intro _) | ((conv => whnf); (first | (with_reducible refine And.intro ?_ ?_) | (intro h0; exact absurd h0 (by decide)) | (intro h0; exact absurd rfl h0) | (intro h0; exfalso; clear hW; omega) | (intro _) | (refine hW.1 _ _ _ _ _ _ (z_pairY hs hd hsd _ ?_) (by first | decide | omega) (by decide) (Nat.le_of_ble_eq_true rfl)) | (refine hW.1 _ _ _ _ _ _ (z_in ?_) (by first | decide | omega) (by decide) (Nat.le_of_ble_eq_true rfl)))))); (all_goals (try omega)); (all_goals (try exact xnn (by omega))); (all_goals (try exact Nat.le_of_ble_eq_true rfl)); (all_goals (try ((conv => whnf); (first | (refine hW.2.1 _ _ ?_) | (change X _ _ _ _ _ _) | (change C _ _ _ _ _ _ _))))); (all_goals (try simp only [xup_at, xup_ne, xup_up, ne_eq, Nat.reduceEqDiff, not_false_eq_true, Int.toNat_natCast, x_lcmp] at *)); (all_goals (try omega)))
  refine hW.1 _ _ _ _ _ _ (cf _ (fun hb M' f1 => ?_) (fun hb M' f1 g1 g2 g3 g4 => ?_)) (by decide) (by decide) (Nat.le_of_ble_eq_true rfl)
  · have h5 := h2 M' f1 (Or.inl hb)
    clear cf h1 h2 f1 b5 b6
    ((repeat' (first | (with_reducible refine And.intro ?_ ?_) | (intro h0; exact absurd h0 (by decide)) | (intro h0; exact absurd rfl h0) | (intro h0; exfalso; clear hW; omega) | (intro _) | ((conv => whnf); (first | (with_reducible refine And.intro ?_ ?_) | (intro h0; exact absurd h0 (by decide)) | (intro h0; exact absurd rfl h0) | (intro h0; exfalso; clear hW; omega) | (intro _))))); (all_goals (try omega)); (all_goals (try exact xnn (by omega))); (all_goals (try exact Nat.le_of_ble_eq_true rfl)); (all_goals (try ((conv => whnf); (first | (refine hW.2.1 _ _ ?_) | (change X _ _ _ _ _ _) | (change C _ _ _ _ _ _ _))))); (all_goals (try simp only [xup_at, xup_ne, xup_up, ne_eq, Nat.reduceEqDiff, not_false_eq_true, Int.toNat_natCast, x_lcmp] at *)); (all_goals (try omega)))
    all_goals exact h5
  · obtain ⟨b7, b8, b9⟩ := b5 hb
    by_cases q : E.1 = 0
    · have h5 := h2 M' f1 (Or.inr (Or.inl q))
      have eb : enB E = -1 := by unfold enB; rw [if_pos q]
      rw [eb]
      clear cf h1 h2 f1 g2 b5 b6 b9
      ((repeat' (first | (with_reducible refine And.intro ?_ ?_) | (intro h0; exact absurd h0 (by decide)) | (intro h0; exact absurd rfl h0) | (intro h0; exfalso; clear hW; omega) | (intro _) | ((conv => whnf); (first | (with_reducible refine And.intro ?_ ?_) | (intro h0; exact absurd h0 (by decide)) | (intro h0; exact absurd rfl h0) | (intro h0; exfalso; clear hW; omega) | (intro _))))); (all_goals (try omega)); (all_goals (try exact xnn (by omega))); (all_goals (try exact Nat.le_of_ble_eq_true rfl)); (all_goals (try ((conv => whnf); (first | (refine hW.2.1 _ _ ?_) | (change X _ _ _ _ _ _) | (change C _ _ _ _ _ _ _))))); (all_goals (try simp only [xup_at, xup_ne, xup_up, ne_eq, Nat.reduceEqDiff, not_false_eq_true, Int.toNat_natCast, x_lcmp] at *)); (all_goals (try omega)))
      all_goals exact h5
    · have g2' := g2 (by omega)
      have h5 : 0 ≤ i → i < (B.2.2.1 : Int) - 1 → Q (some (xI (M' 94 i.toNat))) M' := fun a c => by rw [g2' _ (by omega)]; exact h1 M' f1 hb (by omega) a c
      have h6 := fun r => h2 M' f1 (Or.inr (Or.inr r))
      have eb : enB E = E.1 := by unfold enB; rw [if_neg q]
      rw [eb]
      clear cf h1 h2 f1 g2 g2' b5 b6 b9 eb
      generalize E.1 = ev at *
      ((repeat' (first | (with_reducible refine And.intro ?_ ?_) | (intro h0; exact absurd h0 (by decide)) | (intro h0; exact absurd rfl h0) | (intro h0; exfalso; clear hW; omega) | (intro _) | ((conv => whnf); (first | (with_reducible refine And.intro ?_ ?_) | (intro h0; exact absurd h0 (by decide)) | (intro h0; exact absurd rfl h0) | (intro h0; exfalso; clear hW; omega) | (intro _) | (refine hW.1 _ _ _ _ _ _ (z_in ?_) (by first | decide | omega) (by decide) (Nat.le_of_ble_eq_true rfl)))))); (all_goals (try omega)); (all_goals (try exact xnn (by omega))); (all_goals (try exact Nat.le_of_ble_eq_true rfl)); (all_goals (try ((conv => whnf); (first | (refine hW.2.1 _ _ ?_) | (change X _ _ _ _ _ _) | (change C _ _ _ _ _ _ _))))); (all_goals (try simp only [xup_at, xup_ne, xup_up, ne_eq, Nat.reduceEqDiff, not_false_eq_true, Int.toNat_natCast, x_lcmp] at *)); (all_goals (try omega)))
      all_goals first | exact h5 (by omega) (by omega) | exact h6 (by omega) | trace_state
