/-! the reference: hills -/
set_option maxRecDepth 100000 in
set_option maxHeartbeats 600000 in
theorem z_isHill {M : xM} {Q : Option xV → xM → Prop} {x : Int} (h : xrg x ∧ (0 ≤ x → x < 6 → Q (some (xI 1)) M) ∧ (x < 0 ∨ 6 ≤ x → Q (some (xI 0)) M)) : xm 2 m_M_isHill [xI x] M Q := by
  obtain ⟨⟨h1, h2⟩, h3, h4⟩ := h
  (refine xm_of (own := "DrumTongueModel") rfl (by decide +kernel) tk_M [some (xI x)] (Nat.le_of_ble_eq_true rfl) rfl ?_; intro D nx X C P hW)
  refine xg hW k_M_isHill [] 40 ?_
  ((repeat' (first | (with_reducible refine And.intro ?_ ?_) | (intro h0; exact absurd h0 (by decide)) | (intro h0; exact absurd rfl h0) | (intro h0; exfalso; clear hW; omega) | (intro _) | ((conv => whnf); (first | (with_reducible refine And.intro ?_ ?_) | (intro h0; exact absurd h0 (by decide)) | (intro h0; exact absurd rfl h0) | (intro h0; exfalso; clear hW; omega) | (intro _) | (refine hW.1 _ _ _ _ _ _ (z_in ?_) (by first | decide | omega) (by decide) (Nat.le_of_ble_eq_true rfl)))))); (all_goals (try omega)); (all_goals (try exact xnn (by omega))); (all_goals (try exact Nat.le_of_ble_eq_true rfl)); (all_goals (try ((conv => whnf); (first | (refine hW.2.1 _ _ ?_) | (change X _ _ _ _ _ _) | (change C _ _ _ _ _ _ _))))); (all_goals (try simp only [xup_at, xup_ne, xup_up, ne_eq, Nat.reduceEqDiff, not_false_eq_true, Int.toNat_natCast, x_lcmp] at *)); (all_goals (try omega)))
  all_goals first | exact h3 (by omega) (by omega) | exact h4 (by omega) | trace_state
set_option maxRecDepth 100000 in
set_option maxHeartbeats 600000 in
theorem z_areHills {M : xM} {Q : Option xV → xM → Prop} {s d : Int} (h : (xrg s ∧ xrg d) ∧ (isPair s d → Q (some (xI 1)) M) ∧ (¬ isPair s d → Q (some (xI 0)) M)) : xm 3 m_M_areHills [xI s, xI d] M Q := by
  obtain ⟨⟨⟨h1, h2⟩, h3, h4⟩, h5, h6⟩ := h
  unfold isPair at h5 h6
  (refine xm_of (own := "DrumTongueModel") rfl (by decide +kernel) tk_M [some (xI s), some (xI d)] (Nat.le_of_ble_eq_true rfl) rfl ?_; intro D nx X C P hW)
  refine xg hW k_M_areHills [] 40 ?_
  ((repeat' (first | (with_reducible refine And.intro ?_ ?_) | (intro h0; exact absurd h0 (by decide)) | (intro h0; exact absurd rfl h0) | (intro h0; exfalso; clear hW; omega) | (intro _) | ((conv => whnf); (first | (with_reducible refine And.intro ?_ ?_) | (intro h0; exact absurd h0 (by decide)) | (intro h0; exact absurd rfl h0) | (intro h0; exfalso; clear hW; omega) | (intro _) | (refine hW.1 _ _ _ _ _ _ (z_isHill ?_) (by first | decide | omega) (by decide) (Nat.le_of_ble_eq_true rfl)))))); (all_goals (try omega)); (all_goals (try exact xnn (by omega))); (all_goals (try exact Nat.le_of_ble_eq_true rfl)); (all_goals (try ((conv => whnf); (first | (refine hW.2.1 _ _ ?_) | (change X _ _ _ _ _ _) | (change C _ _ _ _ _ _ _))))); (all_goals (try simp only [xup_at, xup_ne, xup_up, ne_eq, Nat.reduceEqDiff, not_false_eq_true, Int.toNat_natCast, x_lcmp] at *)); (all_goals (try omega)))
  all_goals first | exact h5 (by omega) | exact h6 (by omega) | trace_state
set_option maxRecDepth 100000 in
set_option maxHeartbeats 600000 in
theorem z_hill {M : xM} {Q : Option xV → xM → Prop} {s d c g : Int} (hs : xrg s) (hd : xrg d) (hc : xrg c) (hg : xrg g) (h1 : ¬(0 ≤ s ∧ s < 6 ∧ 0 ≤ d ∧ d < 6 ∧ s ≠ d ∧ 0 ≤ c ∧ c ≤ 1000 ∧ 1 ≤ g ∧ g ≤ 20) → Q (some (xI (-2))) M) (h2 : 0 ≤ s ∧ s < 6 ∧ 0 ≤ d ∧ d < 6 ∧ s ≠ d ∧ 0 ≤ c ∧ c ≤ 1000 ∧ 1 ≤ g ∧ g ≤ 20 → Q (some (xI 1)) (xup (xup M 77 (xup (M 77) (6 * s + d).toNat c)) 78 (xup (M 78) (6 * s + d).toNat g))) : xm 3 m_M_hill [xR (some 64), xI s, xI d, xI c, xI g] M Q := by
  obtain ⟨s1, s2⟩ := hs
  obtain ⟨d1, d2⟩ := hd
  obtain ⟨c1, c2⟩ := hc
  obtain ⟨g1, g2⟩ := hg
  (refine xm_of (own := "DrumTongueModel") rfl (by decide +kernel) tk_M [some (xR (some 64)), some (xI s), some (xI d), some (xI c), some (xI g)] (Nat.le_of_ble_eq_true rfl) rfl ?_; intro D nx X C P hW)
  refine xg hW k_M_hill [] 40 ?_
  ((repeat' (first | (with_reducible refine And.intro ?_ ?_) | (intro h0; exact absurd h0 (by decide)) | (intro h0; exact absurd rfl h0) | (intro h0; exfalso; clear hW; omega) | (intro _) | ((conv => whnf); (first | (with_reducible refine And.intro ?_ ?_) | (intro h0; exact absurd h0 (by decide)) | (intro h0; exact absurd rfl h0) | (intro h0; exfalso; clear hW; omega) | (intro _) | (refine hW.1 _ _ _ _ _ _ (z_isHill ?_) (by first | decide | omega) (by decide) (Nat.le_of_ble_eq_true rfl)) | (refine hW.1 _ _ _ _ _ _ (z_in ?_) (by first | decide | omega) (by decide) (Nat.le_of_ble_eq_true rfl)))))); (all_goals (try omega)); (all_goals (try exact xnn (by omega))); (all_goals (try exact Nat.le_of_ble_eq_true rfl)); (all_goals (try ((conv => whnf); (first | (refine hW.2.1 _ _ ?_) | (change X _ _ _ _ _ _) | (change C _ _ _ _ _ _ _))))); (all_goals (try simp only [xup_at, xup_ne, xup_up, ne_eq, Nat.reduceEqDiff, not_false_eq_true, Int.toNat_natCast, x_lcmp] at *)); (all_goals (try omega)))
  all_goals first | exact h1 (by omega) | exact h2 (by omega) | trace_state
/-! the reference: look -/
theorem pig : ∀ (n : Nat) (l : List Nat), l.Nodup → (∀ x, x ∈ l → x < n) → l.length ≤ n
  | 0, [], _, _ => Nat.le_refl _
  | 0, x :: r, _, h => absurd (h x List.mem_cons_self) (by omega)
  | n + 1, l, hn, h => by
    by_cases c : n ∈ l
    · have h1 := pig n (l.erase n) (hn.erase n) (fun x hx => by
        have h2 := (List.Nodup.mem_erase_iff hn).mp hx
        have := h x h2.2
        have := h2.1
        omega)
      rw [List.length_erase_of_mem c] at h1
      omega
    · have := pig n l hn (fun x hx => by
        have h1 := h x hx
        have h2 : x ≠ n := fun e => c (e ▸ hx)
        omega)
      omega
/-- the hills of a way are apart, and none is the aim -/
def lkP (p : Nat → Nat) (d v : Nat) : Prop := (∀ j, j ≤ v → p j < 6 ∧ p j ≠ d) ∧ ∀ i j, i < j → j ≤ v → p i ≠ p j
theorem onp_iff {p : Nat → Nat} {x : Nat} : ∀ {u : Nat}, onp p x u = true ↔ ∃ j, j < u ∧ p j = x
  | 0 => by simp [onp]
  | u + 1 => by
    rw [onp, Bool.or_eq_true, onp_iff (u := u), beq_iff_eq]
    constructor
    · rintro (⟨j, h1, h2⟩ | h)
      · exact ⟨j, by omega, h2⟩
      · exact ⟨u, by omega, h⟩
    · rintro ⟨j, h1, h2⟩
      by_cases c : j = u
      · exact Or.inr (c ▸ h2)
      · exact Or.inl ⟨j, by omega, h2⟩
theorem lkP_lt {p : Nat → Nat} {d v t : Nat} (hp : lkP p d v) (hd : d < 6) (ht : t < 6) (htd : t ≠ d) (hon : onp p t (v + 1) = false) : v ≤ 3 := by
  have hno : ∀ j, j ≤ v → p j ≠ t := fun j hj e => by
    have := onp_iff.mpr ⟨j, show j < v + 1 by omega, e⟩
    rw [hon] at this
    cases this
  have hl : (t :: d :: (List.range (v + 1)).map p).Nodup := by
    refine List.nodup_cons.mpr ⟨?_, List.nodup_cons.mpr ⟨?_, ?_⟩⟩
    · intro h
      rcases List.mem_cons.mp h with e | h
      · exact htd e
      · obtain ⟨j, hj, e⟩ := List.mem_map.mp h
        exact hno j (by have := List.mem_range.mp hj; omega) e
    · intro h
      obtain ⟨j, hj, e⟩ := List.mem_map.mp h
      exact (hp.1 j (by have := List.mem_range.mp hj; omega)).2 e
    · refine List.pairwise_map.mpr (List.Pairwise.imp_of_mem (R := fun a b => a < b) (fun {a b} ha hb hab => ?_) List.pairwise_lt_range)
      have := List.mem_range.mp hb
      exact hp.2 a b hab (by omega)
  have := pig 6 _ hl (fun x hx => by
    rcases List.mem_cons.mp hx with e | hx
    · omega
    · rcases List.mem_cons.mp hx with e | hx
      · omega
      · obtain ⟨j, hj, e⟩ := List.mem_map.mp hx
        have := (hp.1 j (by have := List.mem_range.mp hj; omega)).1
        omega)
  simp only [List.length_cons, List.length_map, List.length_range] at this
  omega
theorem lkP_push {p : Nat → Nat} {d v t : Nat} (hp : lkP p d v) (ht : t < 6) (htd : t ≠ d) (hon : onp p t (v + 1) = false) : lkP (xup p (v + 1) t) d (v + 1) := by
  have hno : ∀ j, j ≤ v → p j ≠ t := fun j hj e => by
    have := onp_iff.mpr ⟨j, show j < v + 1 by omega, e⟩
    rw [hon] at this
    cases this
  refine ⟨fun j hj => ?_, fun i j hij hj => ?_⟩
  · by_cases c : j = v + 1
    · rw [c, xup_at]; exact ⟨ht, htd⟩
    · rw [xup_ne c]; exact hp.1 j (by omega)
  · rw [xup_ne (show i ≠ v + 1 by omega)]
    by_cases c : j = v + 1
    · rw [c, xup_at]; exact hno i (by omega)
    · rw [xup_ne c]; exact hp.2 i j hij (by omega)
def lkX (X : xS) (D : Nat → Option xE) (nx pc : Nat) (s d at_ : Int) (x4 x5 x6 x7 x8 x9 x10 : Option xV) (M : xM) : Prop := X pc [some (xR (some 64)), some (xI s), some (xI d), some (xI at_), x4, x5, x6, x7, x8, x9, x10] [] (M, D, nx) 0 0
set_option maxRecDepth 100000 in
set_option maxHeartbeats 1000000 in
theorem z_lkM {M : xM} {Q : Option xV → xM → Prop} {v t : Nat} {p : Nat → Nat} {dd : Nat} {D : Nat → Option xE} {nx : Nat} {X : xS} {C : xC} {P : xP} (hW : xWk dd m_M_look tb_M Q D nx X C P) (hv : v ≤ 5) (ht : t < 6) (hgo : ∀ j, j ≤ v → M 89 j = (p j : Int) ∧ p j < 6) {s d : Int} {x7 x8 x9 x10 : Option xV} (h1 : onp p t (v + 1) = true → ∀ z : Int, lkX X D nx 124 s d v (some (xI t)) (some (xI 0)) (some (xI z)) x7 x8 x9 x10 M) (h0 : onp p t (v + 1) = false → ∀ z : Int, lkX X D nx 124 s d v (some (xI t)) (some (xI 1)) (some (xI z)) x7 x8 x9 x10 M) : lkX X D nx 88 s d v (some (xI t)) (some (xI 1)) (some (xI 0)) x7 x8 x9 x10 M := by
  have loop0 : ∀ (m k : Nat), k + m = v + 1 → onp p t (v + 1) = true → lkX X D nx 88 s d v (some (xI t)) (some (xI 0)) (some (xI (k : Int))) x7 x8 x9 x10 M := by
    intro m
    induction m with
    | zero =>
      intro k hk hon
      have h5 := h1 hon (k : Int)
      clear h1 h0 hgo
      unfold lkX at *
      refine xg hW k_M_look [88, 124] 40 ?_
      ((repeat' (first | (with_reducible refine And.intro ?_ ?_) | (intro h0; exact absurd h0 (by decide)) | (intro h0; exact absurd rfl h0) | (intro h0; exfalso; clear hW; omega) | (intro _) | ((conv => whnf); (first | (with_reducible refine And.intro ?_ ?_) | (intro h0; exact absurd h0 (by decide)) | (intro h0; exact absurd rfl h0) | (intro h0; exfalso; clear hW; omega) | (intro _))))); (all_goals (try omega)); (all_goals (try exact xnn (by omega))); (all_goals (try exact Nat.le_of_ble_eq_true rfl)); (all_goals (try ((conv => whnf); (first | (refine hW.2.1 _ _ ?_) | (change X _ _ _ _ _ _) | (change C _ _ _ _ _ _ _))))); (all_goals (try simp only [xup_at, xup_ne, xup_up, ne_eq, Nat.reduceEqDiff, not_false_eq_true, Int.toNat_natCast, x_lcmp] at *)); (all_goals (try omega)))
      all_goals exact h5
    | succ m ih =>
      intro k hk hon
      have h5 := ih (k + 1) (by omega) hon
      clear h1 h0 hgo ih
      unfold lkX at *
      refine xg hW k_M_look [88, 124] 40 ?_
      ((repeat' (first | (with_reducible refine And.intro ?_ ?_) | (intro h0; exact absurd h0 (by decide)) | (intro h0; exact absurd rfl h0) | (intro h0; exfalso; clear hW; omega) | (intro _) | ((conv => whnf); (first | (with_reducible refine And.intro ?_ ?_) | (intro h0; exact absurd h0 (by decide)) | (intro h0; exact absurd rfl h0) | (intro h0; exfalso; clear hW; omega) | (intro _))))); (all_goals (try omega)); (all_goals (try exact xnn (by omega))); (all_goals (try exact Nat.le_of_ble_eq_true rfl)); (all_goals (try ((conv => whnf); (first | (refine hW.2.1 _ _ ?_) | (change X _ _ _ _ _ _) | (change C _ _ _ _ _ _ _))))); (all_goals (try simp only [xup_at, xup_ne, xup_up, ne_eq, Nat.reduceEqDiff, not_false_eq_true, Int.toNat_natCast, x_lcmp] at *)); (all_goals (try omega)))
      all_goals exact h5
  have loop : ∀ (m k : Nat), k + m = v + 1 → onp p t k = false → lkX X D nx 88 s d v (some (xI t)) (some (xI 1)) (some (xI (k : Int))) x7 x8 x9 x10 M := by
    intro m
    induction m with
    | zero =>
      intro k hk hon
      obtain rfl : k = v + 1 := by omega
      have h5 := h0 hon ((v + 1 : Nat) : Int)
      clear h1 h0 hgo loop0
      unfold lkX at *
      refine xg hW k_M_look [88, 124] 40 ?_
      ((repeat' (first | (with_reducible refine And.intro ?_ ?_) | (intro h0; exact absurd h0 (by decide)) | (intro h0; exact absurd rfl h0) | (intro h0; exfalso; clear hW; omega) | (intro _) | ((conv => whnf); (first | (with_reducible refine And.intro ?_ ?_) | (intro h0; exact absurd h0 (by decide)) | (intro h0; exact absurd rfl h0) | (intro h0; exfalso; clear hW; omega) | (intro _))))); (all_goals (try omega)); (all_goals (try exact xnn (by omega))); (all_goals (try exact Nat.le_of_ble_eq_true rfl)); (all_goals (try ((conv => whnf); (first | (refine hW.2.1 _ _ ?_) | (change X _ _ _ _ _ _) | (change C _ _ _ _ _ _ _))))); (all_goals (try simp only [xup_at, xup_ne, xup_up, ne_eq, Nat.reduceEqDiff, not_false_eq_true, Int.toNat_natCast, x_lcmp] at *)); (all_goals (try omega)))
      all_goals exact h5
    | succ m ih =>
      intro k hk hon
      obtain ⟨g1, g2⟩ := hgo k (by omega)
      have a1 : p k = t → lkX X D nx 88 s d v (some (xI t)) (some (xI 0)) (some (xI ((k + 1 : Nat) : Int))) x7 x8 x9 x10 M := fun e => loop0 m (k + 1) (by omega) (onp_iff.mpr ⟨k, by omega, e⟩)
      have a0 : p k ≠ t → lkX X D nx 88 s d v (some (xI t)) (some (xI 1)) (some (xI ((k + 1 : Nat) : Int))) x7 x8 x9 x10 M := fun e => ih (k + 1) (by omega) (by
        rw [onp, hon, Bool.false_or, beq_eq_false_iff_ne]
        exact e)
      have g1' : M 89 (k : Int).toNat = (p k : Int) := g1
      clear h1 h0 hgo loop0 ih hon
      unfold lkX at *
      refine xg hW k_M_look [88, 124] 40 ?_
      ((repeat' (first | (with_reducible refine And.intro ?_ ?_) | (intro h0; exact absurd h0 (by decide)) | (intro h0; exact absurd rfl h0) | (intro h0; exfalso; clear hW; omega) | (intro _) | ((conv => whnf); (first | (with_reducible refine And.intro ?_ ?_) | (intro h0; exact absurd h0 (by decide)) | (intro h0; exact absurd rfl h0) | (intro h0; exfalso; clear hW; omega) | (intro _))))); (all_goals (try omega)); (all_goals (try exact xnn (by omega))); (all_goals (try exact Nat.le_of_ble_eq_true rfl)); (all_goals (try ((conv => whnf); (first | (refine hW.2.1 _ _ ?_) | (change X _ _ _ _ _ _) | (change C _ _ _ _ _ _ _))))); (all_goals (try simp only [xup_at, xup_ne, xup_up, ne_eq, Nat.reduceEqDiff, not_false_eq_true, Int.toNat_natCast, x_lcmp] at *)); (all_goals (try omega)))
      all_goals first | exact a1 (by omega) | exact a0 (by omega) | trace_state
  exact loop (v + 1) 0 (by omega) rfl
