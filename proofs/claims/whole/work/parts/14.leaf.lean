/-! leaves: the library's own methods -/
theorem xq {Q : Option xV → xM → Prop} {v w : Int} {M : xM} (h : Q (some (xI w)) M) (e : w = v) : Q (some (xI v)) M := e ▸ h
theorem xqm {Q : Option xV → xM → Prop} {r : Option xV} {M M' : xM} (h : Q r M') (e : M' = M) : Q r M := e ▸ h
theorem xar_of {M : xM} {D : Nat → Option xE} {nx a j n : Nat} {K : Nat → Nat → xV → Prop} (hT : xT0 a = some (.inr (0, n, none))) (hk : K 0 n (xI (M a j))) : xar xT0 (M, D, nx) a j K := by
  simp only [xar, hT]
  exact hk
theorem xwa_of {M : xM} {D : Nat → Option xE} {nx a k n : Nat} {z : Int} {K : xH → Prop} (hT : xT0 a = some (.inr (0, n, none))) (hk : K (xup M a (xup (M a) k z), D, nx)) : xwa xT0 (M, D, nx) a k (xI z) K := by
  simp only [xwa, hT]
  exact hk
/-- the first n places hold v -/
def xfill (f : Nat → Int) (n : Nat) (v : Int) : Nat → Int := fun j => if j < n then v else f j
set_option maxRecDepth 100000 in
theorem c_fill {M : xM} {Q : Option xV → xM → Prop} {a n : Nat} {v : Int} (hT : xT0 a = some (.inr (0, n, none))) (hn : n < 1000) (h : Q none (xup M a (xfill (M a) n v))) : xm 1 m_Arrays_fill [xR (some a), xI v] M Q := by
  refine xm_of (own := "java/util/Arrays") rfl (by decide +kernel) tk_Arrays [some (xR (some a)), some (xI v), none, none] (Nat.le_of_ble_eq_true rfl) rfl ?_
  intro D nx X C P hW
  have loop : ∀ (m i : Nat), i + m = n → X 5 [some (xR (some a)), some (xI v), some (xI (i : Int)), some (xI (n : Int))] [] (xup M a (xfill (M a) i v), D, nx) 0 0 := by
    intro m
    induction m with
    | zero =>
      intro i hi
      refine xg hW k_Arrays_fill [5] 40 ?_
      ((repeat' (first | (with_reducible refine And.intro ?_ ?_) | (intro _) | ((conv => whnf); (first | (with_reducible refine And.intro ?_ ?_) | (intro _))))); (all_goals (try omega)); (all_goals (try ((conv => whnf); (first | (refine hW.2.1 _ _ ?_) | (change X _ _ _ _ _ _) | (change C _ _ _ _ _ _ _))))))
      all_goals trace_state
      all_goals sorry
    | succ m ih =>
      intro i hi
      refine xg hW k_Arrays_fill [5] 40 ?_
      ((repeat' (first | (with_reducible refine And.intro ?_ ?_) | (intro _) | ((conv => whnf); (first | (with_reducible refine And.intro ?_ ?_) | (intro _))))); (all_goals (try omega)); (all_goals (try ((conv => whnf); (first | (refine hW.2.1 _ _ ?_) | (change X _ _ _ _ _ _) | (change C _ _ _ _ _ _ _))))))
      all_goals trace_state
      all_goals sorry
  refine xg hW k_Arrays_fill [5] 40 ?_
  refine xar_of hT ?_
  ((repeat' (first | (with_reducible refine And.intro ?_ ?_) | (intro _) | ((conv => whnf); (first | (with_reducible refine And.intro ?_ ?_) | (intro _))))); (all_goals (try omega)); (all_goals (try ((conv => whnf); (first | (refine hW.2.1 _ _ ?_) | (change X _ _ _ _ _ _) | (change C _ _ _ _ _ _ _))))))
  all_goals trace_state
  all_goals sorry
