/-! hills: the best way -/
/-- chance, hours, how many hills, the hills -/
abbrev xB : Type := Int × Int × Nat × (Nat → Nat)
def hkeep (u : Nat) (p : Nat → Nat) (ch hr : Int) (B : xB) : xB := if B.1 < ch ∨ (0 < ch ∧ ch = B.1 ∧ hr < B.2.1) then (ch, hr, u, p) else B
def onp (p : Nat → Nat) (x : Nat) : Nat → Bool
  | 0 => false
  | u + 1 => onp p x u || (p u == x)
def hdT (body : Nat → xB → xB) : Nat → xB → xB
  | 0, B => B
  | m + 1, B => hdT body m (body (5 - m) B)
/-- all ways on from the hills p 0 .. p (u - 1), over at most f more; chance and hours so far -/
def hdfs (c h : Nat → Nat → Int) (d : Nat) : Nat → (Nat → Nat) → Nat → Int → Int → xB → xB
  | 0, _, _, _, _, B => B
  | f + 1, p, u, ch, hr, B => hdT (fun t B => if onp p t u = true then B else if t = d then hkeep (u + 1) (xup p u t) ((ch * c (p (u - 1)) t).tdiv 1000) (hr + h (p (u - 1)) t) B else hdfs c h d f (xup p u t) (u + 1) ((ch * c (p (u - 1)) t).tdiv 1000) (hr + h (p (u - 1)) t) B) 6 B
/-- the same, where the last hill may be the aim -/
def hwk (c h : Nat → Nat → Int) (d f : Nat) (p : Nat → Nat) (u : Nat) (ch hr : Int) (B : xB) : xB := if p (u - 1) = d then hkeep u p ch hr B else hdfs c h d f p u ch hr B
theorem hdT_id {body : Nat → xB → xB} {B : xB} (h : ∀ t, body t B = B) : ∀ m, hdT body m B = B
  | 0 => rfl
  | m + 1 => by rw [hdT, h, hdT_id h m]
theorem hkeep_0 {u : Nat} {p : Nat → Nat} {hr : Int} {B : xB} (hB : 0 ≤ B.1) : hkeep u p 0 hr B = B := by
  unfold hkeep
  rw [if_neg (by omega)]
theorem hdfs_0 {c h : Nat → Nat → Int} {d : Nat} {B : xB} (hB : 0 ≤ B.1) : ∀ (f : Nat) (p : Nat → Nat) (u : Nat) (hr : Int), hdfs c h d f p u 0 hr B = B
  | 0, _, _, _ => rfl
  | f + 1, p, u, hr => by
    rw [hdfs]
    refine hdT_id (fun t => ?_) 6
    simp only [Int.zero_mul, Int.zero_tdiv]
    split
    · rfl
    · split
      · exact hkeep_0 hB
      · exact hdfs_0 hB f _ _ _
def hillOk (M : xM) : Prop := ∀ f t : Nat, f < 6 → t < 6 → 0 ≤ M (47 + f) t ∧ M (47 + f) t ≤ 1000 ∧ 1 ≤ M (54 + f) t ∧ M (54 + f) t ≤ 20
theorem xT0_c : ∀ f : Nat, f < 6 → xT0 (47 + f) = some (.inr (0, 6, none))
  | 0, _ => rfl
  | 1, _ => rfl
  | 2, _ => rfl
  | 3, _ => rfl
  | 4, _ => rfl
  | 5, _ => rfl
  | f + 6, h => by omega
theorem xT0_h : ∀ f : Nat, f < 6 → xT0 (54 + f) = some (.inr (0, 6, none))
  | 0, _ => rfl
  | 1, _ => rfl
  | 2, _ => rfl
  | 3, _ => rfl
  | 4, _ => rfl
  | 5, _ => rfl
  | f + 6, h => by omega
set_option maxRecDepth 100000 in
theorem c_isHill {M : xM} {Q : Option xV → xM → Prop} {x : Int} (h : xrg x ∧ (0 ≤ x → x < 6 → Q (some (xI 1)) M) ∧ (x < 0 ∨ 6 ≤ x → Q (some (xI 0)) M)) : xm 1 m_Hills_isHill [xI x] M Q := by
  obtain ⟨h1, h2, h3⟩ := h
  (refine xm_of (own := "DrumTongue$Hills") rfl (by decide +kernel) tk_Hills [some (xI x)] (Nat.le_of_ble_eq_true rfl) rfl ?_; intro D nx X C P hW)
  refine xg hW k_Hills_isHill [] 40 ?_
  ((repeat' (first | (with_reducible refine And.intro ?_ ?_) | (intro h0; exact absurd h0 (by decide)) | (intro _) | ((conv => whnf); (first | (with_reducible refine And.intro ?_ ?_) | (intro h0; exact absurd h0 (by decide)) | (intro _))))); (all_goals (try omega)); (all_goals (try exact Nat.le_of_ble_eq_true rfl)); (all_goals (try ((conv => whnf); (first | (refine hW.2.1 _ _ ?_) | (change X _ _ _ _ _ _) | (change C _ _ _ _ _ _ _))))); (all_goals (try simp only [xup_at, xup_ne, xup_up, ne_eq, Nat.reduceEqDiff, not_false_eq_true, Int.toNat_natCast, x_lcmp] at *)); (all_goals (try omega)))
  all_goals first | exact h2 (by omega) (by omega) | exact h3 (by omega)
theorem c_isHillY {M : xM} {Q : Option xV → xM → Prop} {x : Int} (h : (0 ≤ x ∧ x < 6) ∧ Q (some (xI 1)) M) : xm 1 m_Hills_isHill [xI x] M Q := c_isHill ⟨⟨by omega, by omega⟩, fun _ _ => h.2, fun q => by omega⟩
def isPair (s d : Int) : Prop := 0 ≤ s ∧ s < 6 ∧ 0 ≤ d ∧ d < 6 ∧ s ≠ d
set_option maxRecDepth 100000 in
theorem c_arePair {M : xM} {Q : Option xV → xM → Prop} {s d : Int} (h : (xrg s ∧ xrg d) ∧ (isPair s d → Q (some (xI 1)) M) ∧ (¬ isPair s d → Q (some (xI 0)) M)) : xm 2 m_Hills_arePair [xI s, xI d] M Q := by
  obtain ⟨h1, h2, h3⟩ := h
  unfold isPair at h2 h3
  (refine xm_of (own := "DrumTongue$Hills") rfl (by decide +kernel) tk_Hills [some (xI s), some (xI d)] (Nat.le_of_ble_eq_true rfl) rfl ?_; intro D nx X C P hW)
  refine xg hW k_Hills_arePair [] 40 ?_
  ((repeat' (first | (with_reducible refine And.intro ?_ ?_) | (intro h0; exact absurd h0 (by decide)) | (intro _) | ((conv => whnf); (first | (with_reducible refine And.intro ?_ ?_) | (intro h0; exact absurd h0 (by decide)) | (intro _) | (refine hW.1 _ _ _ _ _ _ (c_isHill ?_) (by first | decide | omega) (by decide) (Nat.le_of_ble_eq_true rfl)))))); (all_goals (try omega)); (all_goals (try exact Nat.le_of_ble_eq_true rfl)); (all_goals (try ((conv => whnf); (first | (refine hW.2.1 _ _ ?_) | (change X _ _ _ _ _ _) | (change C _ _ _ _ _ _ _))))); (all_goals (try simp only [xup_at, xup_ne, xup_up, ne_eq, Nat.reduceEqDiff, not_false_eq_true, Int.toNat_natCast, x_lcmp] at *)); (all_goals (try omega)))
  all_goals first | exact h2 (by omega) | exact h3 (by omega)
theorem c_arePairY {M : xM} {Q : Option xV → xM → Prop} {s d : Int} (h : (0 ≤ s ∧ s < 6 ∧ 0 ≤ d ∧ d < 6 ∧ s ≠ d) ∧ Q (some (xI 1)) M) : xm 2 m_Hills_arePair [xI s, xI d] M Q := c_arePair ⟨⟨⟨by omega, by omega⟩, by omega, by omega⟩, fun _ => h.2, fun q => absurd h.1 q⟩
set_option maxRecDepth 100000 in
theorem c_join {M : xM} {Q : Option xV → xM → Prop} {s d c g : Int} (h : (0 ≤ s ∧ s < 6 ∧ 0 ≤ d ∧ d < 6 ∧ s ≠ d) ∧ Q none (xup (xup M (47 + s.toNat) (xup (M (47 + s.toNat)) d.toNat c)) (54 + s.toNat) (xup (M (54 + s.toNat)) d.toNat g))) : xm 3 m_Hills_join [xR (some 45), xI s, xI d, xI c, xI g] M Q := by
  obtain ⟨⟨h1, h2, h3, h4, h5⟩, h6⟩ := h
  have t1 := xT0_c s.toNat (by omega)
  have t2 := xT0_h s.toNat (by omega)
  (refine xm_of (own := "DrumTongue$Hills") rfl (by decide +kernel) tk_Hills [some (xR (some 45)), some (xI s), some (xI d), some (xI c), some (xI g)] (Nat.le_of_ble_eq_true rfl) rfl ?_; intro D nx X C P hW)
  refine xg hW k_Hills_join [] 40 ?_
  ((repeat' (first | (with_reducible refine And.intro ?_ ?_) | (intro h0; exact absurd h0 (by decide)) | (intro _) | ((conv => whnf); (first | (with_reducible refine And.intro ?_ ?_) | (intro h0; exact absurd h0 (by decide)) | (intro _) | (rw [t1]) | (rw [t2]) | (refine hW.1 _ _ _ _ _ _ (c_arePairY ?_) (by first | decide | omega) (by decide) (Nat.le_of_ble_eq_true rfl)))))); (all_goals (try omega)); (all_goals (try exact Nat.le_of_ble_eq_true rfl)); (all_goals (try ((conv => whnf); (first | (refine hW.2.1 _ _ ?_) | (change X _ _ _ _ _ _) | (change C _ _ _ _ _ _ _))))); (all_goals (try simp only [xup_at, xup_ne, xup_up, ne_eq, Nat.reduceEqDiff, not_false_eq_true, Int.toNat_natCast, x_lcmp] at *)); (all_goals (try omega)))
  rw [xup_ne (show 54 + s.toNat ≠ 47 + s.toNat by omega)]
  exact h6
set_option maxRecDepth 100000 in
theorem c_isOnPath {M : xM} {Q : Option xV → xM → Prop} {x u : Nat} {p : Nat → Nat} (hu : u ≤ 6) (hx : x < 6) (hp : ∀ i, i < u → M 60 i = p i ∧ p i < 6) (h : (onp p x u = true → Q (some (xI 1)) M) ∧ (onp p x u = false → Q (some (xI 0)) M)) : xm 1 m_Hills_isOnPath [xR (some 45), xI x, xI u] M Q := by
  (refine xm_of (own := "DrumTongue$Hills") rfl (by decide +kernel) tk_Hills [some (xR (some 45)), some (xI (x : Int)), some (xI (u : Int)), none] (Nat.le_of_ble_eq_true rfl) rfl ?_; intro D nx X C P hW)
  have mono : ∀ i j, i ≤ j → onp p x i = true → onp p x j = true := by
    intro i j hij
    induction j with
    | zero => intro q; rw [show i = 0 by omega] at q; exact q
    | succ j ih =>
      intro q
      rcases Nat.lt_or_ge i (j + 1) with z | z
      · rw [onp, ih (by omega) q]; rfl
      · rw [show j + 1 = i by omega]; exact q
  have loop : ∀ (m i : Nat), i + m = u → onp p x i = false → X 2 [some (xR (some 45)), some (xI (x : Int)), some (xI (u : Int)), some (xI (i : Int))] [] (M, D, nx) 0 0 := by
    intro m
    induction m with
    | zero =>
      intro i hi hn
      obtain rfl : i = u := by omega
      refine xg hW k_Hills_isOnPath [2] 40 ?_
      ((repeat' (first | (with_reducible refine And.intro ?_ ?_) | (intro h0; exact absurd h0 (by decide)) | (intro _) | ((conv => whnf); (first | (with_reducible refine And.intro ?_ ?_) | (intro h0; exact absurd h0 (by decide)) | (intro _))))); (all_goals (try omega)); (all_goals (try exact Nat.le_of_ble_eq_true rfl)); (all_goals (try ((conv => whnf); (first | (refine hW.2.1 _ _ ?_) | (change X _ _ _ _ _ _) | (change C _ _ _ _ _ _ _))))); (all_goals (try simp only [xup_at, xup_ne, xup_up, ne_eq, Nat.reduceEqDiff, not_false_eq_true, Int.toNat_natCast, x_lcmp] at *)); (all_goals (try omega)))
      exact h.2 hn
    | succ m ih =>
      intro i hi hn
      obtain ⟨q1, q2⟩ := hp i (by omega)
      refine xg hW k_Hills_isOnPath [2] 40 ?_
      ((repeat' (first | (with_reducible refine And.intro ?_ ?_) | (intro h0; exact absurd h0 (by decide)) | (intro _) | ((conv => whnf); (first | (with_reducible refine And.intro ?_ ?_) | (intro h0; exact absurd h0 (by decide)) | (intro _))))); (all_goals (try omega)); (all_goals (try exact Nat.le_of_ble_eq_true rfl)); (all_goals (try ((conv => whnf); (first | (refine hW.2.1 _ _ ?_) | (change X _ _ _ _ _ _) | (change C _ _ _ _ _ _ _))))); (all_goals (try simp only [xup_at, xup_ne, xup_up, ne_eq, Nat.reduceEqDiff, not_false_eq_true, Int.toNat_natCast, x_lcmp] at *)); (all_goals (try omega)))
      · refine ih (i + 1) (by omega) ?_
        rw [onp, hn, Bool.false_or, beq_eq_false_iff_ne]
        omega
      · refine h.1 (mono (i + 1) u (by omega) ?_)
        rw [onp, hn, Bool.false_or, beq_iff_eq]
        omega
  refine xg hW k_Hills_isOnPath [2] 40 ?_
  ((repeat' (first | (with_reducible refine And.intro ?_ ?_) | (intro h0; exact absurd h0 (by decide)) | (intro _) | ((conv => whnf); (first | (with_reducible refine And.intro ?_ ?_) | (intro h0; exact absurd h0 (by decide)) | (intro _))))); (all_goals (try omega)); (all_goals (try exact Nat.le_of_ble_eq_true rfl)); (all_goals (try ((conv => whnf); (first | (refine hW.2.1 _ _ ?_) | (change X _ _ _ _ _ _) | (change C _ _ _ _ _ _ _))))); (all_goals (try simp only [xup_at, xup_ne, xup_up, ne_eq, Nat.reduceEqDiff, not_false_eq_true, Int.toNat_natCast, x_lcmp] at *)); (all_goals (try omega)))
  exact loop u 0 (by omega) rfl
/-- the search's own numbers -/
def wkFr (M0 M : xM) : Prop := (∀ a, a ≠ 45 → a ≠ 60 → a ≠ 61 → M a = M0 a) ∧ ∀ k, k ≠ 4 → k ≠ 5 → k ≠ 6 → M 45 k = M0 45 k
def wkAt (M0 : xM) (u : Nat) (p : Nat → Nat) (B : xB) (M : xM) : Prop := wkFr M0 M ∧ M 45 5 = B.1 ∧ M 45 6 = B.2.1 ∧ M 45 4 = B.2.2.1 ∧ (∀ i, i < B.2.2.1 → M 61 i = B.2.2.2 i) ∧ ∀ i, i < u → M 60 i = p i
theorem wkAt_keep {M0 M : xM} {u : Nat} {p : Nat → Nat} {ch hr : Int} {B : xB} (hu : u ≤ 6) (h : wkAt M0 u p B M) : wkAt M0 u p (ch, hr, u, p) (xup (xup M 45 (xup (xup (xup (M 45) 5 ch) 6 hr) 4 (u : Int))) 61 (va_cpy (M 60) (M 61) (Int.toNat 0) (Int.toNat 0) (Int.toNat 6))) := by
  obtain ⟨h1, h2, h3, h4, h5, h6⟩ := h
  refine ⟨⟨fun a a1 a2 a3 => ?_, fun k k1 k2 k3 => ?_⟩, ?_, ?_, ?_, fun i hi => ?_, fun i hi => ?_⟩
  · rw [xup_ne a3, xup_ne a1]; exact h1.1 a a1 a2 a3
  · rw [xup_ne (by decide), xup_at, xup_ne k1, xup_ne k3, xup_ne k2]; exact h1.2 k k1 k2 k3
  · simp only [xup_at, xup_ne, xup_up, ne_eq, Nat.reduceEqDiff, not_false_eq_true, Int.toNat_natCast, x_lcmp]
  · simp only [xup_at, xup_ne, xup_up, ne_eq, Nat.reduceEqDiff, not_false_eq_true, Int.toNat_natCast, x_lcmp]
  · simp only [xup_at, xup_ne, xup_up, ne_eq, Nat.reduceEqDiff, not_false_eq_true, Int.toNat_natCast, x_lcmp]
  · rw [xup_at]
    have hi' : i < u := hi
    unfold va_cpy
    rw [if_pos ⟨Nat.zero_le _, by show i < 0 + 6; omega⟩]
    show M 60 (0 + (i - 0)) = _
    rw [Nat.zero_add, Nat.sub_zero]
    exact h6 i hi'
  · rw [xup_ne (by decide), xup_ne (by decide)]
    exact h6 i hi
set_option maxRecDepth 100000 in
theorem c_keep {M0 M : xM} {Q : Option xV → xM → Prop} {u : Nat} {p : Nat → Nat} {ch hr : Int} {B : xB} (hu : u ≤ 6) (hc : 0 < ch ∧ ch ≤ 1000000000) (hh : 0 ≤ hr ∧ hr ≤ 1000) (hB : 0 ≤ B.1 ∧ B.1 ≤ 1000000000 ∧ 0 ≤ B.2.1 ∧ B.2.1 ≤ 1000) (hA : wkAt M0 u p B M) (hq : ∀ M', wkAt M0 u p (hkeep u p ch hr B) M' → Q none M') : xm 1 m_Hills_keepIfBetter [xR (some 45), xI u, xJ ch, xI hr] M Q := by
  have h1 := hA.2.1
  have h2 := hA.2.2.1
  (refine xm_of (own := "DrumTongue$Hills") rfl (by decide +kernel) tk_Hills [some (xR (some 45)), some (xI (u : Int)), some (xJ ch), none, some (xI hr)] (Nat.le_of_ble_eq_true rfl) rfl ?_; intro D nx X C P hW)
  refine xg hW k_Hills_keepIfBetter [] 40 ?_
  ((repeat' (first | (with_reducible refine And.intro ?_ ?_) | (intro h0; exact absurd h0 (by decide)) | (intro _) | ((conv => whnf); (first | (with_reducible refine And.intro ?_ ?_) | (intro h0; exact absurd h0 (by decide)) | (intro _))))); (all_goals (try omega)); (all_goals (try exact Nat.le_of_ble_eq_true rfl)); (all_goals (try ((conv => whnf); (first | (refine hW.2.1 _ _ ?_) | (change X _ _ _ _ _ _) | (change C _ _ _ _ _ _ _))))); (all_goals (try simp only [xup_at, xup_ne, xup_up, ne_eq, Nat.reduceEqDiff, not_false_eq_true, Int.toNat_natCast, x_lcmp] at *)); (all_goals (try omega)))
  · refine hq _ ?_
    unfold hkeep
    rw [if_pos (by omega)]
    exact wkAt_keep hu hA
  · refine hq _ ?_
    unfold hkeep
    rw [if_neg (by omega)]
    exact hA
  · refine hq _ ?_
    unfold hkeep
    rw [if_neg (by omega)]
    exact hA
  · refine hq _ ?_
    unfold hkeep
    rw [if_pos (by omega)]
    exact wkAt_keep hu hA
/-- the best so far stays in bounds -/
def hbOk (B : xB) : Prop := 0 ≤ B.1 ∧ B.1 ≤ 1000000000 ∧ 0 ≤ B.2.1 ∧ B.2.1 ≤ 1000 ∧ (0 < B.1 → 2 ≤ B.2.2.1 ∧ B.2.2.1 ≤ 6 ∧ ∀ i, i < B.2.2.1 → B.2.2.2 i < 6) ∧ (B.1 = 0 → B.2.2.1 = 0)
theorem hkeep_ok {u : Nat} {p : Nat → Nat} {ch hr : Int} {B : xB} (hu : 2 ≤ u ∧ u ≤ 6) (hp : ∀ i, i < u → p i < 6) (hc : 0 ≤ ch ∧ ch ≤ 1000000000) (hh : 0 ≤ hr ∧ hr ≤ 1000) (hB : hbOk B) : hbOk (hkeep u p ch hr B) := by
  unfold hkeep
  split
  · rename_i q
    have := hB.1
    exact ⟨hc.1, hc.2, hh.1, hh.2, fun _ => ⟨hu.1, hu.2, hp⟩, fun z => by simp only at z; omega⟩
  · exact hB
theorem hch_rg {ch c : Int} (hc : 0 ≤ ch ∧ ch ≤ 1000000000) (h : 0 ≤ c ∧ c ≤ 1000) : 0 ≤ ch * c ∧ ch * c ≤ 1000000000000 ∧ 0 ≤ (ch * c).tdiv 1000 ∧ (ch * c).tdiv 1000 ≤ ch := by
  have h1 := Int.mul_nonneg hc.1 h.1
  have h2 : ch * c ≤ ch * 1000 := Int.mul_le_mul_of_nonneg_left h.2 hc.1
  rw [Int.tdiv_eq_ediv_of_nonneg h1]
  omega
def chOk (c h : Nat → Nat → Int) : Prop := ∀ f t : Nat, f < 6 → t < 6 → (0 ≤ c f t ∧ c f t ≤ 1000) ∧ 1 ≤ h f t ∧ h f t ≤ 20
theorem hdfs_ok {c h : Nat → Nat → Int} {d : Nat} (hch : chOk c h) : ∀ (f : Nat) (p : Nat → Nat) (u : Nat) (ch hr : Int) (B : xB), u + f = 6 → 1 ≤ u → (∀ i, i < u → p i < 6) → 0 ≤ ch ∧ ch ≤ 1000000000 → 0 ≤ hr ∧ hr ≤ 20 * u → hbOk B → hbOk (hdfs c h d f p u ch hr B)
  | 0, _, _, _, _, _, _, _, _, _, _, hB => hB
  | f + 1, p, u, ch, hr, B, hu, h1, hp, hc, hh, hB => by
    rw [hdfs]
    have key : ∀ m B, m ≤ 6 → hbOk B → hbOk (hdT (fun t B => if onp p t u = true then B else if t = d then hkeep (u + 1) (xup p u t) ((ch * c (p (u - 1)) t).tdiv 1000) (hr + h (p (u - 1)) t) B else hdfs c h d f (xup p u t) (u + 1) ((ch * c (p (u - 1)) t).tdiv 1000) (hr + h (p (u - 1)) t) B) m B) := by
      intro m
      induction m with
      | zero => intro B _ hB; exact hB
      | succ m ih =>
        intro B hm hB
        rw [hdT]
        refine ih _ (by omega) ?_
        obtain ⟨c1, c2⟩ := hch (p (u - 1)) (5 - m) (hp _ (by omega)) (by omega)
        have c3 := hch_rg hc c1
        have hp' : ∀ i, i < u + 1 → xup p u (5 - m) i < 6 := fun i hi => by
          by_cases q : i = u
          · rw [q, xup_at]; omega
          · rw [xup_ne q]; exact hp i (by omega)
        split
        · exact hB
        · split
          · exact hkeep_ok ⟨by omega, by omega⟩ hp' ⟨by omega, by omega⟩ ⟨by omega, by omega⟩ hB
          · exact hdfs_ok hch f _ _ _ _ _ (by omega) (by omega) hp' ⟨by omega, by omega⟩ ⟨by omega, by omega⟩ hB
    exact key 6 B (Nat.le_refl _) hB
def cM (M : xM) (f t : Nat) : Int := M (47 + f) t
def hM (M : xM) (f t : Nat) : Int := M (54 + f) t
theorem hillOk.ch {M : xM} (h : hillOk M) : chOk (cM M) (hM M) := fun f t hf ht => by
  obtain ⟨a, b, c, d⟩ := h f t hf ht
  exact ⟨⟨a, b⟩, c, d⟩
set_option maxRecDepth 100000 in
set_option maxHeartbeats 4000000 in
theorem c_walk {M0 : xM} (hh0 : hillOk M0) {d : Nat} (hd : d < 6) : ∀ (f : Nat) {u : Nat} {p : Nat → Nat} {ch hr : Int} {B : xB} {M : xM} {Q : Option xV → xM → Prop}, u + f = 6 → 1 ≤ u → (p (u - 1) = d → 2 ≤ u) → (∀ i, i < u → p i < 6) → 0 ≤ ch ∧ ch ≤ 1000000000 → 0 ≤ hr ∧ hr ≤ 20 * u → hbOk B → wkAt M0 u p B M → (∀ M', wkAt M0 u p (hwk (cM M0) (hM M0) d f p u ch hr B) M' → Q none M') → xm (4 + f) m_Hills_walk [xR (some 45), xI u, xI d, xJ ch, xI hr] M Q := by
  have hch := hh0.ch
  intro f
  induction f with
  | zero =>
    intro u p ch hr B M Q hu h1 hpd hp hc hh hB hA hq
    have hlast : M 60 ((u : Int) - 1).toNat = p (u - 1) := by rw [show ((u : Int) - 1).toNat = u - 1 by omega]; exact hA.2.2.2.2.2 (u - 1) (by omega)
    have hl6 := hp (u - 1) (by omega)
    by_cases hz : ch = 0
    · subst hz
      have e : hwk (cM M0) (hM M0) d 0 p u 0 hr B = B := by
        unfold hwk
        split
        · exact hkeep_0 hB.1
        · exact hdfs_0 hB.1 _ _ _ _
      rw [e] at hq
      (refine xm_of (own := "DrumTongue$Hills") rfl (by decide +kernel) tk_Hills [some (xR (some 45)), some (xI (u : Int)), some (xI (d : Int)), some (xJ 0), none, some (xI hr), none, none] (Nat.le_of_ble_eq_true rfl) rfl ?_; intro D nx X C P hW)
      refine xg hW k_Hills_walk [46] 40 ?_
      ((repeat' (first | (with_reducible refine And.intro ?_ ?_) | (intro h0; exact absurd h0 (by decide)) | (intro _) | ((conv => whnf); (first | (with_reducible refine And.intro ?_ ?_) | (intro h0; exact absurd h0 (by decide)) | (intro _))))); (all_goals (try omega)); (all_goals (try exact Nat.le_of_ble_eq_true rfl)); (all_goals (try ((conv => whnf); (first | (refine hW.2.1 _ _ ?_) | (change X _ _ _ _ _ _) | (change C _ _ _ _ _ _ _))))); (all_goals (try simp only [xup_at, xup_ne, xup_up, ne_eq, Nat.reduceEqDiff, not_false_eq_true, Int.toNat_natCast, x_lcmp] at *)); (all_goals (try omega)))
      all_goals exact hq M hA
    · (refine xm_of (own := "DrumTongue$Hills") rfl (by decide +kernel) tk_Hills [some (xR (some 45)), some (xI (u : Int)), some (xI (d : Int)), some (xJ ch), none, some (xI hr), none, none] (Nat.le_of_ble_eq_true rfl) rfl ?_; intro D nx X C P hW)
      refine xg hW k_Hills_walk [] 40 ?_
      ((repeat' (first | (with_reducible refine And.intro ?_ ?_) | (intro h0; exact absurd h0 (by decide)) | (intro _) | ((conv => whnf); (first | (with_reducible refine And.intro ?_ ?_) | (intro h0; exact absurd h0 (by decide)) | (intro _))))); (all_goals (try omega)); (all_goals (try exact Nat.le_of_ble_eq_true rfl)); (all_goals (try ((conv => whnf); (first | (refine hW.2.1 _ _ ?_) | (change X _ _ _ _ _ _) | (change C _ _ _ _ _ _ _))))); (all_goals (try simp only [xup_at, xup_ne, xup_up, ne_eq, Nat.reduceEqDiff, not_false_eq_true, Int.toNat_natCast, x_lcmp] at *)); (all_goals (try omega)))
      · refine hq M ?_
        unfold hwk
        rw [if_neg (by omega), hdfs]
        exact hA
      · refine hW.1 _ _ _ _ _ _ (c_keep (by omega) ⟨by omega, hc.2⟩ ⟨by omega, by omega⟩ ⟨hB.1, hB.2.1, hB.2.2.1, hB.2.2.2.1⟩ hA (fun M' hA' => ?_)) (by omega) (by decide) (Nat.le_of_ble_eq_true rfl)
        ((repeat' (first | (with_reducible refine And.intro ?_ ?_) | (intro h0; exact absurd h0 (by decide)) | (intro _) | ((conv => whnf); (first | (with_reducible refine And.intro ?_ ?_) | (intro h0; exact absurd h0 (by decide)) | (intro _))))); (all_goals (try omega)); (all_goals (try exact Nat.le_of_ble_eq_true rfl)); (all_goals (try ((conv => whnf); (first | (refine hW.2.1 _ _ ?_) | (change X _ _ _ _ _ _) | (change C _ _ _ _ _ _ _))))); (all_goals (try simp only [xup_at, xup_ne, xup_up, ne_eq, Nat.reduceEqDiff, not_false_eq_true, Int.toNat_natCast, x_lcmp] at *)); (all_goals (try omega)))
        refine hq M' ?_
        unfold hwk
        rw [if_pos (by omega)]
        exact hA'
  | succ f ih =>
    intro u p ch hr B M Q hu h1 hpd hp hc hh hB hA hq
    have hlast : M 60 ((u : Int) - 1).toNat = p (u - 1) := by rw [show ((u : Int) - 1).toNat = u - 1 by omega]; exact hA.2.2.2.2.2 (u - 1) (by omega)
    have hl6 := hp (u - 1) (by omega)
    by_cases hz : ch = 0
    · subst hz
      have e : hwk (cM M0) (hM M0) d (f + 1) p u 0 hr B = B := by
        unfold hwk
        split
        · exact hkeep_0 hB.1
        · exact hdfs_0 hB.1 _ _ _ _
      rw [e] at hq
      (refine xm_of (own := "DrumTongue$Hills") rfl (by decide +kernel) tk_Hills [some (xR (some 45)), some (xI (u : Int)), some (xI (d : Int)), some (xJ 0), none, some (xI hr), none, none] (Nat.le_of_ble_eq_true rfl) rfl ?_; intro D nx X C P hW)
      refine xg hW k_Hills_walk [46] 40 ?_
      ((repeat' (first | (with_reducible refine And.intro ?_ ?_) | (intro h0; exact absurd h0 (by decide)) | (intro _) | ((conv => whnf); (first | (with_reducible refine And.intro ?_ ?_) | (intro h0; exact absurd h0 (by decide)) | (intro _))))); (all_goals (try omega)); (all_goals (try exact Nat.le_of_ble_eq_true rfl)); (all_goals (try ((conv => whnf); (first | (refine hW.2.1 _ _ ?_) | (change X _ _ _ _ _ _) | (change C _ _ _ _ _ _ _))))); (all_goals (try simp only [xup_at, xup_ne, xup_up, ne_eq, Nat.reduceEqDiff, not_false_eq_true, Int.toNat_natCast, x_lcmp] at *)); (all_goals (try omega)))
      all_goals exact hq M hA
    · generalize hbody : (fun (t : Nat) (B : xB) => if onp p t u = true then B else if t = d then hkeep (u + 1) (xup p u t) ((ch * cM M0 (p (u - 1)) t).tdiv 1000) (hr + hM M0 (p (u - 1)) t) B else hdfs (cM M0) (hM M0) d f (xup p u t) (u + 1) ((ch * cM M0 (p (u - 1)) t).tdiv 1000) (hr + hM M0 (p (u - 1)) t) B) = body
      (refine xm_of (own := "DrumTongue$Hills") rfl (by decide +kernel) tk_Hills [some (xR (some 45)), some (xI (u : Int)), some (xI (d : Int)), some (xJ ch), none, some (xI hr), none, none] (Nat.le_of_ble_eq_true rfl) rfl ?_; intro D nx X C P hW)
      have loop : ∀ (m : Nat) (B : xB) (M : xM), m ≤ 6 → hbOk B → wkAt M0 u p B M → (∀ M', wkAt M0 u p (hdT body m B) M' → Q none M') → X 46 [some (xR (some 45)), some (xI (u : Int)), some (xI (d : Int)), some (xJ ch), none, some (xI hr), some (xI (p (u - 1) : Nat)), some (xI (6 - (m : Int)))] [] (M, D, nx) 0 0 := by
        intro m
        induction m with
        | zero =>
          intro B M hm hB hA hq
          refine xg hW k_Hills_walk [46] 40 ?_
          ((repeat' (first | (with_reducible refine And.intro ?_ ?_) | (intro h0; exact absurd h0 (by decide)) | (intro _) | ((conv => whnf); (first | (with_reducible refine And.intro ?_ ?_) | (intro h0; exact absurd h0 (by decide)) | (intro _))))); (all_goals (try omega)); (all_goals (try exact Nat.le_of_ble_eq_true rfl)); (all_goals (try ((conv => whnf); (first | (refine hW.2.1 _ _ ?_) | (change X _ _ _ _ _ _) | (change C _ _ _ _ _ _ _))))); (all_goals (try simp only [xup_at, xup_ne, xup_up, ne_eq, Nat.reduceEqDiff, not_false_eq_true, Int.toNat_natCast, x_lcmp] at *)); (all_goals (try omega)))
          exact hq M hA
        | succ m ihm =>
          intro B M hm hB hA hq
          rw [hdT] at hq
          rw [show (6 - ((m + 1 : Nat) : Int)) = ((5 - m : Nat) : Int) by omega]
          generalize hla : p (u - 1) = a at *
          have t1 : xT0 (47 + (a : Int).toNat) = some (.inr (0, 6, none)) := xT0_c a hl6
          have t2 : xT0 (54 + (a : Int).toNat) = some (.inr (0, 6, none)) := xT0_h a hl6
          have k1 : ∀ z, xup M 60 z (47 + a) = M0 (47 + a) := fun z => by rw [xup_ne (by omega)]; exact hA.1.1 _ (by omega) (by omega) (by omega)
          have k2 : ∀ z, xup M 60 z (54 + a) = M0 (54 + a) := fun z => by rw [xup_ne (by omega)]; exact hA.1.1 _ (by omega) (by omega) (by omega)
          obtain ⟨c1, c2⟩ := hch a (5 - m) hl6 (by omega)
          have c3 := hch_rg hc c1
          unfold cM at c1 c3
          unfold hM at c2
          refine xg hW k_Hills_walk [46] 40 ?_
          ((repeat' (first | (with_reducible refine And.intro ?_ ?_) | (intro h0; exact absurd h0 (by decide)) | (intro _) | ((conv => whnf); (first | (with_reducible refine And.intro ?_ ?_) | (intro h0; exact absurd h0 (by decide)) | (intro _) | (rw [t1]) | (rw [t2]) | (refine hW.1 _ _ _ _ _ _ (c_isHillY ?_) (by first | decide | omega) (by decide) (Nat.le_of_ble_eq_true rfl)))))); (all_goals (try omega)); (all_goals (try exact Nat.le_of_ble_eq_true rfl)); (all_goals (try ((conv => whnf); (first | (refine hW.2.1 _ _ ?_) | (change X _ _ _ _ _ _) | (change C _ _ _ _ _ _ _))))); (all_goals (try simp only [xup_at, xup_ne, xup_up, ne_eq, Nat.reduceEqDiff, not_false_eq_true, Int.toNat_natCast, x_lcmp] at *)); (all_goals (try omega)))
          have hpp : ∀ i, i < u → M 60 i = p i ∧ p i < 6 := fun i hi => ⟨hA.2.2.2.2.2 i hi, hp i hi⟩
          refine hW.1 _ _ _ _ _ _ (c_isOnPath (by omega) (by omega) hpp ⟨fun hon => ?_, fun hon => ?_⟩) (by omega) (by decide) (Nat.le_of_ble_eq_true rfl)
          · have e : body (5 - m) B = B := by
              rw [← hbody]
              simp only [hon, if_true]
            rw [e] at hq
            ((repeat' (first | (with_reducible refine And.intro ?_ ?_) | (intro h0; exact absurd h0 (by decide)) | (intro _) | ((conv => whnf); (first | (with_reducible refine And.intro ?_ ?_) | (intro h0; exact absurd h0 (by decide)) | (intro _))))); (all_goals (try omega)); (all_goals (try exact Nat.le_of_ble_eq_true rfl)); (all_goals (try ((conv => whnf); (first | (refine hW.2.1 _ _ ?_) | (change X _ _ _ _ _ _) | (change C _ _ _ _ _ _ _))))); (all_goals (try simp only [xup_at, xup_ne, xup_up, ne_eq, Nat.reduceEqDiff, not_false_eq_true, Int.toNat_natCast, x_lcmp] at *)); (all_goals (try omega)))
            have := ihm B M (by omega) hB hA hq
            rw [show (6 - (m : Int)) = ((5 - m : Nat) : Int) + 1 by omega] at this
            exact this
          · have e : body (5 - m) B = hwk (cM M0) (hM M0) d f (xup p u (5 - m)) (u + 1) ((ch * cM M0 a (5 - m)).tdiv 1000) (hr + hM M0 a (5 - m)) B := by
              rw [← hbody]
              unfold hwk
              simp only [hon, Nat.add_sub_cancel, xup_at, hla]
              rfl
            rw [e] at hq
            have hp' : ∀ i, i < u + 1 → xup p u (5 - m) i < 6 := fun i hi => by
              by_cases q : i = u
              · rw [q, xup_at]; omega
              · rw [xup_ne q]; exact hp i (by omega)
            have t1 : xT0 (47 + (a : Int).toNat) = some (.inr (0, 6, none)) := xT0_c a hl6
            have t2 : xT0 (54 + (a : Int).toNat) = some (.inr (0, 6, none)) := xT0_h a hl6
            ((repeat' (first | (with_reducible refine And.intro ?_ ?_) | (intro h0; exact absurd h0 (by decide)) | (intro _) | ((conv => whnf); (first | (with_reducible refine And.intro ?_ ?_) | (intro h0; exact absurd h0 (by decide)) | (intro _) | (rw [t1]) | (rw [t2]))))); (all_goals (try omega)); (all_goals (try exact Nat.le_of_ble_eq_true rfl)); (all_goals (try ((conv => whnf); (first | (refine hW.2.1 _ _ ?_) | (change X _ _ _ _ _ _) | (change C _ _ _ _ _ _ _))))); (all_goals (try simp only [xup_at, xup_ne, xup_up, ne_eq, Nat.reduceEqDiff, not_false_eq_true, Int.toNat_natCast, x_lcmp] at *)); (all_goals (try omega)))
            all_goals (try rw [k1])
            all_goals (try omega)
            rw [k2]
            have hA1 : wkAt M0 (u + 1) (xup p u (5 - m)) B (xup M 60 (xup (M 60) u ((5 - m : Nat) : Int))) := by
              obtain ⟨h1, h2, h3, h4, h5, h6⟩ := hA
              refine ⟨⟨fun a a1 a2 a3 => ?_, fun k k1 k2 k3 => ?_⟩, ?_, ?_, ?_, fun i hi => ?_, fun i hi => ?_⟩
              · rw [xup_ne a2]; exact h1.1 a a1 a2 a3
              · rw [xup_ne (by decide)]; exact h1.2 k k1 k2 k3
              · rw [xup_ne (by decide)]; exact h2
              · rw [xup_ne (by decide)]; exact h3
              · rw [xup_ne (by decide)]; exact h4
              · rw [xup_ne (by decide)]; exact h5 i hi
              · rw [xup_at]
                by_cases q : i = u
                · rw [q, xup_at, xup_at]
                · rw [xup_ne q, xup_ne q]; exact h6 i (by omega)
            refine hW.1 _ _ _ _ _ _ (ih (u := u + 1) (by omega) (by omega) (fun _ => by omega) hp' ⟨c3.2.2.1, by omega⟩ ⟨by omega, by omega⟩ hB hA1 (fun M' hA' => ?_)) (by omega) (by decide) (Nat.le_of_ble_eq_true rfl)
            ((repeat' (first | (with_reducible refine And.intro ?_ ?_) | (intro h0; exact absurd h0 (by decide)) | (intro _) | ((conv => whnf); (first | (with_reducible refine And.intro ?_ ?_) | (intro h0; exact absurd h0 (by decide)) | (intro _))))); (all_goals (try omega)); (all_goals (try exact Nat.le_of_ble_eq_true rfl)); (all_goals (try ((conv => whnf); (first | (refine hW.2.1 _ _ ?_) | (change X _ _ _ _ _ _) | (change C _ _ _ _ _ _ _))))); (all_goals (try simp only [xup_at, xup_ne, xup_up, ne_eq, Nat.reduceEqDiff, not_false_eq_true, Int.toNat_natCast, x_lcmp] at *)); (all_goals (try omega)))
            have hA2 : wkAt M0 u p (hwk (cM M0) (hM M0) d f (xup p u (5 - m)) (u + 1) ((ch * cM M0 a (5 - m)).tdiv 1000) (hr + hM M0 a (5 - m)) B) M' := by
              obtain ⟨h1, h2, h3, h4, h5, h6⟩ := hA'
              refine ⟨h1, h2, h3, h4, h5, fun i hi => ?_⟩
              rw [h6 i (by omega), xup_ne (by omega)]
            have hB2 : hbOk (hwk (cM M0) (hM M0) d f (xup p u (5 - m)) (u + 1) ((ch * cM M0 a (5 - m)).tdiv 1000) (hr + hM M0 a (5 - m)) B) := by
              unfold hwk
              split
              · exact hkeep_ok ⟨by omega, by omega⟩ hp' ⟨c3.2.2.1, by unfold cM; omega⟩ ⟨by unfold hM; omega, by unfold hM; omega⟩ hB
              · exact hdfs_ok hch f _ _ _ _ _ (by omega) (by omega) hp' ⟨c3.2.2.1, by unfold cM; omega⟩ ⟨by unfold hM; omega, by unfold hM; omega⟩ hB
            have := ihm _ M' (by omega) hB2 hA2 hq
            rw [show (6 - (m : Int)) = ((5 - m : Nat) : Int) + 1 by omega] at this
            exact this
      refine xg hW k_Hills_walk [46] 40 ?_
      ((repeat' (first | (with_reducible refine And.intro ?_ ?_) | (intro h0; exact absurd h0 (by decide)) | (intro _) | ((conv => whnf); (first | (with_reducible refine And.intro ?_ ?_) | (intro h0; exact absurd h0 (by decide)) | (intro _))))); (all_goals (try omega)); (all_goals (try exact Nat.le_of_ble_eq_true rfl)); (all_goals (try ((conv => whnf); (first | (refine hW.2.1 _ _ ?_) | (change X _ _ _ _ _ _) | (change C _ _ _ _ _ _ _))))); (all_goals (try simp only [xup_at, xup_ne, xup_up, ne_eq, Nat.reduceEqDiff, not_false_eq_true, Int.toNat_natCast, x_lcmp] at *)); (all_goals (try omega)))
      · rw [hlast]
        exact loop 6 B M (Nat.le_refl _) hB hA fun M' hA' => hq M' (by
          unfold hwk
          rw [if_neg (by omega), hdfs, hbody]
          exact hA')
      · refine hW.1 _ _ _ _ _ _ (c_keep (by omega) ⟨by omega, hc.2⟩ ⟨by omega, by omega⟩ ⟨hB.1, hB.2.1, hB.2.2.1, hB.2.2.2.1⟩ hA (fun M' hA' => ?_)) (by omega) (by decide) (Nat.le_of_ble_eq_true rfl)
        ((repeat' (first | (with_reducible refine And.intro ?_ ?_) | (intro h0; exact absurd h0 (by decide)) | (intro _) | ((conv => whnf); (first | (with_reducible refine And.intro ?_ ?_) | (intro h0; exact absurd h0 (by decide)) | (intro _))))); (all_goals (try omega)); (all_goals (try exact Nat.le_of_ble_eq_true rfl)); (all_goals (try ((conv => whnf); (first | (refine hW.2.1 _ _ ?_) | (change X _ _ _ _ _ _) | (change C _ _ _ _ _ _ _))))); (all_goals (try simp only [xup_at, xup_ne, xup_up, ne_eq, Nat.reduceEqDiff, not_false_eq_true, Int.toNat_natCast, x_lcmp] at *)); (all_goals (try omega)))
        refine hq M' ?_
        unfold hwk
        rw [if_pos (by omega)]
        exact hA'
/-- the best way from s to d -/
def hBest (c h : Nat → Nat → Int) (s d : Nat) : xB := hdfs c h d 5 (fun _ => s) 1 1000000000 0 (0, 0, 0, fun _ => 0)
theorem hBest_ok {c h : Nat → Nat → Int} {s d : Nat} (hch : chOk c h) (hs : s < 6) : hbOk (hBest c h s d) := hdfs_ok hch 5 _ 1 _ _ _ rfl (by decide) (fun _ _ => hs) ⟨by decide, by decide⟩ ⟨by decide, by decide⟩ ⟨by decide, by decide, by decide, by decide, fun q => absurd q (by decide), fun _ => rfl⟩
set_option maxRecDepth 100000 in
theorem c_findBest {M : xM} {Q : Option xV → xM → Prop} {s d : Nat} (hh0 : hillOk M) (hs : s < 6) (hd : d < 6) (hsd : s ≠ d) (h1 : ∀ M', wkAt M 1 (fun _ => s) (hBest (cM M) (hM M) s d) M' → 0 < (hBest (cM M) (hM M) s d).1 → Q (some (xI 1)) M') (h2 : ∀ M', wkAt M 1 (fun _ => s) (hBest (cM M) (hM M) s d) M' → (hBest (cM M) (hM M) s d).1 = 0 → Q (some (xI 0)) M') : xm 12 m_Hills_findBest [xR (some 45), xI s, xI d] M Q := by
  (refine xm_of (own := "DrumTongue$Hills") rfl (by decide +kernel) tk_Hills [some (xR (some 45)), some (xI (s : Int)), some (xI (d : Int))] (Nat.le_of_ble_eq_true rfl) rfl ?_; intro D nx X C P hW)
  refine xg hW k_Hills_findBest [] 40 ?_
  ((repeat' (first | (with_reducible refine And.intro ?_ ?_) | (intro h0; exact absurd h0 (by decide)) | (intro _) | ((conv => whnf); (first | (with_reducible refine And.intro ?_ ?_) | (intro h0; exact absurd h0 (by decide)) | (intro _) | (refine hW.1 _ _ _ _ _ _ (c_arePairY ?_) (by first | decide | omega) (by decide) (Nat.le_of_ble_eq_true rfl)))))); (all_goals (try omega)); (all_goals (try exact Nat.le_of_ble_eq_true rfl)); (all_goals (try ((conv => whnf); (first | (refine hW.2.1 _ _ ?_) | (change X _ _ _ _ _ _) | (change C _ _ _ _ _ _ _))))); (all_goals (try simp only [xup_at, xup_ne, xup_up, ne_eq, Nat.reduceEqDiff, not_false_eq_true, Int.toNat_natCast, x_lcmp] at *)); (all_goals (try omega)))
  have hA : wkAt M 1 (fun _ => s) (0, 0, 0, fun _ => 0) (xup (xup M 45 (xup (xup (xup (M 45) 4 0) 5 0) 6 0)) 60 (xup (M 60) 0 (s : Int))) := by
    refine ⟨⟨fun a a1 a2 a3 => ?_, fun k k1 k2 k3 => ?_⟩, ?_, ?_, ?_, fun i hi => ?_, fun i hi => ?_⟩
    · rw [xup_ne a2, xup_ne a1]
    · rw [xup_ne (by decide), xup_at, xup_ne k3, xup_ne k2, xup_ne k1]
    · simp only [xup_at, xup_ne, xup_up, ne_eq, Nat.reduceEqDiff, not_false_eq_true, Int.toNat_natCast, x_lcmp]
    · simp only [xup_at, xup_ne, xup_up, ne_eq, Nat.reduceEqDiff, not_false_eq_true, Int.toNat_natCast, x_lcmp]
    · simp only [xup_at, xup_ne, xup_up, ne_eq, Nat.reduceEqDiff, not_false_eq_true, Int.toNat_natCast, x_lcmp]; rfl
    · exact absurd hi (Nat.not_lt_zero i)
    · rw [show i = 0 by omega, xup_at, xup_at]
  have hok := hBest_ok (s := s) (d := d) hh0.ch hs
  refine hW.1 _ _ _ _ _ _ (c_walk hh0 hd 5 (u := 1) (p := fun _ => s) rfl (by decide) (fun q => absurd q hsd) (fun _ _ => hs) ⟨by decide, by decide⟩ ⟨by decide, by decide⟩ ⟨by decide, by decide, by decide, by decide, fun q => absurd q (by decide), fun _ => rfl⟩ hA (fun M' hA' => ?_)) (by omega) (by decide) (Nat.le_of_ble_eq_true rfl)
  unfold hwk at hA'
  rw [if_neg hsd] at hA'
  have hA2 : wkAt M 1 (fun _ => s) (hBest (cM M) (hM M) s d) M' := hA'
  obtain ⟨o1, o2, o3, o4, o5, o6⟩ := hok
  have u4 := hA2.2.2.2.1
  have u5 : (hBest (cM M) (hM M) s d).2.2.1 ≤ 6 := by
    by_cases q : (hBest (cM M) (hM M) s d).1 = 0
    · rw [o6 q]; decide
    · exact (o5 (by omega)).2.1
  ((repeat' (first | (with_reducible refine And.intro ?_ ?_) | (intro h0; exact absurd h0 (by decide)) | (intro _) | ((conv => whnf); (first | (with_reducible refine And.intro ?_ ?_) | (intro h0; exact absurd h0 (by decide)) | (intro _))))); (all_goals (try omega)); (all_goals (try exact Nat.le_of_ble_eq_true rfl)); (all_goals (try ((conv => whnf); (first | (refine hW.2.1 _ _ ?_) | (change X _ _ _ _ _ _) | (change C _ _ _ _ _ _ _))))); (all_goals (try simp only [xup_at, xup_ne, xup_up, ne_eq, Nat.reduceEqDiff, not_false_eq_true, Int.toNat_natCast, x_lcmp] at *)); (all_goals (try omega)))
  · refine h2 M' hA2 ?_
    by_cases q : (hBest (cM M) (hM M) s d).1 = 0
    · exact q
    · have := (o5 (by omega)).1
      omega
  · refine h1 M' hA2 ?_
    by_cases q : (hBest (cM M) (hM M) s d).1 = 0
    · have := o6 q
      omega
    · omega
set_option maxRecDepth 100000 in
theorem c_bestChance {M : xM} {Q : Option xV → xM → Prop} (h : Q (some (xI (M 45 5))) M) : xm 1 m_Hills_bestChance [xR (some 45)] M Q := by
  (refine xm_of (own := "DrumTongue$Hills") rfl (by decide +kernel) tk_Hills [some (xR (some 45))] (Nat.le_of_ble_eq_true rfl) rfl ?_; intro D nx X C P hW)
  refine xg hW k_Hills_bestChance [] 40 ?_
  ((repeat' (first | (with_reducible refine And.intro ?_ ?_) | (intro h0; exact absurd h0 (by decide)) | (intro _) | ((conv => whnf); (first | (with_reducible refine And.intro ?_ ?_) | (intro h0; exact absurd h0 (by decide)) | (intro _))))); (all_goals (try omega)); (all_goals (try exact Nat.le_of_ble_eq_true rfl)); (all_goals (try ((conv => whnf); (first | (refine hW.2.1 _ _ ?_) | (change X _ _ _ _ _ _) | (change C _ _ _ _ _ _ _))))); (all_goals (try simp only [xup_at, xup_ne, xup_up, ne_eq, Nat.reduceEqDiff, not_false_eq_true, Int.toNat_natCast, x_lcmp] at *)); (all_goals (try omega)))
  all_goals exact h
set_option maxRecDepth 100000 in
theorem c_bestHours {M : xM} {Q : Option xV → xM → Prop} (h : Q (some (xI (M 45 6))) M) : xm 1 m_Hills_bestHours [xR (some 45)] M Q := by
  (refine xm_of (own := "DrumTongue$Hills") rfl (by decide +kernel) tk_Hills [some (xR (some 45))] (Nat.le_of_ble_eq_true rfl) rfl ?_; intro D nx X C P hW)
  refine xg hW k_Hills_bestHours [] 40 ?_
  ((repeat' (first | (with_reducible refine And.intro ?_ ?_) | (intro h0; exact absurd h0 (by decide)) | (intro _) | ((conv => whnf); (first | (with_reducible refine And.intro ?_ ?_) | (intro h0; exact absurd h0 (by decide)) | (intro _))))); (all_goals (try omega)); (all_goals (try exact Nat.le_of_ble_eq_true rfl)); (all_goals (try ((conv => whnf); (first | (refine hW.2.1 _ _ ?_) | (change X _ _ _ _ _ _) | (change C _ _ _ _ _ _ _))))); (all_goals (try simp only [xup_at, xup_ne, xup_up, ne_eq, Nat.reduceEqDiff, not_false_eq_true, Int.toNat_natCast, x_lcmp] at *)); (all_goals (try omega)))
  all_goals exact h
set_option maxRecDepth 100000 in
theorem c_bestAt {M : xM} {Q : Option xV → xM → Prop} {i : Int} (h : (xrg i ∧ 0 ≤ M 45 4 ∧ M 45 4 ≤ 6) ∧ (0 ≤ i → i < M 45 4 → Q (some (xI (M 61 i.toNat))) M) ∧ (i < 0 ∨ M 45 4 ≤ i → Q (some (xI (-1))) M)) : xm 1 m_Hills_bestAt [xR (some 45), xI i] M Q := by
  obtain ⟨h1, h2, h3⟩ := h
  (refine xm_of (own := "DrumTongue$Hills") rfl (by decide +kernel) tk_Hills [some (xR (some 45)), some (xI i)] (Nat.le_of_ble_eq_true rfl) rfl ?_; intro D nx X C P hW)
  refine xg hW k_Hills_bestAt [] 40 ?_
  ((repeat' (first | (with_reducible refine And.intro ?_ ?_) | (intro h0; exact absurd h0 (by decide)) | (intro _) | ((conv => whnf); (first | (with_reducible refine And.intro ?_ ?_) | (intro h0; exact absurd h0 (by decide)) | (intro _))))); (all_goals (try omega)); (all_goals (try exact Nat.le_of_ble_eq_true rfl)); (all_goals (try ((conv => whnf); (first | (refine hW.2.1 _ _ ?_) | (change X _ _ _ _ _ _) | (change C _ _ _ _ _ _ _))))); (all_goals (try simp only [xup_at, xup_ne, xup_up, ne_eq, Nat.reduceEqDiff, not_false_eq_true, Int.toNat_natCast, x_lcmp] at *)); (all_goals (try omega)))
  all_goals first | exact h2 (by omega) (by omega) | exact h3 (by omega)
set_option maxRecDepth 100000 in
theorem c_enoughSum {M : xM} {Q : Option xV → xM → Prop} (h : Q (some (xI (M 45 9))) M) : xm 1 m_Hills_enoughSum [xR (some 45)] M Q := by
  (refine xm_of (own := "DrumTongue$Hills") rfl (by decide +kernel) tk_Hills [some (xR (some 45))] (Nat.le_of_ble_eq_true rfl) rfl ?_; intro D nx X C P hW)
  refine xg hW k_Hills_enoughSum [] 40 ?_
  ((repeat' (first | (with_reducible refine And.intro ?_ ?_) | (intro h0; exact absurd h0 (by decide)) | (intro _) | ((conv => whnf); (first | (with_reducible refine And.intro ?_ ?_) | (intro h0; exact absurd h0 (by decide)) | (intro _))))); (all_goals (try omega)); (all_goals (try exact Nat.le_of_ble_eq_true rfl)); (all_goals (try ((conv => whnf); (first | (refine hW.2.1 _ _ ?_) | (change X _ _ _ _ _ _) | (change C _ _ _ _ _ _ _))))); (all_goals (try simp only [xup_at, xup_ne, xup_up, ne_eq, Nat.reduceEqDiff, not_false_eq_true, Int.toNat_natCast, x_lcmp] at *)); (all_goals (try omega)))
  all_goals exact h
set_option maxRecDepth 100000 in
theorem c_enoughAt {M : xM} {Q : Option xV → xM → Prop} {i : Int} (h : (xrg i ∧ 0 ≤ M 45 4 ∧ M 45 4 ≤ 6) ∧ (0 ≤ i → i < M 45 4 - 1 → Q (some (xI (M 63 i.toNat))) M) ∧ (i < 0 ∨ M 45 4 - 1 ≤ i → Q (some (xI (-1))) M)) : xm 1 m_Hills_enoughAt [xR (some 45), xI i] M Q := by
  obtain ⟨h1, h2, h3⟩ := h
  (refine xm_of (own := "DrumTongue$Hills") rfl (by decide +kernel) tk_Hills [some (xR (some 45)), some (xI i)] (Nat.le_of_ble_eq_true rfl) rfl ?_; intro D nx X C P hW)
  refine xg hW k_Hills_enoughAt [] 40 ?_
  ((repeat' (first | (with_reducible refine And.intro ?_ ?_) | (intro h0; exact absurd h0 (by decide)) | (intro _) | ((conv => whnf); (first | (with_reducible refine And.intro ?_ ?_) | (intro h0; exact absurd h0 (by decide)) | (intro _))))); (all_goals (try omega)); (all_goals (try exact Nat.le_of_ble_eq_true rfl)); (all_goals (try ((conv => whnf); (first | (refine hW.2.1 _ _ ?_) | (change X _ _ _ _ _ _) | (change C _ _ _ _ _ _ _))))); (all_goals (try simp only [xup_at, xup_ne, xup_up, ne_eq, Nat.reduceEqDiff, not_false_eq_true, Int.toNat_natCast, x_lcmp] at *)); (all_goals (try omega)))
  all_goals first | exact h2 (by omega) (by omega) | exact h3 (by omega)
