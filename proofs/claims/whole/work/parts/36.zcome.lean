/-! the reference: phrases come in order -/
/-- the table of word w holds the tails l, from the place i on, the ones at j and behind moved one on -/
def ztb (M : xM) (s : Int) (es : Nat → Int) (w : Nat) (l : List xTl) (j : Nat) : Prop := ∀ (t : Nat) (y : xTl), l[t]? = some y → ∀ q : Nat, q = 31 * w + (if t < j then t else t + 1) → M 70 q = s + szT es y ∧ M 71 q = (y.1 : Int) ∧ M 72 q = (y.2.1 : Int) ∧ M 73 q = (y.2.2 : Int)
/-- nothing but the tables changed, and there but the places of word w -/
def zfr (M M' : xM) (w : Nat) : Prop := (∀ a, a ≠ 70 → a ≠ 71 → a ≠ 72 → a ≠ 73 → M' a = M a) ∧ ∀ q, q < 31 * w ∨ 31 * w + 31 ≤ q → M' 70 q = M 70 q ∧ M' 71 q = M 71 q ∧ M' 72 q = M 72 q ∧ M' 73 q = M 73 q
def zput (M : xM) (p : Nat) (s e a b : Int) : xM := xup (xup (xup (xup M 70 (xup (M 70) p s)) 71 (xup (M 71) p e)) 72 (xup (M 72) p a)) 73 (xup (M 73) p b)
theorem zput_at (M : xM) (p : Nat) (s e a b : Int) : zput M p s e a b 70 = xup (M 70) p s ∧ zput M p s e a b 71 = xup (M 71) p e ∧ zput M p s e a b 72 = xup (M 72) p a ∧ zput M p s e a b 73 = xup (M 73) p b ∧ ∀ x, x ≠ 70 → x ≠ 71 → x ≠ 72 → x ≠ 73 → zput M p s e a b x = M x := by
  unfold zput
  refine ⟨?_, ?_, ?_, ?_, fun x h1 h2 h3 h4 => ?_⟩
  · rw [xup_ne (by decide), xup_ne (by decide), xup_ne (by decide), xup_at]
  · rw [xup_ne (by decide), xup_ne (by decide), xup_at]
  · rw [xup_ne (by decide), xup_at]
  · rw [xup_at]
  · rw [xup_ne h4, xup_ne h3, xup_ne h2, xup_ne h1]
theorem zfr_put {M M' : xM} {w p : Nat} {s e a b : Int} (h : zfr M M' w) (h1 : 31 * w ≤ p) (h2 : p < 31 * w + 31) : zfr M (zput M' p s e a b) w := by
  obtain ⟨e1, e2, e3, e4, e5⟩ := zput_at M' p s e a b
  refine ⟨fun x x1 x2 x3 x4 => by rw [e5 x x1 x2 x3 x4]; exact h.1 x x1 x2 x3 x4, fun q hq => ?_⟩
  rw [e1, e2, e3, e4, xup_ne (by omega), xup_ne (by omega), xup_ne (by omega), xup_ne (by omega)]
  exact h.2 q hq
/-- one entry moves one on -/
theorem ztb_shift {M : xM} {s : Int} {es : Nat → Int} {w : Nat} {l : List xTl} {j : Nat} (h : ztb M s es w l (j + 1)) : ztb (zput M (31 * w + (j + 1)) (M 70 (31 * w + j)) (M 71 (31 * w + j)) (M 72 (31 * w + j)) (M 73 (31 * w + j))) s es w l j := by
  intro t y hy q hq
  obtain ⟨e1, e2, e3, e4, e5⟩ := zput_at M (31 * w + (j + 1)) (M 70 (31 * w + j)) (M 71 (31 * w + j)) (M 72 (31 * w + j)) (M 73 (31 * w + j))
  rw [e1, e2, e3, e4]
  by_cases c : t = j
  · rw [if_neg (by omega)] at hq
    have := h t y hy (31 * w + j) (by rw [if_pos (by omega), c])
    rw [show q = 31 * w + (j + 1) by omega, xup_at, xup_at, xup_at, xup_at]
    exact this
  · have := h t y hy q (by rw [hq]; split <;> split <;> omega)
    have hne : q ≠ 31 * w + (j + 1) := by split at hq <;> omega
    rw [xup_ne hne, xup_ne hne, xup_ne hne, xup_ne hne]
    exact this
/-- the new one stands at j -/
def insAt (l : List xTl) (j : Nat) (x : xTl) : List xTl := l.take j ++ x :: l.drop j
theorem insAt_get {l : List xTl} {j : Nat} {x : xTl} (hj : j ≤ l.length) (t : Nat) : (insAt l j x)[t]? = if t < j then l[t]? else if t = j then some x else l[t - 1]? := by
  unfold insAt
  by_cases h : t < j
  · rw [if_pos h, List.getElem?_append_left (by rw [List.length_take]; omega), List.getElem?_take_of_lt h]
  · rw [if_neg h, List.getElem?_append_right (by rw [List.length_take]; omega), List.length_take, Nat.min_eq_left hj]
    by_cases h2 : t = j
    · rw [if_pos h2, h2, Nat.sub_self]; rfl
    · rw [if_neg h2, show t - j = (t - 1 - j) + 1 by omega, List.getElem?_cons_succ, List.getElem?_drop, show j + (t - 1 - j) = t - 1 by omega]
theorem ztb_ins {M : xM} {s : Int} {es : Nat → Int} {w : Nat} {l : List xTl} {j : Nat} {x : xTl} (hj : j ≤ l.length) (h : ztb M s es w l j) : ztb (zput M (31 * w + j) (s + szT es x) x.1 x.2.1 x.2.2) s es w (insAt l j x) (l.length + 1) := by
  intro t y hy q hq
  obtain ⟨e1, e2, e3, e4, e5⟩ := zput_at M (31 * w + j) (s + szT es x) x.1 x.2.1 x.2.2
  have hlen : (insAt l j x).length = l.length + 1 := by
    unfold insAt
    rw [List.length_append, List.length_cons, List.length_take, List.length_drop]
    omega
  have ht := (List.getElem?_eq_some_iff.mp hy).1
  rw [hlen] at ht
  rw [if_pos ht] at hq
  subst hq
  rw [e1, e2, e3, e4]
  rw [insAt_get hj] at hy
  by_cases c : t = j
  · rw [if_neg (by omega), if_pos c] at hy
    cases hy
    rw [c, xup_at, xup_at, xup_at, xup_at]
    exact ⟨rfl, rfl, rfl, rfl⟩
  · rw [xup_ne (by omega), xup_ne (by omega), xup_ne (by omega), xup_ne (by omega)]
    by_cases c2 : t < j
    · rw [if_pos c2] at hy
      exact h t y hy (31 * w + t) (by rw [if_pos c2])
    · rw [if_neg c2, if_neg c] at hy
      exact h (t - 1) y hy (31 * w + t) (by rw [if_neg (by omega)]; omega)
theorem zput_eq (M : xM) (p : Nat) (s e a b : Int) : xup (xup (xup (xup M 70 (xup (M 70) p s)) 71 (xup (M 71) p e)) 72 (xup (M 72) p a)) 73 (xup (M 73) p b) = zput M p s e a b := rfl
/-- what is known of tails -/
def tlB (x : xTl) : Prop := x.1 ≤ 2 ∧ x.2.1 < 5 ∧ x.2.2 < 5
def esB (es : Nat → Int) : Prop := ∀ i, i < 5 → 0 ≤ es i ∧ es i ≤ 6
theorem szT_rg {es : Nat → Int} {x : xTl} (he : esB es) (hx : tlB x) : 0 ≤ szT es x ∧ szT es x ≤ 12 := by
  obtain ⟨k, a, b⟩ := x
  obtain ⟨h1, h2, h3⟩ := hx
  have a1 := he a h2
  have a2 := he b h3
  rcases k with _ | _ | k <;> simp only [szT] <;> omega
set_option maxRecDepth 100000 in
set_option maxHeartbeats 2000000 in
theorem z_come {M : xM} {Q : Option xV → xM → Prop} {w k a b : Nat} {l : List xTl} (hw : w < 10) (hl : l.length ≤ 30) (hx : tlB (k, a, b)) (hlB : ∀ y, y ∈ l → tlB y) (hs : 0 ≤ M 65 w ∧ M 65 w ≤ 6) (he : esB (M 67)) (h69 : M 69 w = l.length) (ht : ztb M (M 65 w) (M 67) w l l.length)
    (hq : ∀ (j : Nat) (M' : xM), j ≤ l.length → (∀ t y, l[t]? = some y → j ≤ t → ltK (M 67) (k, a, b) y) → (∀ y, j ≠ 0 → l[j - 1]? = some y → ¬ ltK (M 67) (k, a, b) y) → zfr (xup M 69 (xup (M 69) w (l.length + 1 : Nat))) M' w → ztb M' (M 65 w) (M 67) w (insAt l j (k, a, b)) (l.length + 1) → Q none M') : xm 2 m_M_come [xR (some 64), xI (w : Int), xI (k : Int), xI (a : Int), xI (b : Int)] M Q := by
  have hsx := szT_rg he hx
  have hk2 : k ≤ 2 := hx.1
  have ha5 : a < 5 := hx.2.1
  have hb5 : b < 5 := hx.2.2
  have hea := he a ha5
  have heb := he b hb5
  (refine xm_of (own := "DrumTongueModel") rfl (by decide +kernel) tk_M [some (xR (some 64)), some (xI (w : Int)), some (xI (k : Int)), some (xI (a : Int)), some (xI (b : Int)), none, none] (Nat.le_of_ble_eq_true rfl) rfl ?_; intro D nx X C P hW)
  have fin : ∀ (j : Nat) (M' : xM), j ≤ l.length → (∀ t y, l[t]? = some y → j ≤ t → ltK (M 67) (k, a, b) y) → (∀ y, j ≠ 0 → l[j - 1]? = some y → ¬ ltK (M 67) (k, a, b) y) → zfr M M' w → ztb M' (M 65 w) (M 67) w l j → X 149 [some (xR (some 64)), some (xI (w : Int)), some (xI (k : Int)), some (xI (a : Int)), some (xI (b : Int)), some (xI (M 65 w + szT (M 67) (k, a, b))), some (xI ((31 * w + j : Nat) : Int))] [] (M', D, nx) 0 0 := by
    intro j M' hj h1 h2 hf htb
    have hp : 31 * w + j < 310 := by omega
    have h69' : M' 69 w = l.length := by rw [hf.1 69 (by decide) (by decide) (by decide) (by decide)]; exact h69
    have fr := zfr_put (s := M 65 w + szT (M 67) (k, a, b)) (e := (k : Int)) (a := (a : Int)) (b := (b : Int)) hf (show 31 * w ≤ 31 * w + j by omega) (show 31 * w + j < 31 * w + 31 by omega)
    have tb := ztb_ins (x := (k, a, b)) hj htb
    simp only at tb
    generalize hp' : 31 * w + j = p at *
    refine xg hW k_M_come [] 40 ?_
    ((repeat' (first | (with_reducible refine And.intro ?_ ?_) | (intro h0; exact absurd h0 (by decide)) | (intro _) | ((conv => whnf); (first | (with_reducible refine And.intro ?_ ?_) | (intro h0; exact absurd h0 (by decide)) | (intro _))))); (all_goals (try omega)); (all_goals (try exact xnn (by omega))); (all_goals (try exact Nat.le_of_ble_eq_true rfl)); (all_goals (try ((conv => whnf); (first | (refine hW.2.1 _ _ ?_) | (change X _ _ _ _ _ _) | (change C _ _ _ _ _ _ _))))); (all_goals (try simp only [xup_at, xup_ne, xup_up, ne_eq, Nat.reduceEqDiff, not_false_eq_true, Int.toNat_natCast, x_lcmp] at *)); (all_goals (try omega)))
    all_goals rw [zput_eq]
    have e69 : M' 69 = M 69 := hf.1 69 (by decide) (by decide) (by decide) (by decide)
    refine hq j _ hj h1 h2 ⟨fun x x1 x2 x3 x4 => ?_, fun q hq => ?_⟩ ?_
    · by_cases c : x = 69
      · rw [c, xup_at, xup_at, h69', e69]
        rfl
      · rw [xup_ne c, xup_ne c]
        exact fr.1 x x1 x2 x3 x4
    · rw [xup_ne (by decide), xup_ne (by decide), xup_ne (by decide), xup_ne (by decide), xup_ne (by decide), xup_ne (by decide), xup_ne (by decide), xup_ne (by decide)]
      exact fr.2 q hq
    · intro t y hy q hq
      rw [xup_ne (by decide), xup_ne (by decide), xup_ne (by decide), xup_ne (by decide)]
      exact tb t y hy q hq
  have loop : ∀ (j : Nat) (M' : xM), j ≤ l.length → (∀ t y, l[t]? = some y → j ≤ t → ltK (M 67) (k, a, b) y) → zfr M M' w → ztb M' (M 65 w) (M 67) w l j → X 53 [some (xR (some 64)), some (xI (w : Int)), some (xI (k : Int)), some (xI (a : Int)), some (xI (b : Int)), some (xI (M 65 w + szT (M 67) (k, a, b))), some (xI ((31 * w + j : Nat) : Int))] [] (M', D, nx) 0 0 := by
    intro j
    induction j with
    | zero =>
      intro M' hj h1 hf htb
      have h5 := fin 0 M' hj h1 (fun _ q => absurd rfl q) hf htb
      refine xg hW k_M_come [149] 40 ?_
      ((repeat' (first | (with_reducible refine And.intro ?_ ?_) | (intro h0; exact absurd h0 (by decide)) | (intro _) | ((conv => whnf); (first | (with_reducible refine And.intro ?_ ?_) | (intro h0; exact absurd h0 (by decide)) | (intro _))))); (all_goals (try omega)); (all_goals (try exact xnn (by omega))); (all_goals (try exact Nat.le_of_ble_eq_true rfl)); (all_goals (try ((conv => whnf); (first | (refine hW.2.1 _ _ ?_) | (change X _ _ _ _ _ _) | (change C _ _ _ _ _ _ _))))); (all_goals (try simp only [xup_at, xup_ne, xup_up, ne_eq, Nat.reduceEqDiff, not_false_eq_true, Int.toNat_natCast, x_lcmp] at *)); (all_goals (try omega)))
      all_goals exact h5
    | succ j ih =>
      intro M' hj h1 hf htb
      have hlt : j < l.length := by omega
      have hg : l[j]? = some l[j] := List.getElem?_eq_getElem hlt
      have hy := hlB l[j] (List.getElem_mem hlt)
      obtain ⟨e1, e2, e3, e4⟩ := htb j l[j] hg (31 * w + j) (by rw [if_pos (by omega)])
      have hsy := szT_rg he hy
      obtain ⟨y1, y2, y3⟩ := hy
      have hlat : latZ (M' 70 (31 * w + j)) (M' 71 (31 * w + j)) (M' 72 (31 * w + j)) (M' 73 (31 * w + j)) (M 65 w + szT (M 67) (k, a, b)) k a b ↔ ltK (M 67) (k, a, b) l[j] := by
        rw [e1, e2, e3, e4]
        unfold latZ ltK
        simp only
        omega
      have cl : ∀ Q' : Option xV → xM → Prop, (ltK (M 67) (k, a, b) l[j] → Q' (some (xI 1)) M') ∧ (¬ ltK (M 67) (k, a, b) l[j] → Q' (some (xI 0)) M') → xm 1 m_M_isLater [xR (some 64), xI (((31 * w + (j + 1) : Nat) : Int) - 1), xI (M 65 w + szT (M 67) (k, a, b)), xI (k : Int), xI (a : Int), xI (b : Int)] M' Q' := by
        intro Q' h
        rw [← hlat] at h
        rw [show ((31 * w + (j + 1) : Nat) : Int) - 1 = ((31 * w + j : Nat) : Int) by omega]
        exact z_isLater (by omega) (by rw [e1, e2, e3, e4]; unfold xrg; omega) h
      have hno : ¬ ltK (M 67) (k, a, b) l[j] → X 149 [some (xR (some 64)), some (xI (w : Int)), some (xI (k : Int)), some (xI (a : Int)), some (xI (b : Int)), some (xI (M 65 w + szT (M 67) (k, a, b))), some (xI ((31 * w + (j + 1) : Nat) : Int))] [] (M', D, nx) 0 0 := fun q => fin (j + 1) M' hj h1 (fun y _ hy => by
        rw [Nat.add_sub_cancel, hg] at hy
        cases hy
        exact q) hf htb
      have hyes : ltK (M 67) (k, a, b) l[j] → X 53 [some (xR (some 64)), some (xI (w : Int)), some (xI (k : Int)), some (xI (a : Int)), some (xI (b : Int)), some (xI (M 65 w + szT (M 67) (k, a, b))), some (xI ((31 * w + j : Nat) : Int))] [] (zput M' (31 * w + (j + 1)) (M' 70 (31 * w + j)) (M' 71 (31 * w + j)) (M' 72 (31 * w + j)) (M' 73 (31 * w + j)), D, nx) 0 0 := fun q => ih _ (by omega) (fun t y ht hjt => by
        by_cases c : t = j
        · rw [c, hg] at ht
          cases ht
          exact q
        · exact h1 t y ht (by omega)) (zfr_put hf (by omega) (by omega)) (ztb_shift htb)
      clear htb h1 hlat fin ih
      refine xg hW k_M_come [53, 149] 40 ?_
      ((repeat' (first | (with_reducible refine And.intro ?_ ?_) | (intro h0; exact absurd h0 (by decide)) | (intro _) | ((conv => whnf); (first | (with_reducible refine And.intro ?_ ?_) | (intro h0; exact absurd h0 (by decide)) | (intro _) | (refine hW.1 _ _ _ _ _ _ (cl _ ?_) (by first | decide | omega) (by decide) (Nat.le_of_ble_eq_true rfl)))))); (all_goals (try omega)); (all_goals (try exact xnn (by omega))); (all_goals (try exact Nat.le_of_ble_eq_true rfl)); (all_goals (try ((conv => whnf); (first | (refine hW.2.1 _ _ ?_) | (change X _ _ _ _ _ _) | (change C _ _ _ _ _ _ _))))); (all_goals (try simp only [xup_at, xup_ne, xup_up, ne_eq, Nat.reduceEqDiff, not_false_eq_true, Int.toNat_natCast, x_lcmp] at *)); (all_goals (try omega)))
      · rw [show (((31 * w + (j + 1) : Nat) : Int) - 1).toNat = 31 * w + j by omega, show ((31 * w + (j + 1) : Nat) : Int) + -1 = ((31 * w + j : Nat) : Int) by omega, zput_eq]
        exact hyes (by assumption)
      · exact hno (by assumption)
  have h5 := loop l.length M (Nat.le_refl _) (fun t y hy ht => absurd (List.getElem?_eq_some_iff.mp hy).1 (by omega)) ⟨fun _ _ _ _ _ => rfl, fun _ _ => ⟨rfl, rfl, rfl, rfl⟩⟩ ht
  rw [show ((31 * w + l.length : Nat) : Int) = 31 * (w : Int) + M 69 w by omega] at h5
  clear loop fin
  rcases k with _ | _ | _ | k
  · rw [show M 65 w + szT (M 67) (0, a, b) = M 65 w + 0 + 0 by simp only [szT]; omega] at h5
    refine xg hW k_M_come [53] 40 ?_
    ((repeat' (first | (with_reducible refine And.intro ?_ ?_) | (intro h0; exact absurd h0 (by decide)) | (intro _) | ((conv => whnf); (first | (with_reducible refine And.intro ?_ ?_) | (intro h0; exact absurd h0 (by decide)) | (intro _))))); (all_goals (try omega)); (all_goals (try exact xnn (by omega))); (all_goals (try exact Nat.le_of_ble_eq_true rfl)); (all_goals (try ((conv => whnf); (first | (refine hW.2.1 _ _ ?_) | (change X _ _ _ _ _ _) | (change C _ _ _ _ _ _ _))))); (all_goals (try simp only [xup_at, xup_ne, xup_up, ne_eq, Nat.reduceEqDiff, not_false_eq_true, Int.toNat_natCast, x_lcmp] at *)); (all_goals (try omega)))
    all_goals exact h5
  · rw [show M 65 w + szT (M 67) (0 + 1, a, b) = M 65 w + M 67 a + 0 by simp only [szT]; omega] at h5
    refine xg hW k_M_come [53] 40 ?_
    ((repeat' (first | (with_reducible refine And.intro ?_ ?_) | (intro h0; exact absurd h0 (by decide)) | (intro _) | ((conv => whnf); (first | (with_reducible refine And.intro ?_ ?_) | (intro h0; exact absurd h0 (by decide)) | (intro _))))); (all_goals (try omega)); (all_goals (try exact xnn (by omega))); (all_goals (try exact Nat.le_of_ble_eq_true rfl)); (all_goals (try ((conv => whnf); (first | (refine hW.2.1 _ _ ?_) | (change X _ _ _ _ _ _) | (change C _ _ _ _ _ _ _))))); (all_goals (try simp only [xup_at, xup_ne, xup_up, ne_eq, Nat.reduceEqDiff, not_false_eq_true, Int.toNat_natCast, x_lcmp] at *)); (all_goals (try omega)))
    all_goals exact h5
  · rw [show M 65 w + szT (M 67) (0 + 1 + 1, a, b) = M 65 w + M 67 a + M 67 b by simp only [szT]; omega] at h5
    refine xg hW k_M_come [53] 40 ?_
    ((repeat' (first | (with_reducible refine And.intro ?_ ?_) | (intro h0; exact absurd h0 (by decide)) | (intro _) | ((conv => whnf); (first | (with_reducible refine And.intro ?_ ?_) | (intro h0; exact absurd h0 (by decide)) | (intro _))))); (all_goals (try omega)); (all_goals (try exact xnn (by omega))); (all_goals (try exact Nat.le_of_ble_eq_true rfl)); (all_goals (try ((conv => whnf); (first | (refine hW.2.1 _ _ ?_) | (change X _ _ _ _ _ _) | (change C _ _ _ _ _ _ _))))); (all_goals (try simp only [xup_at, xup_ne, xup_up, ne_eq, Nat.reduceEqDiff, not_false_eq_true, Int.toNat_natCast, x_lcmp] at *)); (all_goals (try omega)))
    all_goals exact h5
  · omega
