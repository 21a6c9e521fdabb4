/-! the reference: least -/
theorem lsT_mono {nT : Nat} {S : Nat → Int} {b : Int} {more : Nat → xL → xL} (h : ∀ t st, st.2.1 ≤ (more t st).2.1) : ∀ m st, st.2.1 ≤ (lsT nT S b more m st).2.1
  | 0, st => Int.le_refl _
  | m + 1, st => by
    rw [lsT]
    split
    · exact Int.le_refl _
    · split
      · simp only; omega
      · have h1 := h (nT - (m + 1)) (st.1, st.2.1 + 1, st.2.2)
        have h2 := lsT_mono (nT := nT) (S := S) (b := b) h m (more (nT - (m + 1)) (st.1, st.2.1 + 1, st.2.2))
        simp only at h1
        omega
theorem lsF_mono {nT : Nat} {S N : Nat → Nat → Int} {v : Int} : ∀ (f w : Nat) (row : Nat → Int) (b : Int) (st : xL), st.2.1 ≤ (lsF nT S N v f w row b st).2.1
  | 0, w, row, b, st => by rw [lsF]; exact Int.le_refl _
  | f + 1, w, row, b, st => by
    rw [lsF]
    refine lsT_mono (fun t st => ?_) nT st
    split
    · exact lsF_mono f _ _ _ _
    · exact Int.le_refl _
/-- one level of the search: the last m tails of word w -/
noncomputable def lsL (nT : Nat) (S N : Nat → Nat → Int) (v : Int) (f w : Nat) (row : Nat → Int) (b : Int) (m : Nat) (st : xL) : xL := lsT nT (S w) b (fun t st => if okB S N v row w t = true then lsF nT S N v f (w + 1) (xup row w t) (b + S w t) st else st) m st
theorem lsL_mono {nT : Nat} {S N : Nat → Nat → Int} {v : Int} {f w : Nat} {row : Nat → Int} {b : Int} {m : Nat} {st : xL} : st.2.1 ≤ (lsL nT S N v f w row b m st).2.1 := by
  refine lsT_mono (fun t st => ?_) m st
  split
  · exact lsF_mono f _ _ _ _
  · exact Int.le_refl _
def lzI (M0 M' : xM) (nW w t : Nat) (row : Nat → Int) (b : Int) (st : xL) : Prop := (∀ a, a < 79 ∨ 82 < a → M' a = M0 a) ∧ (∀ j, j < w → M' 79 j = row j) ∧ M' 81 w = b ∧ M' 82 w = (t : Int) ∧ (st.1 = 1000000 ∨ ∀ j, j < nW → M' 80 j = st.2.2 j)
/-- what must hold behind a level -/
def lzK (X : xS) (D : Nat → Option xE) (nx : Nat) (M0 M' : xM) (nW w : Nat) (st : xL) : Prop := ∀ M'' x4 x5, (∀ a, a < 79 ∨ 82 < a → M'' a = M0 a) → (∀ j, j < w → M'' 79 j = M' 79 j ∧ M'' 81 j = M' 81 j ∧ M'' 82 j = M' 82 j) → (st.1 = 1000000 ∨ ∀ j, j < nW → M'' 80 j = st.2.2 j) → 0 ≤ st.1 → st.1 ≤ 1000000 → 0 ≤ st.2.1 → st.2.1 ≤ 20000 → X 34 [some (xR (some 64)), some (xI st.1), some (xI st.2.1), some (xI ((w : Int) - 1)), x4, x5] [] (M'', D, nx) 0 0
/-- and if more were looked at than may be -/
def lzS (Q : Option xV → xM → Prop) (M0 : xM) (st : xL) : Prop := 20000 < st.2.1 → ∀ M'', (∀ a, a < 79 ∨ 82 < a → M'' a = M0 a) → Q (some (xI (-5))) M''
/-- next goes on by one; a phrase is tried -/
def lzN (M : xM) (w t : Nat) : xM := xup M 82 (xup (M 82) w ((t : Int) + 1))
def lzT (M : xM) (w t : Nat) (b : Int) : xM := xup (xup M 79 (xup (M 79) w (t : Int))) 81 (xup (M 81) (w + 1) b)
def lzU (M : xM) (w : Nat) : xM := xup M 82 (xup (M 82) (w + 1) 0)
set_option maxRecDepth 100000 in
set_option maxHeartbeats 4000000 in
theorem z_levS {M0 M' : xM} {Q : Option xV → xM → Prop} {nW nT : Nat} {d : Nat} {D : Nat → Option xE} {nx : Nat} {X : xS} {C : xC} {P : xP} (hd : 4 < d) (hW : xWk d m_M_least tb_M Q D nx X C P) (hz0 : zOk M0) (hnW : M0 3 2 = (nW : Int)) (hnT : M0 10 2 = (nT : Int)) {w t : Nat} (hw : w < nW) (ht : t < nT) {b : Int} {st1 st2 : Int} {x4 x5 : Option xV} (hb : 0 ≤ b ∧ b ≤ 18 * w) (hs1 : 0 ≤ st1 ∧ st1 ≤ 1000000) (hs2 : 0 ≤ st2 ∧ st2 ≤ 20000) (hI : ∀ a, a < 79 ∨ 82 < a → M' a = M0 a) (hrow : ∀ j, j < w → ∃ t : Nat, t < nT ∧ M' 79 j = t) (e81 : M' 81 w = b) (e82 : M' 82 w = (t : Int))
    (hA : st1 ≤ b + pS M0 w t → X 34 [some (xR (some 64)), some (xI st1), some (xI st2), some (xI ((w : Int) - 1)), some (xI (t : Int)), x5] [] (M', D, nx) 0 0)
    (hS : b + pS M0 w t < st1 → 20000 < st2 + 1 → Q (some (xI (-5))) (lzN M' w t))
    (hB : b + pS M0 w t < st1 → st2 + 1 ≤ 20000 → ¬ okP (pS M0) (pN M0) (M0 2 6) (M' 79) w t → X 34 [some (xR (some 64)), some (xI st1), some (xI (st2 + 1)), some (xI (w : Int)), some (xI (t : Int)), x5] [] (lzN M' w t, D, nx) 0 0)
    (hC1 : b + pS M0 w t < st1 → st2 + 1 ≤ 20000 → okP (pS M0) (pN M0) (M0 2 6) (M' 79) w t → w + 1 = nW → X 181 [some (xR (some 64)), some (xI (b + pS M0 w t)), some (xI (st2 + 1)), some (xI (w : Int)), some (xI (t : Int)), some (xI 0)] [] (lzT (lzN M' w t) w t (b + pS M0 w t), D, nx) 0 0)
    (hC2 : b + pS M0 w t < st1 → st2 + 1 ≤ 20000 → okP (pS M0) (pN M0) (M0 2 6) (M' 79) w t → w + 1 < nW → X 34 [some (xR (some 64)), some (xI st1), some (xI (st2 + 1)), some (xI ((w : Int) + 1)), some (xI (t : Int)), x5] [] (lzU (lzT (lzN M' w t) w t (b + pS M0 w t)) w, D, nx) 0 0) : X 34 [some (xR (some 64)), some (xI st1), some (xI st2), some (xI (w : Int)), x4, x5] [] (M', D, nx) 0 0 := by
  have w10 := hz0.1.2.1
  have t31 := hz0.2.2.1.2.1
  have ht69 : M' 69 w = (nT : Int) := by
    rw [hI 69 (by omega), (hz0.2.2.2.2.2.1 w (by omega)).1, ← hz0.2.2.2.1.1, hnT]
  obtain ⟨-, -, -, e70, -⟩ := tab_at hz0.2.1 hz0.2.2.2.1 hz0.2.2.2.2.2.1 (w := w) (t := t) (by omega) (by omega)
  rw [show 31 * w + t = (31 * (w : Int) + M' 82 w).toNat by omega, ← hI 70 (by omega)] at e70
  obtain ⟨p0, -, p2, -, -⟩ := pB hz0.1 hz0.2.2.1 (w := w) (t := t) (by omega) (by omega)
  have cf : ∀ Q' : Option xV → xM → Prop, (okP (pS M0) (pN M0) (M0 2 6) (M' 79) w t → Q' (some (xI 1)) (lzN M' w t)) ∧ (¬ okP (pS M0) (pN M0) (M0 2 6) (M' 79) w t → Q' (some (xI 0)) (lzN M' w t)) → xm 4 m_M_isFree [xR (some 64), xI (w : Int), xI (t : Int), xR (some 79)] (lzN M' w t) Q' := by
    intro Q' h
    have fr : ∀ a, a < 79 → lzN M' w t a = M0 a := fun a ha => by unfold lzN; rw [xup_ne (by omega)]; exact hI a (by omega)
    have ps : pS (lzN M' w t) = pS M0 := by funext u t'; exact pS_of (fun a ha => fr a (by omega)) u t'
    have pn : pN (lzN M' w t) = pN M0 := by funext u t'; exact pN_of (fun a ha => fr a (by omega)) u t'
    have e79 : lzN M' w t 79 = M' 79 := by unfold lzN; rw [xup_ne (by omega)]
    refine z_isFree (r := 79) rfl (zOk_fr (fun a ha => fr a (by omega)) hz0) (by rw [fr 3 (by omega), hnW]; omega) (by rw [fr 10 (by omega), hnT]; omega) (fun v hv => ?_) (by rw [ps, pn, fr 2 (by omega), e79]; exact h)
    rw [e79, fr 10 (by omega)]
    obtain ⟨q, q1, q2⟩ := hrow v hv
    exact Or.inr ⟨q, by omega, q2⟩
  have e640 : M' 64 0 = (nW : Int) := by
    rw [hI 64 (by omega), hz0.2.2.2.2.1.1]; exact hnW
  unfold lzU at hC2
  unfold lzT at hC1 hC2
  unfold lzN at cf hS hB hC1 hC2
  rw [← e82] at cf hA hS hB hC1 hC2
  generalize okP (pS M0) (pN M0) (M0 2 6) (M' 79) w t = A at *
  generalize pS M0 w t = s at *
  clear hI hrow hz0
  have ew : ((w : Int) + 1).toNat = w + 1 := by omega
  refine xg hW k_M_least [34, 181] 40 ?_
  ((repeat' (first | (with_reducible refine And.intro ?_ ?_) | (intro h0; exact absurd h0 (by decide)) | (intro h0; exact absurd rfl h0) | (intro h0; exfalso; clear hW; omega) | (intro _) | ((conv => whnf); (first | (with_reducible refine And.intro ?_ ?_) | (intro h0; exact absurd h0 (by decide)) | (intro h0; exact absurd rfl h0) | (intro h0; exfalso; clear hW; omega) | (intro _))))); (all_goals (try omega)); (all_goals (try exact xnn (by omega))); (all_goals (try exact Nat.le_of_ble_eq_true rfl)); (all_goals (try ((conv => whnf); (first | (refine hW.2.1 _ _ ?_) | (change X _ _ _ _ _ _) | (change C _ _ _ _ _ _ _))))); (all_goals (try simp only [xup_at, xup_ne, xup_up, ne_eq, Nat.reduceEqDiff, not_false_eq_true, Int.toNat_natCast, x_lcmp] at *)); (all_goals (try omega)))
  · have c1 : b + s < st1 := by omega
    refine hW.1 _ _ _ _ _ _ (cf _ ⟨fun hA => ?_, fun hA => ?_⟩) (by omega) (by decide) (Nat.le_of_ble_eq_true rfl)
    · replace hC1 := hC1 c1 (by omega) hA
      replace hC2 := hC2 c1 (by omega) hA
      clear cf hB hS
      ((repeat' (first | (with_reducible refine And.intro ?_ ?_) | (intro h0; exact absurd h0 (by decide)) | (intro h0; exact absurd rfl h0) | (intro h0; exfalso; clear hW; omega) | (intro _) | ((conv => whnf); (first | (with_reducible refine And.intro ?_ ?_) | (intro h0; exact absurd h0 (by decide)) | (intro h0; exact absurd rfl h0) | (intro h0; exfalso; clear hW; omega) | (intro _))))); (all_goals (try omega)); (all_goals (try exact xnn (by omega))); (all_goals (try exact Nat.le_of_ble_eq_true rfl)); (all_goals (try ((conv => whnf); (first | (refine hW.2.1 _ _ ?_) | (change X _ _ _ _ _ _) | (change C _ _ _ _ _ _ _))))); (all_goals (try simp only [xup_at, xup_ne, xup_up, ne_eq, Nat.reduceEqDiff, not_false_eq_true, Int.toNat_natCast, x_lcmp] at *)); (all_goals (try omega)))
      · rw [ew, e81, e70]
        exact hC2 (by omega)
      · rw [show (M' 64 0).toNat = w + 1 by omega, ew, xup_at, e81, e70]
        exact hC1 (by omega)
    · replace hB := hB c1 (by omega) hA
      clear cf hC1 hC2 hS
      ((repeat' (first | (with_reducible refine And.intro ?_ ?_) | (intro h0; exact absurd h0 (by decide)) | (intro h0; exact absurd rfl h0) | (intro h0; exfalso; clear hW; omega) | (intro _) | ((conv => whnf); (first | (with_reducible refine And.intro ?_ ?_) | (intro h0; exact absurd h0 (by decide)) | (intro h0; exact absurd rfl h0) | (intro h0; exfalso; clear hW; omega) | (intro _))))); (all_goals (try omega)); (all_goals (try exact xnn (by omega))); (all_goals (try exact Nat.le_of_ble_eq_true rfl)); (all_goals (try ((conv => whnf); (first | (refine hW.2.1 _ _ ?_) | (change X _ _ _ _ _ _) | (change C _ _ _ _ _ _ _))))); (all_goals (try simp only [xup_at, xup_ne, xup_up, ne_eq, Nat.reduceEqDiff, not_false_eq_true, Int.toNat_natCast, x_lcmp] at *)); (all_goals (try omega)))
      exact hB
  · exact hS (by omega) (by omega)
  · exact hA (by omega)
set_option maxRecDepth 100000 in
set_option maxHeartbeats 600000 in
theorem z_levE {M0 M' : xM} {Q : Option xV → xM → Prop} {nW nT : Nat} {d : Nat} {D : Nat → Option xE} {nx : Nat} {X : xS} {C : xC} {P : xP} (hW : xWk d m_M_least tb_M Q D nx X C P) (hz0 : zOk M0) (hnT : M0 10 2 = (nT : Int)) (hnW : M0 3 2 = (nW : Int)) {w : Nat} (hw : w < nW) {s1 s2 : Int} {x4 x5 : Option xV} (hI : ∀ a, a < 79 ∨ 82 < a → M' a = M0 a) (e82 : M' 82 w = ((nT - 0 : Nat) : Int)) (h : ∀ x4, X 34 [some (xR (some 64)), some (xI s1), some (xI s2), some (xI ((w : Int) - 1)), x4, x5] [] (M', D, nx) 0 0) : X 34 [some (xR (some 64)), some (xI s1), some (xI s2), some (xI (w : Int)), x4, x5] [] (M', D, nx) 0 0 := by
  have w10 := hz0.1.2.1
  have t31 := hz0.2.2.1.2.1
  have ht69 : M' 69 w = (nT : Int) := by
    rw [hI 69 (by omega), (hz0.2.2.2.2.2.1 w (by omega)).1, ← hz0.2.2.2.1.1, hnT]
  rw [Nat.sub_zero] at e82
  have h5 := h (some (xI (M' 82 w)))
  clear h hI hz0
  refine xg hW k_M_least [34] 40 ?_
  ((repeat' (first | (with_reducible refine And.intro ?_ ?_) | (intro h0; exact absurd h0 (by decide)) | (intro h0; exact absurd rfl h0) | (intro h0; exfalso; clear hW; omega) | (intro _) | ((conv => whnf); (first | (with_reducible refine And.intro ?_ ?_) | (intro h0; exact absurd h0 (by decide)) | (intro h0; exact absurd rfl h0) | (intro h0; exfalso; clear hW; omega) | (intro _))))); (all_goals (try omega)); (all_goals (try exact xnn (by omega))); (all_goals (try exact Nat.le_of_ble_eq_true rfl)); (all_goals (try ((conv => whnf); (first | (refine hW.2.1 _ _ ?_) | (change X _ _ _ _ _ _) | (change C _ _ _ _ _ _ _))))); (all_goals (try simp only [xup_at, xup_ne, xup_up, ne_eq, Nat.reduceEqDiff, not_false_eq_true, Int.toNat_natCast, x_lcmp] at *)); (all_goals (try omega)))
  all_goals exact h5
set_option maxRecDepth 100000 in
set_option maxHeartbeats 600000 in
theorem z_cpy {M' : xM} {Q : Option xV → xM → Prop} {nW : Nat} {d : Nat} {D : Nat → Option xE} {nx : Nat} {X : xS} {C : xC} {P : xP} (hW : xWk d m_M_least tb_M Q D nx X C P) (hn10 : nW ≤ 10) (e64 : M' 64 0 = (nW : Int)) {b l w p : Int} (h : ∀ x5, X 34 [some (xR (some 64)), some (xI b), some (xI l), some (xI w), some (xI p), x5] [] (xup M' 80 (fun j => if j < nW then M' 79 j else M' 80 j), D, nx) 0 0) : X 181 [some (xR (some 64)), some (xI b), some (xI l), some (xI w), some (xI p), some (xI 0)] [] (M', D, nx) 0 0 := by
  have loop : ∀ (m k : Nat), k + m = nW → X 181 [some (xR (some 64)), some (xI b), some (xI l), some (xI w), some (xI p), some (xI (k : Int))] [] (xup M' 80 (fun j => if j < k then M' 79 j else M' 80 j), D, nx) 0 0 := by
    intro m
    induction m with
    | zero =>
      intro k hk
      obtain rfl : k = nW := by omega
      have h5 := h (some (xI (k : Int)))
      clear h
      refine xg hW k_M_least [34, 181] 40 ?_
      ((repeat' (first | (with_reducible refine And.intro ?_ ?_) | (intro h0; exact absurd h0 (by decide)) | (intro h0; exact absurd rfl h0) | (intro h0; exfalso; clear hW; omega) | (intro _) | ((conv => whnf); (first | (with_reducible refine And.intro ?_ ?_) | (intro h0; exact absurd h0 (by decide)) | (intro h0; exact absurd rfl h0) | (intro h0; exfalso; clear hW; omega) | (intro _))))); (all_goals (try omega)); (all_goals (try exact xnn (by omega))); (all_goals (try exact Nat.le_of_ble_eq_true rfl)); (all_goals (try ((conv => whnf); (first | (refine hW.2.1 _ _ ?_) | (change X _ _ _ _ _ _) | (change C _ _ _ _ _ _ _))))); (all_goals (try simp only [xup_at, xup_ne, xup_up, ne_eq, Nat.reduceEqDiff, not_false_eq_true, Int.toNat_natCast, x_lcmp] at *)); (all_goals (try omega)))
      all_goals exact h5
    | succ m ih =>
      intro k hk
      have h5 := ih (k + 1) (by omega)
      have e : xup (fun j => if j < k then M' 79 j else M' 80 j) k (M' 79 k) = fun j => if j < k + 1 then M' 79 j else M' 80 j := by
        funext j
        by_cases q : j = k
        · rw [q, xup_at, if_pos (by omega)]
        · rw [xup_ne q]
          by_cases q2 : j < k
          · rw [if_pos q2, if_pos (by omega)]
          · rw [if_neg q2, if_neg (by omega)]
      clear h ih
      refine xg hW k_M_least [34, 181] 40 ?_
      ((repeat' (first | (with_reducible refine And.intro ?_ ?_) | (intro h0; exact absurd h0 (by decide)) | (intro h0; exact absurd rfl h0) | (intro h0; exfalso; clear hW; omega) | (intro _) | ((conv => whnf); (first | (with_reducible refine And.intro ?_ ?_) | (intro h0; exact absurd h0 (by decide)) | (intro h0; exact absurd rfl h0) | (intro h0; exfalso; clear hW; omega) | (intro _))))); (all_goals (try omega)); (all_goals (try exact xnn (by omega))); (all_goals (try exact Nat.le_of_ble_eq_true rfl)); (all_goals (try ((conv => whnf); (first | (refine hW.2.1 _ _ ?_) | (change X _ _ _ _ _ _) | (change C _ _ _ _ _ _ _))))); (all_goals (try simp only [xup_at, xup_ne, xup_up, ne_eq, Nat.reduceEqDiff, not_false_eq_true, Int.toNat_natCast, x_lcmp] at *)); (all_goals (try omega)))
      rw [e]
      all_goals exact h5
  have h0 := loop nW 0 (by omega)
  have e : (fun j => if j < 0 then M' 79 j else M' 80 j) = M' 80 := by
    funext j
    rw [if_neg (by omega)]
  rw [e, xup_id] at h0
  exact h0
theorem lsL_s {nT : Nat} {S N : Nat → Nat → Int} {v : Int} {f w : Nat} {row : Nat → Int} {b : Int} {m : Nat} {st : xL} : lsL nT S N v f w row b (m + 1) st = if st.1 ≤ b + S w (nT - (m + 1)) then st else if 20000 < st.2.1 + 1 then (st.1, st.2.1 + 1, st.2.2) else lsL nT S N v f w row b m (if okB S N v row w (nT - (m + 1)) = true then lsF nT S N v f (w + 1) (xup row w (nT - (m + 1) : Nat)) (b + S w (nT - (m + 1))) (st.1, st.2.1 + 1, st.2.2) else (st.1, st.2.1 + 1, st.2.2)) := by
  unfold lsL
  rw [lsT]
theorem lzK_of {X : xS} {D : Nat → Option xE} {nx : Nat} {M0 M1 M2 : xM} {nW w : Nat} {st : xL} (h : lzK X D nx M0 M1 nW w st) (e : ∀ j, j < w → M2 79 j = M1 79 j ∧ M2 81 j = M1 81 j ∧ M2 82 j = M1 82 j) : lzK X D nx M0 M2 nW w st := fun M'' x4 x5 f1 f2 f3 f4 f5 f6 f7 => h M'' x4 x5 f1 (fun j hj => by
    obtain ⟨a, b, c⟩ := f2 j hj
    obtain ⟨a', b', c'⟩ := e j hj
    exact ⟨a.trans a', b.trans b', c.trans c'⟩) f3 f4 f5 f6 f7
theorem z_lev {M0 : xM} {Q : Option xV → xM → Prop} {nW nT : Nat} {d : Nat} {D : Nat → Option xE} {nx : Nat} {X : xS} {C : xC} {P : xP} (hd : 4 < d) (hW : xWk d m_M_least tb_M Q D nx X C P) (hz0 : zOk M0) (hnW : M0 3 2 = (nW : Int)) (hnT : M0 10 2 = (nT : Int)) : ∀ (f w : Nat), w + f + 1 = nW → ∀ (m : Nat) (M' : xM) (row : Nat → Int) (b : Int) (st : xL) (x4 x5 : Option xV), m ≤ nT → 0 ≤ b → b ≤ 18 * w → 0 ≤ st.1 → st.1 ≤ 1000000 → 0 ≤ st.2.1 → st.2.1 ≤ 20000 → (∀ j, j < w → ∃ t : Nat, t < nT ∧ row j = t) → lzI M0 M' nW w (nT - m) row b st → lzS Q M0 (lsL nT (pS M0) (pN M0) (M0 2 6) f w row b m st) → lzK X D nx M0 M' nW w (lsL nT (pS M0) (pN M0) (M0 2 6) f w row b m st) → X 34 [some (xR (some 64)), some (xI st.1), some (xI st.2.1), some (xI (w : Int)), x4, x5] [] (M', D, nx) 0 0 := by
  have w10 := hz0.1.2.1
  have t31 := hz0.2.2.1.2.1
  intro f
  induction f with
  | zero =>
    intro w hwf m
    induction m with
    | zero =>
      intro M' row b st x4 x5 hm hb hb2 s1 s2 l1 l2 hrow hI hS hK
      exact z_levE hW hz0 hnT hnW (by omega) hI.1 hI.2.2.2.1 (fun x4 => hK M' x4 x5 hI.1 (fun _ _ => ⟨rfl, rfl, rfl⟩) hI.2.2.2.2 s1 s2 l1 l2)
    | succ m ihm =>
      intro M' row b st x4 x5 hm hb hb2 s1 s2 l1 l2 hrow hI hS hK
      obtain ⟨t, ht⟩ : ∃ t, t = nT - (m + 1) := ⟨_, rfl⟩
      have htm : nT - m = t + 1 := by omega
      rw [lsL_s, ← ht] at hS hK
      obtain ⟨i1, i2, i3, i4, i5⟩ := hI
      rw [← ht] at i4
      obtain ⟨-, -, p2, -, -⟩ := pB hz0.1 hz0.2.2.1 (w := w) (t := t) (by omega) (by omega)
      have p1 := (pB hz0.1 hz0.2.2.1 (w := w) (t := t) (by omega) (by omega)).1
      have eok : okP (pS M0) (pN M0) (M0 2 6) (M' 79) w t ↔ okB (pS M0) (pN M0) (M0 2 6) row w t = true := by
        rw [okB_iff]
        exact okP_congr i2
      refine z_levS hd hW hz0 hnW hnT (by omega) (by omega) ⟨hb, hb2⟩ ⟨s1, s2⟩ ⟨l1, l2⟩ i1 (fun j hj => by rw [i2 j hj]; exact hrow j hj) i3 i4 (fun hA => ?_) (fun h1 h2 => ?_) (fun h1 h2 h3 => ?_) (fun h1 h2 h3 h4 => ?_) (fun h1 h2 h3 h4 => absurd h4 (by omega))
      · rw [if_pos hA] at hK
        exact hK M' _ x5 i1 (fun _ _ => ⟨rfl, rfl, rfl⟩) i5 s1 s2 l1 l2
      · rw [if_neg (by omega), if_pos h2] at hS
        exact hS h2 _ (fun a ha => by unfold lzN; rw [xup_ne (by omega)]; exact i1 a ha)
      · rw [if_neg (by omega), if_neg (by omega), if_neg (fun q => h3 (eok.mpr q))] at hS hK
        refine ihm (lzN M' w t) row b (st.1, st.2.1 + 1, st.2.2) _ x5 (by omega) hb hb2 s1 s2 (by simp only; omega) (by simp only; omega) hrow ?_ hS (lzK_of hK (fun j hj => ?_))
        · unfold lzN
          refine ⟨fun a ha => by rw [xup_ne (by omega)]; exact i1 a ha, fun j hj => by rw [xup_ne (by decide)]; exact i2 j hj, by rw [xup_ne (by decide)]; exact i3, by rw [xup_at, xup_at, htm]; rfl, ?_⟩
          rw [xup_ne (by decide)]
          exact i5
        · unfold lzN
          rw [xup_ne (by decide), xup_ne (by decide), xup_at, xup_ne (by omega)]
          exact ⟨rfl, rfl, rfl⟩
      · rw [if_neg (by omega), if_neg (by omega), if_pos (eok.mp h3), lsF] at hS hK
        refine z_cpy (nW := nW) hW (by omega) (by unfold lzT lzN; rw [xup_ne (by decide), xup_ne (by decide), xup_ne (by decide), i1 64 (by omega), hz0.2.2.2.2.1.1]; exact hnW) fun x5 => ?_
        refine ihm _ row b (b + pS M0 w t, st.2.1 + 1, xup row w (t : Int)) _ x5 (by omega) hb hb2 (by simp only; omega) (by simp only; omega) (by simp only; omega) (by simp only; omega) hrow ?_ hS (lzK_of hK (fun j hj => ?_))
        · unfold lzT lzN
          refine ⟨fun a ha => ?_, fun j hj => ?_, ?_, ?_, Or.inr fun j hj => ?_⟩
          · rw [xup_ne (by omega), xup_ne (by omega), xup_ne (by omega), xup_ne (by omega)]; exact i1 a ha
          · rw [xup_ne (by decide), xup_ne (by decide), xup_at, xup_ne (by omega), xup_ne (by decide)]; exact i2 j hj
          · rw [xup_ne (by decide), xup_at, xup_ne (by omega), xup_ne (by decide)]; exact i3
          · rw [xup_ne (by decide), xup_ne (by decide), xup_ne (by decide), xup_at, xup_at, htm]; rfl
          · rw [xup_at]
            simp only [if_pos hj]
            rw [xup_ne (by decide), xup_at]
            by_cases q : j = w
            · rw [q, xup_at, xup_at]
            · rw [xup_ne q, xup_ne q, xup_ne (by decide)]; exact i2 j (by omega)
        · unfold lzT lzN
          rw [xup_ne (by decide), xup_ne (by decide), xup_at, xup_ne (by omega), xup_ne (by decide), xup_ne (by decide), xup_at, xup_ne (by omega), xup_ne (by decide), xup_ne (by decide), xup_ne (by decide), xup_ne (by decide), xup_at, xup_ne (by omega)]
          exact ⟨rfl, rfl, rfl⟩
  | succ f ih =>
    intro w hwf m
    induction m with
    | zero =>
      intro M' row b st x4 x5 hm hb hb2 s1 s2 l1 l2 hrow hI hS hK
      exact z_levE hW hz0 hnT hnW (by omega) hI.1 hI.2.2.2.1 (fun x4 => hK M' x4 x5 hI.1 (fun _ _ => ⟨rfl, rfl, rfl⟩) hI.2.2.2.2 s1 s2 l1 l2)
    | succ m ihm =>
      intro M' row b st x4 x5 hm hb hb2 s1 s2 l1 l2 hrow hI hS hK
      obtain ⟨t, ht⟩ : ∃ t, t = nT - (m + 1) := ⟨_, rfl⟩
      have htm : nT - m = t + 1 := by omega
      rw [lsL_s, ← ht] at hS hK
      obtain ⟨i1, i2, i3, i4, i5⟩ := hI
      rw [← ht] at i4
      obtain ⟨-, -, p2, -, -⟩ := pB hz0.1 hz0.2.2.1 (w := w) (t := t) (by omega) (by omega)
      have p1 := (pB hz0.1 hz0.2.2.1 (w := w) (t := t) (by omega) (by omega)).1
      have eok : okP (pS M0) (pN M0) (M0 2 6) (M' 79) w t ↔ okB (pS M0) (pN M0) (M0 2 6) row w t = true := by
        rw [okB_iff]
        exact okP_congr i2
      refine z_levS hd hW hz0 hnW hnT (by omega) (by omega) ⟨hb, hb2⟩ ⟨s1, s2⟩ ⟨l1, l2⟩ i1 (fun j hj => by rw [i2 j hj]; exact hrow j hj) i3 i4 (fun hA => ?_) (fun h1 h2 => ?_) (fun h1 h2 h3 => ?_) (fun h1 h2 h3 h4 => absurd h4 (by omega)) (fun h1 h2 h3 h4 => ?_)
      · rw [if_pos hA] at hK
        exact hK M' _ x5 i1 (fun _ _ => ⟨rfl, rfl, rfl⟩) i5 s1 s2 l1 l2
      · rw [if_neg (by omega), if_pos h2] at hS
        exact hS h2 _ (fun a ha => by unfold lzN; rw [xup_ne (by omega)]; exact i1 a ha)
      · rw [if_neg (by omega), if_neg (by omega), if_neg (fun q => h3 (eok.mpr q))] at hS hK
        refine ihm (lzN M' w t) row b (st.1, st.2.1 + 1, st.2.2) _ x5 (by omega) hb hb2 s1 s2 (by simp only; omega) (by simp only; omega) hrow ?_ hS (lzK_of hK (fun j hj => ?_))
        · unfold lzN
          refine ⟨fun a ha => by rw [xup_ne (by omega)]; exact i1 a ha, fun j hj => by rw [xup_ne (by decide)]; exact i2 j hj, by rw [xup_ne (by decide)]; exact i3, by rw [xup_at, xup_at, htm]; rfl, ?_⟩
          rw [xup_ne (by decide)]
          exact i5
        · unfold lzN
          rw [xup_ne (by decide), xup_ne (by decide), xup_at, xup_ne (by omega)]
          exact ⟨rfl, rfl, rfl⟩
      · rw [if_neg (by omega), if_neg (by omega), if_pos (eok.mp h3)] at hS hK
        have eF : lsF nT (pS M0) (pN M0) (M0 2 6) (f + 1) (w + 1) (xup row w (t : Int)) (b + pS M0 w t) (st.1, st.2.1 + 1, st.2.2) = lsL nT (pS M0) (pN M0) (M0 2 6) f (w + 1) (xup row w (t : Int)) (b + pS M0 w t) nT (st.1, st.2.1 + 1, st.2.2) := rfl
        rw [eF] at hS hK
        have hmono := lsL_mono (nT := nT) (S := pS M0) (N := pN M0) (v := M0 2 6) (f := f + 1) (w := w) (row := row) (b := b) (m := m) (st := lsL nT (pS M0) (pN M0) (M0 2 6) f (w + 1) (xup row w (t : Int)) (b + pS M0 w t) nT (st.1, st.2.1 + 1, st.2.2))
        have u82 : lzU (lzT (lzN M' w t) w t (b + pS M0 w t)) w 82 = xup (xup (M' 82) w ((t : Int) + 1)) (w + 1) 0 := by
          unfold lzU lzT lzN
          rw [xup_at, xup_ne (by decide), xup_ne (by decide), xup_at]
        have u81 : lzU (lzT (lzN M' w t) w t (b + pS M0 w t)) w 81 = xup (M' 81) (w + 1) (b + pS M0 w t) := by
          unfold lzU lzT lzN
          rw [xup_ne (by decide), xup_at, xup_ne (by decide)]
        have u80 : lzU (lzT (lzN M' w t) w t (b + pS M0 w t)) w 80 = M' 80 := by
          unfold lzU lzT lzN
          rw [xup_ne (by decide), xup_ne (by decide), xup_ne (by decide), xup_ne (by decide)]
        have u79 : lzU (lzT (lzN M' w t) w t (b + pS M0 w t)) w 79 = xup (M' 79) w (t : Int) := by
          unfold lzU lzT lzN
          rw [xup_ne (by decide), xup_ne (by decide), xup_at, xup_ne (by decide)]
        have ufr : ∀ a, a < 79 ∨ 82 < a → lzU (lzT (lzN M' w t) w t (b + pS M0 w t)) w a = M0 a := fun a ha => by
          unfold lzU lzT lzN
          rw [xup_ne (by omega), xup_ne (by omega), xup_ne (by omega), xup_ne (by omega)]
          exact i1 a ha
        generalize lzU (lzT (lzN M' w t) w t (b + pS M0 w t)) w = MU at *
        refine ih (w + 1) (by omega) nT MU (xup row w (t : Int)) (b + pS M0 w t) (st.1, st.2.1 + 1, st.2.2) _ x5 (Nat.le_refl _) (by omega) (by omega) s1 s2 (by simp only; omega) (by simp only; omega) (fun j hj => ?_) ⟨ufr, fun j hj => ?_, ?_, ?_, ?_⟩ (fun q => hS (by omega)) ?_
        · by_cases q : j = w
          · exact ⟨t, by omega, by rw [q, xup_at]⟩
          · rw [xup_ne q]; exact hrow j (by omega)
        · rw [u79]
          by_cases q : j = w
          · rw [q, xup_at, xup_at]
          · rw [xup_ne q, xup_ne q]; exact i2 j (by omega)
        · rw [u81, xup_at]
        · rw [u82, xup_at, Nat.sub_self]; rfl
        · rw [u80]; exact i5
        · intro M'' y4 y5 f1 f2 f3 f4 f5 f6 f7
          rw [show ((w + 1 : Nat) : Int) - 1 = (w : Int) by omega]
          generalize lsL nT (pS M0) (pN M0) (M0 2 6) f (w + 1) (xup row w (t : Int)) (b + pS M0 w t) nT (st.1, st.2.1 + 1, st.2.2) = st' at *
          refine ihm M'' row b st' y4 y5 (by omega) hb hb2 f4 f5 f6 f7 hrow ⟨f1, fun j hj => ?_, ?_, ?_, f3⟩ hS (lzK_of hK (fun j hj => ?_))
          · rw [(f2 j (by omega)).1, u79, xup_ne (by omega)]; exact i2 j hj
          · rw [(f2 w (by omega)).2.1, u81, xup_ne (by omega)]; exact i3
          · rw [(f2 w (by omega)).2.2, u82, xup_ne (by omega), xup_at, htm]; rfl
          · obtain ⟨a, b, c⟩ := f2 j (by omega)
            rw [a, b, c, u79, u81, u82, xup_ne (by omega), xup_ne (by omega), xup_ne (by omega), xup_ne (by omega)]
            exact ⟨rfl, rfl, rfl⟩
set_option maxRecDepth 100000 in
set_option maxHeartbeats 2000000 in
theorem z_least {M : xM} {Q : Option xV → xM → Prop} (hz : zPre M) (h0 : M 3 2 = 0 → Q (some (xI 0)) M) (h1 : 0 < M 3 2 → 20000 < (lsM M).2.1 → ∀ M', (∀ a, a < 69 ∨ 73 < a ∧ a < 79 ∨ 82 < a → M' a = M a) → tabZ M' → Q (some (xI (-5))) M') (h2 : 0 < M 3 2 → (lsM M).2.1 ≤ 20000 → (lsM M).1 = 1000000 → ∀ M', (∀ a, a < 69 ∨ 73 < a ∧ a < 79 ∨ 82 < a → M' a = M a) → tabZ M' → Q (some (xI (-1))) M') (h3 : 0 < M 3 2 → (lsM M).2.1 ≤ 20000 → (lsM M).1 ≠ 1000000 → ∀ M', (∀ a, a < 69 ∨ 74 < a ∧ a < 79 ∨ 82 < a → M' a = M a) → tabZ M' → (∀ j, j < (M 3 2).toNat → M' 74 j = (lsM M).2.2 j) → (∀ j, (M 3 2).toNat ≤ j → M' 74 j = M 74 j) → Q (some (xI (lsM M).1)) M') : xm 5 m_M_least [xR (some 64)] M Q := by
  obtain ⟨nW, hWn⟩ := Int.eq_ofNat_of_zero_le hz.1.1
  have hW10 := hz.1.2.1
  have htb := tbOk_tl hz.2.1 hz.2.2.1
  obtain ⟨nT, hnT⟩ := Int.eq_ofNat_of_zero_le (show 0 ≤ M 10 2 by have := htb.1; omega)
  have t31 := htb.2.1
  have e640 : M 64 0 = (nW : Int) := by rw [hz.2.2.2.1.1]; exact hWn
  by_cases hz0 : nW = 0
  · have h5 := h0 (by omega)
    clear h0 h1 h2 h3 hz
    (refine xm_of (own := "DrumTongueModel") rfl (by decide +kernel) tk_M [some (xR (some 64)), none, none, none, none, none] (Nat.le_of_ble_eq_true rfl) rfl ?_; intro D nx X C P hW)
    refine xg hW k_M_least [34] 40 ?_
    ((repeat' (first | (with_reducible refine And.intro ?_ ?_) | (intro h0; exact absurd h0 (by decide)) | (intro h0; exact absurd rfl h0) | (intro h0; exfalso; clear hW; omega) | (intro _) | ((conv => whnf); (first | (with_reducible refine And.intro ?_ ?_) | (intro h0; exact absurd h0 (by decide)) | (intro h0; exact absurd rfl h0) | (intro h0; exfalso; clear hW; omega) | (intro _))))); (all_goals (try omega)); (all_goals (try exact xnn (by omega))); (all_goals (try exact Nat.le_of_ble_eq_true rfl)); (all_goals (try ((conv => whnf); (first | (refine hW.2.1 _ _ ?_) | (change X _ _ _ _ _ _) | (change C _ _ _ _ _ _ _))))); (all_goals (try simp only [xup_at, xup_ne, xup_up, ne_eq, Nat.reduceEqDiff, not_false_eq_true, Int.toNat_natCast, x_lcmp] at *)); (all_goals (try omega)))
    all_goals exact h5
  obtain ⟨f, hf⟩ : ∃ f, nW = f + 1 := ⟨nW - 1, by omega⟩
  have hR : lsM M = lsL nT (pS M) (pN M) (M 2 6) f 0 (fun _ => 0) 0 nT (1000000, 0, fun _ => 0) := by
    unfold lsM lsR
    rw [hWn, hnT, Int.toNat_natCast, Int.toNat_natCast, hf]
    rfl
  rw [hWn, Int.toNat_natCast] at h3
  replace h1 := h1 (by omega)
  replace h2 := h2 (by omega)
  replace h3 := h3 (by omega)
  generalize lsM M = R at *
  (refine xm_of (own := "DrumTongueModel") rfl (by decide +kernel) tk_M [some (xR (some 64)), none, none, none, none, none] (Nat.le_of_ble_eq_true rfl) rfl ?_; intro D nx X C P hW)
  have last : ∀ (m k : Nat) (M' : xM), k + m = nW → R.1 ≠ 1000000 → R.2.1 ≤ 20000 → (∀ a, a < 69 ∨ 74 < a ∧ a < 79 ∨ 82 < a → M' a = M a) → tabZ M' → (∀ j, j < nW → M' 80 j = R.2.2 j) → (∀ j, j < k → M' 74 j = R.2.2 j) → (∀ j, k ≤ j → M' 74 j = M 74 j) → ∀ l (x3 : Int) x5, X 237 [some (xR (some 64)), some (xI R.1), l, some (xI x3), some (xI (k : Int)), x5] [] (M', D, nx) 0 0 := by
    intro m
    induction m with
    | zero =>
      intro k M' hk r1 r2 fr ht e80 e74 e74' l x3 x5
      obtain rfl : k = nW := by omega
      have e64 : M' 64 0 = (k : Int) := by rw [fr 64 (by omega)]; exact e640
      have h5 := h3 r2 r1 M' fr ht e74 e74'
      clear h0 h1 h2 h3 hz hR ht
      refine xg hW k_M_least [237] 40 ?_
      ((repeat' (first | (with_reducible refine And.intro ?_ ?_) | (intro h0; exact absurd h0 (by decide)) | (intro h0; exact absurd rfl h0) | (intro h0; exfalso; clear hW; omega) | (intro _) | ((conv => whnf); (first | (with_reducible refine And.intro ?_ ?_) | (intro h0; exact absurd h0 (by decide)) | (intro h0; exact absurd rfl h0) | (intro h0; exfalso; clear hW; omega) | (intro _))))); (all_goals (try omega)); (all_goals (try exact xnn (by omega))); (all_goals (try exact Nat.le_of_ble_eq_true rfl)); (all_goals (try ((conv => whnf); (first | (refine hW.2.1 _ _ ?_) | (change X _ _ _ _ _ _) | (change C _ _ _ _ _ _ _))))); (all_goals (try simp only [xup_at, xup_ne, xup_up, ne_eq, Nat.reduceEqDiff, not_false_eq_true, Int.toNat_natCast, x_lcmp] at *)); (all_goals (try omega)))
      all_goals exact h5
    | succ m ih =>
      intro k M' hk r1 r2 fr ht e80 e74 e74' l x3 x5
      have e64 : M' 64 0 = (nW : Int) := by rw [fr 64 (by omega)]; exact e640
      have h5 := ih (k + 1) (xup M' 74 (xup (M' 74) k (M' 80 k))) (by omega) r1 r2 (fun a ha => by rw [xup_ne (by omega)]; exact fr a ha) (tabZ_fr (fun a ha => by rw [xup_ne (by omega)]) ht) (fun j hj => by rw [xup_ne (by decide)]; exact e80 j hj) (fun j hj => by
        rw [xup_at]
        by_cases q : j = k
        · rw [q, xup_at]; exact e80 k (by omega)
        · rw [xup_ne q]; exact e74 j (by omega)) (fun j hj => by rw [xup_at, xup_ne (by omega)]; exact e74' j (by omega)) l x3 x5
      clear h0 h1 h2 h3 hz hR ht ih
      refine xg hW k_M_least [237] 40 ?_
      ((repeat' (first | (with_reducible refine And.intro ?_ ?_) | (intro h0; exact absurd h0 (by decide)) | (intro h0; exact absurd rfl h0) | (intro h0; exfalso; clear hW; omega) | (intro _) | ((conv => whnf); (first | (with_reducible refine And.intro ?_ ?_) | (intro h0; exact absurd h0 (by decide)) | (intro h0; exact absurd rfl h0) | (intro h0; exfalso; clear hW; omega) | (intro _))))); (all_goals (try omega)); (all_goals (try exact xnn (by omega))); (all_goals (try exact Nat.le_of_ble_eq_true rfl)); (all_goals (try ((conv => whnf); (first | (refine hW.2.1 _ _ ?_) | (change X _ _ _ _ _ _) | (change C _ _ _ _ _ _ _))))); (all_goals (try simp only [xup_at, xup_ne, xup_up, ne_eq, Nat.reduceEqDiff, not_false_eq_true, Int.toNat_natCast, x_lcmp] at *)); (all_goals (try omega)))
      all_goals exact h5
  refine xg hW k_M_least [34] 40 ?_
  ((repeat' (first | (with_reducible refine And.intro ?_ ?_) | (intro h0; exact absurd h0 (by decide)) | (intro h0; exact absurd rfl h0) | (intro h0; exfalso; clear hW; omega) | (intro _) | ((conv => whnf); (first | (with_reducible refine And.intro ?_ ?_) | (intro h0; exact absurd h0 (by decide)) | (intro h0; exact absurd rfl h0) | (intro h0; exfalso; clear hW; omega) | (intro _))))); (all_goals (try omega)); (all_goals (try exact xnn (by omega))); (all_goals (try exact Nat.le_of_ble_eq_true rfl)); (all_goals (try ((conv => whnf); (first | (refine hW.2.1 _ _ ?_) | (change X _ _ _ _ _ _) | (change C _ _ _ _ _ _ _))))); (all_goals (try simp only [xup_at, xup_ne, xup_up, ne_eq, Nat.reduceEqDiff, not_false_eq_true, Int.toNat_natCast, x_lcmp] at *)); (all_goals (try omega)))
  refine hW.1 _ _ _ _ _ _ (z_order' hz.1 hz.2.1 hz.2.2.2.1 (fun M1 hf1 ht1 => ?_)) (by decide) (by decide) (Nat.le_of_ble_eq_true rfl)
  have hz1 : zOk M1 := zOk_pre (zPre_fr (fun a ha => hf1 a (by omega)) (by rw [hf1 64 (by omega)]) (by rw [hf1 64 (by omega)]) (by rw [hf1 64 (by omega)]) hz) ht1
  have ps : pS M1 = pS M := by funext u t; exact pS_of (fun a ha => hf1 a (by omega)) u t
  have pn : pN M1 = pN M := by funext u t; exact pN_of (fun a ha => hf1 a (by omega)) u t
  rw [← ps, ← pn, ← hf1 2 (by omega)] at hR
  have h5 := fun x4 x5 hS hK => z_lev (by decide) hW (M0 := M1) (nW := nW) (nT := nT) hz1 (by rw [hf1 3 (by omega)]; exact hWn) (by rw [hf1 10 (by omega)]; exact hnT) f 0 (by omega) nT (xup (xup M1 82 (xup (M1 82) 0 0)) 81 (xup (M1 81) 0 0)) (fun _ => 0) 0 (1000000, 0, fun _ => 0) x4 x5 (Nat.le_refl _) (by decide) (by decide) (by decide) (by decide) (by decide) (by decide) (fun j hj => absurd hj (by omega)) ⟨fun a ha => by rw [xup_ne (by omega), xup_ne (by omega)], fun j hj => absurd hj (by omega), by rw [xup_at, xup_at], by rw [xup_ne (by decide), xup_at, xup_at, Nat.sub_self]; rfl, Or.inl rfl⟩ hS hK
  rw [← hR] at h5
  replace h5 := h5 none none (fun q M'' fr => h1 q M'' (fun a ha => by rw [fr a (by omega)]; exact hf1 a (by omega)) (tabZ_fr (fun a ha => fr a (by omega)) ht1)) (fun M'' x4 x5 fr f2 f3 f4 f5 f6 f7 => by
    have e64 : M'' 64 0 = (nW : Int) := by rw [fr 64 (by omega), hf1 64 (by omega)]; exact e640
    have fr' : ∀ a, a < 69 ∨ 73 < a ∧ a < 79 ∨ 82 < a → M'' a = M a := fun a ha => by rw [fr a (by omega)]; exact hf1 a (by omega)
    have ht2 : tabZ M'' := tabZ_fr (fun a ha => fr a (by omega)) ht1
    have a2 := fun q => h2 f7 q M'' fr' ht2
    have a3 : R.1 ≠ 1000000 → ∀ l (x3 : Int) x5, X 237 [some (xR (some 64)), some (xI R.1), l, some (xI x3), some (xI ((0 : Nat) : Int)), x5] [] (M'', D, nx) 0 0 := fun q => last nW 0 M'' (by omega) q f7 (fun a ha => fr' a (by omega)) ht2 (fun j hj => by
      rcases f3 with f3 | f3
      · exact absurd f3 q
      · exact f3 j hj) (fun j hj => absurd hj (by omega)) (fun j _ => by rw [fr' 74 (by omega)])
    clear h0 h1 h2 h3 hz hR ht1 ht2 last hz1 f3
    refine xg hW k_M_least [34, 237] 40 ?_
    ((repeat' (first | (with_reducible refine And.intro ?_ ?_) | (intro h0; exact absurd h0 (by decide)) | (intro h0; exact absurd rfl h0) | (intro h0; exfalso; clear hW; omega) | (intro _) | ((conv => whnf); (first | (with_reducible refine And.intro ?_ ?_) | (intro h0; exact absurd h0 (by decide)) | (intro h0; exact absurd rfl h0) | (intro h0; exfalso; clear hW; omega) | (intro _))))); (all_goals (try omega)); (all_goals (try exact xnn (by omega))); (all_goals (try exact Nat.le_of_ble_eq_true rfl)); (all_goals (try ((conv => whnf); (first | (refine hW.2.1 _ _ ?_) | (change X _ _ _ _ _ _) | (change C _ _ _ _ _ _ _))))); (all_goals (try simp only [xup_at, xup_ne, xup_up, ne_eq, Nat.reduceEqDiff, not_false_eq_true, Int.toNat_natCast, x_lcmp] at *)); (all_goals (try omega)))
    · exact a3 (by assumption) _ _ _
    · exact a2 (by omega))
  clear h0 h1 h2 h3 hz hR ht1 last hz1
  ((repeat' (first | (with_reducible refine And.intro ?_ ?_) | (intro h0; exact absurd h0 (by decide)) | (intro h0; exact absurd rfl h0) | (intro h0; exfalso; clear hW; omega) | (intro _) | ((conv => whnf); (first | (with_reducible refine And.intro ?_ ?_) | (intro h0; exact absurd h0 (by decide)) | (intro h0; exact absurd rfl h0) | (intro h0; exfalso; clear hW; omega) | (intro _))))); (all_goals (try omega)); (all_goals (try exact xnn (by omega))); (all_goals (try exact Nat.le_of_ble_eq_true rfl)); (all_goals (try ((conv => whnf); (first | (refine hW.2.1 _ _ ?_) | (change X _ _ _ _ _ _) | (change C _ _ _ _ _ _ _))))); (all_goals (try simp only [xup_at, xup_ne, xup_up, ne_eq, Nat.reduceEqDiff, not_false_eq_true, Int.toNat_natCast, x_lcmp] at *)); (all_goals (try omega)))
  exact h5
