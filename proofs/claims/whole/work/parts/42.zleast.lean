/-! the reference: least -/
theorem lsT_mono {nT : Nat} {S : Nat → Int} {b : Int} {more : Nat → xL → xL} (h : ∀ t st, st.2.1 ≤ (more t st).2.1) : ∀ m st, st.2.1 ≤ (lsT nT S b more m st).2.1
  | 0, st => Int.le_refl _
  | m + 1, st => by
    rw [lsT]
    split
    · exact Int.le_refl _
    · split
      · simp only; omega
      · have h1 := h (nT - (m + 1)) (st.1, st.2.1 + 1, st.2.2)
        have h2 := lsT_mono (nT := nT) (S := S) (b := b) h m (more (nT - (m + 1)) (st.1, st.2.1 + 1, st.2.2))
        simp only at h1
        omega
theorem lsF_mono {nT : Nat} {S N : Nat → Nat → Int} {v : Int} : ∀ (f w : Nat) (row : Nat → Int) (b : Int) (st : xL), st.2.1 ≤ (lsF nT S N v f w row b st).2.1
  | 0, w, row, b, st => by rw [lsF]; exact Int.le_refl _
  | f + 1, w, row, b, st => by
    rw [lsF]
    refine lsT_mono (fun t st => ?_) nT st
    split
    · exact lsF_mono f _ _ _ _
    · exact Int.le_refl _
/-- one level of the search: the last m tails of word w -/
noncomputable def lsL (nT : Nat) (S N : Nat → Nat → Int) (v : Int) (f w : Nat) (row : Nat → Int) (b : Int) (m : Nat) (st : xL) : xL := lsT nT (S w) b (fun t st => if okB S N v row w t = true then lsF nT S N v f (w + 1) (xup row w t) (b + S w t) st else st) m st
theorem lsL_mono {nT : Nat} {S N : Nat → Nat → Int} {v : Int} {f w : Nat} {row : Nat → Int} {b : Int} {m : Nat} {st : xL} : st.2.1 ≤ (lsL nT S N v f w row b m st).2.1 := by
  refine lsT_mono (fun t st => ?_) m st
  split
  · exact lsF_mono f _ _ _ _
  · exact Int.le_refl _
def lzI (M0 M' : xM) (nW w t : Nat) (row : Nat → Int) (b : Int) (st : xL) : Prop := (∀ a, a < 79 ∨ 82 < a → M' a = M0 a) ∧ (∀ j, j < w → M' 79 j = row j) ∧ M' 81 w = b ∧ M' 82 w = (t : Int) ∧ (st.1 = 1000000 ∨ ∀ j, j < nW → M' 80 j = st.2.2 j)
/-- what must hold behind a level -/
def lzK (X : xS) (D : Nat → Option xE) (nx : Nat) (M0 M' : xM) (nW w : Nat) (st : xL) : Prop := ∀ M'' x4 x5, (∀ a, a < 79 ∨ 82 < a → M'' a = M0 a) → (∀ j, j < w → M'' 79 j = M' 79 j ∧ M'' 81 j = M' 81 j ∧ M'' 82 j = M' 82 j) → (st.1 = 1000000 ∨ ∀ j, j < nW → M'' 80 j = st.2.2 j) → 0 ≤ st.1 → st.1 ≤ 1000000 → 0 ≤ st.2.1 → st.2.1 ≤ 20000 → X 34 [some (xR (some 64)), some (xI st.1), some (xI st.2.1), some (xI ((w : Int) - 1)), x4, x5] [] (M'', D, nx) 0 0
/-- and if more were looked at than may be -/
def lzS (Q : Option xV → xM → Prop) (M0 : xM) (st : xL) : Prop := 20000 < st.2.1 → ∀ M'', (∀ a, a < 79 ∨ 82 < a → M'' a = M0 a) → Q (some (xI (-5))) M''
/-- next goes on by one; a phrase is tried -/
def lzN (M : xM) (w t : Nat) : xM := xup M 82 (xup (M 82) w ((t : Int) + 1))
def lzT (M : xM) (w t : Nat) (b : Int) : xM := xup (xup M 79 (xup (M 79) w (t : Int))) 81 (xup (M 81) (w + 1) b)
def lzU (M : xM) (w : Nat) : xM := xup M 82 (xup (M 82) (w + 1) 0)
set_option maxRecDepth 100000 in
set_option maxHeartbeats 4000000 in
theorem z_levS {M0 M' : xM} {Q : Option xV → xM → Prop} {nW nT : Nat} {d : Nat} {D : Nat → Option xE} {nx : Nat} {X : xS} {C : xC} {P : xP} (hd : 4 < d) (hW : xWk d m_M_least tb_M Q D nx X C P) (hz0 : zOk M0) (hnW : M0 3 2 = (nW : Int)) (hnT : M0 10 2 = (nT : Int)) {w t : Nat} (hw : w < nW) (ht : t < nT) {b : Int} {st1 st2 : Int} {x4 x5 : Option xV} (hb : 0 ≤ b ∧ b ≤ 18 * w) (hs1 : 0 ≤ st1 ∧ st1 ≤ 1000000) (hs2 : 0 ≤ st2 ∧ st2 ≤ 20000) (hI : ∀ a, a < 79 ∨ 82 < a → M' a = M0 a) (hrow : ∀ j, j < w → ∃ t : Nat, t < nT ∧ M' 79 j = t) (e81 : M' 81 w = b) (e82 : M' 82 w = (t : Int))
    (hA : st1 ≤ b + pS M0 w t → X 34 [some (xR (some 64)), some (xI st1), some (xI st2), some (xI ((w : Int) - 1)), some (xI (t : Int)), x5] [] (M', D, nx) 0 0)
    (hS : b + pS M0 w t < st1 → 20000 < st2 + 1 → Q (some (xI (-5))) (lzN M' w t))
    (hB : b + pS M0 w t < st1 → st2 + 1 ≤ 20000 → ¬ okP (pS M0) (pN M0) (M0 2 6) (M' 79) w t → X 34 [some (xR (some 64)), some (xI st1), some (xI (st2 + 1)), some (xI (w : Int)), some (xI (t : Int)), x5] [] (lzN M' w t, D, nx) 0 0)
    (hC1 : b + pS M0 w t < st1 → st2 + 1 ≤ 20000 → okP (pS M0) (pN M0) (M0 2 6) (M' 79) w t → w + 1 = nW → X 181 [some (xR (some 64)), some (xI (b + pS M0 w t)), some (xI (st2 + 1)), some (xI (w : Int)), some (xI (t : Int)), some (xI 0)] [] (lzT (lzN M' w t) w t (b + pS M0 w t), D, nx) 0 0)
    (hC2 : b + pS M0 w t < st1 → st2 + 1 ≤ 20000 → okP (pS M0) (pN M0) (M0 2 6) (M' 79) w t → w + 1 < nW → X 34 [some (xR (some 64)), some (xI st1), some (xI (st2 + 1)), some (xI ((w : Int) + 1)), some (xI (t : Int)), x5] [] (lzU (lzT (lzN M' w t) w t (b + pS M0 w t)) w, D, nx) 0 0) : X 34 [some (xR (some 64)), some (xI st1), some (xI st2), some (xI (w : Int)), x4, x5] [] (M', D, nx) 0 0 := by
  have w10 := hz0.1.2.1
  have t31 := hz0.2.2.1.2.1
  have ht69 : M' 69 w = (nT : Int) := by
    rw [hI 69 (by omega), (hz0.2.2.2.2.2.1 w (by omega)).1, ← hz0.2.2.2.1.1, hnT]
  obtain ⟨-, -, -, e70, -⟩ := tab_at hz0.2.1 hz0.2.2.2.1 hz0.2.2.2.2.2.1 (w := w) (t := t) (by omega) (by omega)
  rw [show 31 * w + t = (31 * (w : Int) + M' 82 w).toNat by omega, ← hI 70 (by omega)] at e70
  obtain ⟨p0, -, p2, -, -⟩ := pB hz0.1 hz0.2.2.1 (w := w) (t := t) (by omega) (by omega)
  have cf : ∀ Q' : Option xV → xM → Prop, (okP (pS M0) (pN M0) (M0 2 6) (M' 79) w t → Q' (some (xI 1)) (lzN M' w t)) ∧ (¬ okP (pS M0) (pN M0) (M0 2 6) (M' 79) w t → Q' (some (xI 0)) (lzN M' w t)) → xm 4 m_M_isFree [xR (some 64), xI (w : Int), xI (t : Int), xR (some 79)] (lzN M' w t) Q' := by
    intro Q' h
    have fr : ∀ a, a < 79 → lzN M' w t a = M0 a := fun a ha => by unfold lzN; rw [xup_ne (by omega)]; exact hI a (by omega)
    have ps : pS (lzN M' w t) = pS M0 := by funext u t'; exact pS_of (fun a ha => fr a (by omega)) u t'
    have pn : pN (lzN M' w t) = pN M0 := by funext u t'; exact pN_of (fun a ha => fr a (by omega)) u t'
    have e79 : lzN M' w t 79 = M' 79 := by unfold lzN; rw [xup_ne (by omega)]
    refine z_isFree (r := 79) rfl (zOk_fr (fun a ha => fr a (by omega)) hz0) (by rw [fr 3 (by omega), hnW]; omega) (by rw [fr 10 (by omega), hnT]; omega) (fun v hv => ?_) (by rw [ps, pn, fr 2 (by omega), e79]; exact h)
    rw [e79, fr 10 (by omega)]
    obtain ⟨q, q1, q2⟩ := hrow v hv
    exact Or.inr ⟨q, by omega, q2⟩
  have e640 : M' 64 0 = (nW : Int) := by
    rw [hI 64 (by omega), hz0.2.2.2.2.1.1]; exact hnW
  unfold lzU at hC2
  unfold lzT at hC1 hC2
  unfold lzN at cf hS hB hC1 hC2
  rw [← e82] at cf hA hS hB hC1 hC2
  generalize okP (pS M0) (pN M0) (M0 2 6) (M' 79) w t = A at *
  generalize pS M0 w t = s at *
  clear hI hrow hz0
  have ew : ((w : Int) + 1).toNat = w + 1 := by omega
  refine xg hW k_M_least [34, 181] 40 ?_
  ((repeat' (first | (with_reducible refine And.intro ?_ ?_) | (intro h0; exact absurd h0 (by decide)) | (intro h0; exact absurd rfl h0) | (intro h0; exfalso; clear hW; omega) | (intro _) | ((conv => whnf); (first | (with_reducible refine And.intro ?_ ?_) | (intro h0; exact absurd h0 (by decide)) | (intro h0; exact absurd rfl h0) | (intro h0; exfalso; clear hW; omega) | (intro _))))); (all_goals (try omega)); (all_goals (try exact xnn (by omega))); (all_goals (try exact Nat.le_of_ble_eq_true rfl)); (all_goals (try ((conv => whnf); (first | (refine hW.2.1 _ _ ?_) | (change X _ _ _ _ _ _) | (change C _ _ _ _ _ _ _))))); (all_goals (try simp only [xup_at, xup_ne, xup_up, ne_eq, Nat.reduceEqDiff, not_false_eq_true, Int.toNat_natCast, x_lcmp] at *)); (all_goals (try omega)))
  · have c1 : b + s < st1 := by omega
    refine hW.1 _ _ _ _ _ _ (cf _ ⟨fun hA => ?_, fun hA => ?_⟩) (by omega) (by decide) (Nat.le_of_ble_eq_true rfl)
    · replace hC1 := hC1 c1 (by omega) hA
      replace hC2 := hC2 c1 (by omega) hA
      clear cf hB hS
      ((repeat' (first | (with_reducible refine And.intro ?_ ?_) | (intro h0; exact absurd h0 (by decide)) | (intro h0; exact absurd rfl h0) | (intro h0; exfalso; clear hW; omega) | (intro _) | ((conv => whnf); (first | (with_reducible refine And.intro ?_ ?_) | (intro h0; exact absurd h0 (by decide)) | (intro h0; exact absurd rfl h0) | (intro h0; exfalso; clear hW; omega) | (intro _))))); (all_goals (try omega)); (all_goals (try exact xnn (by omega))); (all_goals (try exact Nat.le_of_ble_eq_true rfl)); (all_goals (try ((conv => whnf); (first | (refine hW.2.1 _ _ ?_) | (change X _ _ _ _ _ _) | (change C _ _ _ _ _ _ _))))); (all_goals (try simp only [xup_at, xup_ne, xup_up, ne_eq, Nat.reduceEqDiff, not_false_eq_true, Int.toNat_natCast, x_lcmp] at *)); (all_goals (try omega)))
      · rw [ew, e81, e70]
        exact hC2 (by omega)
      · rw [show (M' 64 0).toNat = w + 1 by omega, ew, xup_at, e81, e70]
        exact hC1 (by omega)
    · replace hB := hB c1 (by omega) hA
      clear cf hC1 hC2 hS
      ((repeat' (first | (with_reducible refine And.intro ?_ ?_) | (intro h0; exact absurd h0 (by decide)) | (intro h0; exact absurd rfl h0) | (intro h0; exfalso; clear hW; omega) | (intro _) | ((conv => whnf); (first | (with_reducible refine And.intro ?_ ?_) | (intro h0; exact absurd h0 (by decide)) | (intro h0; exact absurd rfl h0) | (intro h0; exfalso; clear hW; omega) | (intro _))))); (all_goals (try omega)); (all_goals (try exact xnn (by omega))); (all_goals (try exact Nat.le_of_ble_eq_true rfl)); (all_goals (try ((conv => whnf); (first | (refine hW.2.1 _ _ ?_) | (change X _ _ _ _ _ _) | (change C _ _ _ _ _ _ _))))); (all_goals (try simp only [xup_at, xup_ne, xup_up, ne_eq, Nat.reduceEqDiff, not_false_eq_true, Int.toNat_natCast, x_lcmp] at *)); (all_goals (try omega)))
      exact hB
  · exact hS (by omega) (by omega)
  · exact hA (by omega)
/-- the best row is kept -/
theorem z_cpy {M0 M' : xM} {Q : Option xV → xM → Prop} {nW : Nat} {d : Nat} {D : Nat → Option xE} {nx : Nat} {X : xS} {C : xC} {P : xP} (hW : xWk d m_M_least tb_M Q D nx X C P) (hn10 : nW ≤ 10) (e64 : M' 64 0 = (nW : Int)) {b l w p : Int} (h : ∀ x5, X 34 [some (xR (some 64)), some (xI b), some (xI l), some (xI w), some (xI p), x5] [] (xup M' 80 (fun j => if j < nW then M' 79 j else M' 80 j), D, nx) 0 0) : X 181 [some (xR (some 64)), some (xI b), some (xI l), some (xI w), some (xI p), some (xI 0)] [] (M', D, nx) 0 0 := by
  have loop : ∀ (m k : Nat), k + m = nW → X 181 [some (xR (some 64)), some (xI b), some (xI l), some (xI w), some (xI p), some (xI (k : Int))] [] (xup M' 80 (fun j => if j < k then M' 79 j else M' 80 j), D, nx) 0 0 := by
    intro m
    induction m with
    | zero =>
      intro k hk
      obtain rfl : k = nW := by omega
      have h5 := h (some (xI (k : Int)))
      clear h
      refine xg hW k_M_least [34, 181] 40 ?_
      ((repeat' (first | (with_reducible refine And.intro ?_ ?_) | (intro h0; exact absurd h0 (by decide)) | (intro h0; exact absurd rfl h0) | (intro h0; exfalso; clear hW; omega) | (intro _) | ((conv => whnf); (first | (with_reducible refine And.intro ?_ ?_) | (intro h0; exact absurd h0 (by decide)) | (intro h0; exact absurd rfl h0) | (intro h0; exfalso; clear hW; omega) | (intro _))))); (all_goals (try omega)); (all_goals (try exact xnn (by omega))); (all_goals (try exact Nat.le_of_ble_eq_true rfl)); (all_goals (try ((conv => whnf); (first | (refine hW.2.1 _ _ ?_) | (change X _ _ _ _ _ _) | (change C _ _ _ _ _ _ _))))); (all_goals (try simp only [xup_at, xup_ne, xup_up, ne_eq, Nat.reduceEqDiff, not_false_eq_true, Int.toNat_natCast, x_lcmp] at *)); (all_goals (try omega)))
      all_goals exact h5
    | succ m ih =>
      intro k hk
      have h5 := ih (k + 1) (by omega)
      have e : xup (fun j => if j < k then M' 79 j else M' 80 j) k (M' 79 k) = fun j => if j < k + 1 then M' 79 j else M' 80 j := by
        funext j
        by_cases q : j = k
        · rw [q, xup_at, if_pos (by omega)]
        · rw [xup_ne q]
          by_cases q2 : j < k
          · rw [if_pos q2, if_pos (by omega)]
          · rw [if_neg q2, if_neg (by omega)]
      clear h ih
      refine xg hW k_M_least [34, 181] 40 ?_
      ((repeat' (first | (with_reducible refine And.intro ?_ ?_) | (intro h0; exact absurd h0 (by decide)) | (intro h0; exact absurd rfl h0) | (intro h0; exfalso; clear hW; omega) | (intro _) | ((conv => whnf); (first | (with_reducible refine And.intro ?_ ?_) | (intro h0; exact absurd h0 (by decide)) | (intro h0; exact absurd rfl h0) | (intro h0; exfalso; clear hW; omega) | (intro _))))); (all_goals (try omega)); (all_goals (try exact xnn (by omega))); (all_goals (try exact Nat.le_of_ble_eq_true rfl)); (all_goals (try ((conv => whnf); (first | (refine hW.2.1 _ _ ?_) | (change X _ _ _ _ _ _) | (change C _ _ _ _ _ _ _))))); (all_goals (try simp only [xup_at, xup_ne, xup_up, ne_eq, Nat.reduceEqDiff, not_false_eq_true, Int.toNat_natCast, x_lcmp] at *)); (all_goals (try omega)))
      rw [e]
      all_goals exact h5
  have h0 := loop nW 0 (by omega)
  have e : (fun j => if j < 0 then M' 79 j else M' 80 j) = M' 80 := by
    funext j
    rw [if_neg (by omega)]
  rw [e, xup_id] at h0
  exact h0
set_option maxRecDepth 100000 in
set_option maxHeartbeats 4000000 in
theorem z_lev {M0 : xM} {Q : Option xV → xM → Prop} {nW nT : Nat} {d : Nat} {D : Nat → Option xE} {nx : Nat} {X : xS} {C : xC} {P : xP} (hd : 4 < d) (hW : xWk d m_M_least tb_M Q D nx X C P) (hz0 : zOk M0) (hnW : M0 3 2 = (nW : Int)) (hnT : M0 10 2 = (nT : Int)) : ∀ (f w : Nat), w + f + 1 = nW → ∀ (m : Nat) (M' : xM) (row : Nat → Int) (b : Int) (st : xL) (x4 x5 : Option xV), m ≤ nT → 0 ≤ b → b ≤ 18 * w → 0 ≤ st.1 → st.1 ≤ 1000000 → 0 ≤ st.2.1 → st.2.1 ≤ 20000 → (∀ j, j < w → ∃ t : Nat, t < nT ∧ row j = t) → lzI M0 M' nW w (nT - m) row b st → lzS Q M0 (lsL nT (pS M0) (pN M0) (M0 2 6) f w row b m st) → lzK X D nx M0 M' nW w (lsL nT (pS M0) (pN M0) (M0 2 6) f w row b m st) → X 34 [some (xR (some 64)), some (xI st.1), some (xI st.2.1), some (xI (w : Int)), x4, x5] [] (M', D, nx) 0 0 := by
  have hw0 := hz0.1
  have w10 := hw0.2.1
  have t31 := hz0.2.2.1.2.1
  have e640 : M0 64 0 = (nW : Int) := by rw [hz0.2.2.2.2.1.1]; exact hnW
  intro f
  induction f with
  | zero =>
    intro w hwf m
    induction m with
    | zero => sorry
    | succ m ihm => sorry
  | succ f ih =>
    intro w hwf m
    induction m with
    | zero =>
      intro M' row b st x4 x5 hm hb hb2 s1 s2 l1 l2 hrow hI hS hK
      have h5 := hK M' (some (xI ((nT : Nat) : Int))) x5 hI.1 (fun _ _ => ⟨rfl, rfl, rfl⟩) hI.2.2.2.2 s1 s2 l1 l2
      have e : lsL nT (pS M0) (pN M0) (M0 2 6) (f + 1) w row b 0 st = st := rfl
      rw [e] at h5
      have e82 : M' 82 w = (nT : Int) := hI.2.2.2.1
      have ht69 : M' 69 w = (nT : Int) := by
        rw [hI.1 69 (by omega), (hz0.2.2.2.2.2.1 w (by omega)).1, ← hz0.2.2.2.1.1, hnT]
      clear hK hS ih hI
      refine xg hW k_M_least [34] 40 ?_
      ((repeat' (first | (with_reducible refine And.intro ?_ ?_) | (intro h0; exact absurd h0 (by decide)) | (intro h0; exact absurd rfl h0) | (intro h0; exfalso; clear hW; omega) | (intro _) | ((conv => whnf); (first | (with_reducible refine And.intro ?_ ?_) | (intro h0; exact absurd h0 (by decide)) | (intro h0; exact absurd rfl h0) | (intro h0; exfalso; clear hW; omega) | (intro _))))); (all_goals (try omega)); (all_goals (try exact xnn (by omega))); (all_goals (try exact Nat.le_of_ble_eq_true rfl)); (all_goals (try ((conv => whnf); (first | (refine hW.2.1 _ _ ?_) | (change X _ _ _ _ _ _) | (change C _ _ _ _ _ _ _))))); (all_goals (try simp only [xup_at, xup_ne, xup_up, ne_eq, Nat.reduceEqDiff, not_false_eq_true, Int.toNat_natCast, x_lcmp] at *)); (all_goals (try omega)))
      all_goals trace_state
      all_goals sorry
    | succ m ihm => sorry
