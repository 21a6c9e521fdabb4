/-! the reference: look, a step -/
set_option maxRecDepth 100000 in
set_option maxHeartbeats 1000000 in
theorem z_lkO {M : xM} {Q : Option xV → xM → Prop} {v : Nat} {dd : Nat} {D : Nat → Option xE} {nx : Nat} {X : xS} {C : xC} {P : xP} (hW : xWk dd m_M_look tb_M Q D nx X C P) (hv : v ≤ 4) {s d : Int} (hst : M 64 29 = (v : Int) + 1) {to may side c h : Int} (hq : ∀ z : Int, lkX X D nx 47 s d v (some (xI to)) (some (xI may)) (some (xI side)) (some (xJ c)) none (some (xI h)) (some (xI z)) (xup M 88 (xup (fun j => if j ≤ v then M 89 j else M 88 j) (v + 1) d))) : lkX X D nx 284 s d v (some (xI to)) (some (xI may)) (some (xI side)) (some (xJ c)) none (some (xI h)) (some (xI 0)) M := by
  have loop : ∀ (m k : Nat), k + m = v + 1 → lkX X D nx 284 s d v (some (xI to)) (some (xI may)) (some (xI side)) (some (xJ c)) none (some (xI h)) (some (xI (k : Int))) (xup M 88 (fun j => if j < k then M 89 j else M 88 j)) := by
    intro m
    induction m with
    | zero =>
      intro k hk
      obtain rfl : k = v + 1 := by omega
      have h5 := hq ((v + 1 : Nat) : Int)
      have ef : (fun j => if j < v + 1 then M 89 j else M 88 j) = fun j => if j ≤ v then M 89 j else M 88 j := by
        funext j
        by_cases q : j ≤ v
        · rw [if_pos q, if_pos (by omega)]
        · rw [if_neg q, if_neg (by omega)]
      rw [ef]
      have es : (M 64 29).toNat = v + 1 := by omega
      clear hq ef
      unfold lkX at *
      refine xg hW k_M_look [47, 284] 40 ?_
      ((repeat' (first | (with_reducible refine And.intro ?_ ?_) | (intro h0; exact absurd h0 (by decide)) | (intro h0; exact absurd rfl h0) | (intro h0; exfalso; clear hW; omega) | (intro _) | ((conv => whnf); (first | (with_reducible refine And.intro ?_ ?_) | (intro h0; exact absurd h0 (by decide)) | (intro h0; exact absurd rfl h0) | (intro h0; exfalso; clear hW; omega) | (intro _))))); (all_goals (try omega)); (all_goals (try exact xnn (by omega))); (all_goals (try exact Nat.le_of_ble_eq_true rfl)); (all_goals (try ((conv => whnf); (first | (refine hW.2.1 _ _ ?_) | (change X _ _ _ _ _ _) | (change C _ _ _ _ _ _ _))))); (all_goals (try simp only [xup_at, xup_ne, xup_up, ne_eq, Nat.reduceEqDiff, not_false_eq_true, Int.toNat_natCast, x_lcmp] at *)); (all_goals (try omega)))
      rw [es]
      exact h5
    | succ m ih =>
      intro k hk
      have h5 := ih (k + 1) (by omega)
      have e : xup (fun j => if j < k then M 89 j else M 88 j) k (M 89 k) = fun j => if j < k + 1 then M 89 j else M 88 j := by
        funext j
        by_cases q : j = k
        · rw [q, xup_at, if_pos (by omega)]
        · rw [xup_ne q]
          by_cases q2 : j < k
          · rw [if_pos q2, if_pos (by omega)]
          · rw [if_neg q2, if_neg (by omega)]
      clear hq ih
      unfold lkX at *
      refine xg hW k_M_look [47, 284] 40 ?_
      ((repeat' (first | (with_reducible refine And.intro ?_ ?_) | (intro h0; exact absurd h0 (by decide)) | (intro h0; exact absurd rfl h0) | (intro h0; exfalso; clear hW; omega) | (intro _) | ((conv => whnf); (first | (with_reducible refine And.intro ?_ ?_) | (intro h0; exact absurd h0 (by decide)) | (intro h0; exact absurd rfl h0) | (intro h0; exfalso; clear hW; omega) | (intro _))))); (all_goals (try omega)); (all_goals (try exact xnn (by omega))); (all_goals (try exact Nat.le_of_ble_eq_true rfl)); (all_goals (try ((conv => whnf); (first | (refine hW.2.1 _ _ ?_) | (change X _ _ _ _ _ _) | (change C _ _ _ _ _ _ _))))); (all_goals (try simp only [xup_at, xup_ne, xup_up, ne_eq, Nat.reduceEqDiff, not_false_eq_true, Int.toNat_natCast, x_lcmp] at *)); (all_goals (try omega)))
      rw [e]
      exact h5
  have h0 := loop (v + 1) 0 (by omega)
  have e : (fun j => if j < 0 then M 89 j else M 88 j) = M 88 := by
    funext j
    rw [if_neg (by omega)]
  rw [e, xup_id] at h0
  exact h0
/-- turn goes on -/
def lkN (M : xM) (v : Nat) (t : Int) : xM := xup M 90 (xup (M 90) v (t + 1))
/-- one hill more -/
def lkU (M : xM) (v : Nat) (t c h : Int) : xM := xup (xup (xup (xup M 89 (xup (M 89) (v + 1) t)) 90 (xup (M 90) (v + 1) 0)) 91 (xup (M 91) (v + 1) c)) 92 (xup (M 92) (v + 1) h)
/-- a better way is kept -/
def lkK (M : xM) (v : Nat) (d c h : Int) : xM := xup (xup M 64 (xup (xup (xup (M 64) 31 c) 32 h) 29 ((v : Int) + 1))) 88 (xup (fun j => if j ≤ v then M 89 j else M 88 j) (v + 1) d)
theorem lk_fin (N : xM) (F : Nat → Int) (v : Nat) : (fun j => if j ≤ v then (xup N 64 F) 89 j else (xup N 64 F) 88 j) = fun j => if j ≤ v then N 89 j else N 88 j := by
  rw [xup_ne (show 89 ≠ 64 by decide), xup_ne (show 88 ≠ 64 by decide)]
set_option maxRecDepth 100000 in
set_option maxHeartbeats 2000000 in
theorem z_lkS {M : xM} {Q : Option xV → xM → Prop} {v t d : Nat} {p : Nat → Nat} {dd : Nat} {D : Nat → Option xE} {nx : Nat} {X : xS} {C : xC} {P : xP} (hW : xWk dd m_M_look tb_M Q D nx X C P) (hv : v ≤ 4) (ht : t < 6) (hgo : ∀ j, j ≤ v → M 89 j = (p j : Int) ∧ p j < 6) (htu : M 90 v = (t : Int)) {ch hr c h : Int} (hch : M 91 v = ch) (hhr : M 92 v = hr) (hc : M 77 (6 * p v + t) = c) (hh : M 78 (6 * p v + t) = h) (rch : 0 ≤ ch ∧ ch ≤ 1000000000) (rhr : 0 ≤ hr ∧ hr ≤ 200) (rc : 0 ≤ c ∧ c ≤ 1000) (rh : 1 ≤ h ∧ h ≤ 20) (rb : 0 ≤ M 64 31 ∧ M 64 31 ≤ 1000000000) (rb2 : 0 ≤ M 64 32 ∧ M 64 32 ≤ 1000) (hd : d < 6) (hgo3 : t ≠ d → onp p t (v + 1) = false → v ≤ 3) {s : Int} {x4 x5 x6 x7 x8 x9 x10 : Option xV}
    (h1 : onp p t (v + 1) = true → ∀ y4 y5 y6 y7 y8 y9 y10, lkX X D nx 47 s d v y4 y5 y6 y7 y8 y9 y10 (lkN M v t))
    (h2 : onp p t (v + 1) = false → t ≠ d → ∀ y4 y5 y6 y7 y8 y9 y10, lkX X D nx 47 s d ((v : Int) + 1) y4 y5 y6 y7 y8 y9 y10 (lkU (lkN M v t) v t ((ch * c).tdiv 1000) (hr + h)))
    (h3 : onp p t (v + 1) = false → t = d → (M 64 31 < (ch * c).tdiv 1000 ∨ (0 < (ch * c).tdiv 1000 ∧ (ch * c).tdiv 1000 = M 64 31 ∧ hr + h < M 64 32)) → ∀ y4 y5 y6 y7 y8 y9 y10, lkX X D nx 47 s d v y4 y5 y6 y7 y8 y9 y10 (lkK (lkN M v t) v d ((ch * c).tdiv 1000) (hr + h)))
    (h4 : onp p t (v + 1) = false → t = d → ¬ (M 64 31 < (ch * c).tdiv 1000 ∨ (0 < (ch * c).tdiv 1000 ∧ (ch * c).tdiv 1000 = M 64 31 ∧ hr + h < M 64 32)) → ∀ y4 y5 y6 y7 y8 y9 y10, lkX X D nx 47 s d v y4 y5 y6 y7 y8 y9 y10 (lkN M v t)) : lkX X D nx 47 s d v x4 x5 x6 x7 x8 x9 x10 M := by
  have c3 := hch_rg rch rc
  obtain ⟨gv1, gv2⟩ := hgo v (Nat.le_refl _)
  have n90 : lkN M v t 90 = xup (M 90) v ((t : Int) + 1) := by unfold lkN; rw [xup_at]
  have nne : ∀ a, a ≠ 90 → lkN M v t a = M a := fun a ha => by unfold lkN; rw [xup_ne ha]
  -- behind the test
  have p1 : onp p t (v + 1) = true → ∀ z : Int, lkX X D nx 124 s d v (some (xI t)) (some (xI 0)) (some (xI z)) x7 x8 x9 x10 (lkN M v t) := fun hon z => by
    have h5 := h1 hon (some (xI t)) (some (xI 0)) (some (xI z)) x7 x8 x9 x10
    clear h1 h2 h3 h4 hgo hgo3
    unfold lkX at *
    refine xg hW k_M_look [47] 40 ?_
    ((repeat' (first | (with_reducible refine And.intro ?_ ?_) | (intro h0; exact absurd h0 (by decide)) | (intro h0; exact absurd rfl h0) | (intro h0; exfalso; clear hW; omega) | (intro _) | ((conv => whnf); (first | (with_reducible refine And.intro ?_ ?_) | (intro h0; exact absurd h0 (by decide)) | (intro h0; exact absurd rfl h0) | (intro h0; exfalso; clear hW; omega) | (intro _))))); (all_goals (try omega)); (all_goals (try exact xnn (by omega))); (all_goals (try exact Nat.le_of_ble_eq_true rfl)); (all_goals (try ((conv => whnf); (first | (refine hW.2.1 _ _ ?_) | (change X _ _ _ _ _ _) | (change C _ _ _ _ _ _ _))))); (all_goals (try simp only [xup_at, xup_ne, xup_up, ne_eq, Nat.reduceEqDiff, not_false_eq_true, Int.toNat_natCast, x_lcmp] at *)); (all_goals (try omega)))
    all_goals exact h5
  have p0 : onp p t (v + 1) = false → ∀ z : Int, lkX X D nx 124 s d v (some (xI t)) (some (xI 1)) (some (xI z)) x7 x8 x9 x10 (lkN M v t) := fun hon z => by
    have e89 : lkN M v t 89 ((v : Int).toNat) = (p v : Int) := by rw [Int.toNat_natCast, nne 89 (by decide)]; exact gv1
    have ei : (6 * lkN M v t 89 ((v : Int).toNat) + (t : Int)).toNat = 6 * p v + t := by omega
    have e91 : lkN M v t 91 ((v : Int).toNat) = ch := by rw [Int.toNat_natCast, nne 91 (by decide)]; exact hch
    have e92 : lkN M v t 92 ((v : Int).toNat) = hr := by rw [Int.toNat_natCast, nne 92 (by decide)]; exact hhr
    have e77 : lkN M v t 77 (6 * lkN M v t 89 ((v : Int).toNat) + (t : Int)).toNat = c := by rw [ei, nne 77 (by decide)]; exact hc
    have e78 : lkN M v t 78 (6 * lkN M v t 89 ((v : Int).toNat) + (t : Int)).toNat = h := by rw [ei, nne 78 (by decide)]; exact hh
    have e31 : lkN M v t 64 31 = M 64 31 := by rw [nne 64 (by decide)]
    have e32 : lkN M v t 64 32 = M 64 32 := by rw [nne 64 (by decide)]
    have k3 := h3 hon
    have k2 := h2 hon
    have k4 := h4 hon
    have g3 := fun q => hgo3 q hon
    have pO : ∀ (M2 : xM) (to may side c h : Int), M2 64 29 = (v : Int) + 1 → (∀ z : Int, lkX X D nx 47 s d v (some (xI to)) (some (xI may)) (some (xI side)) (some (xJ c)) none (some (xI h)) (some (xI z)) (xup M2 88 (xup (fun j => if j ≤ v then M2 89 j else M2 88 j) (v + 1) (d : Int)))) → lkX X D nx 284 s d v (some (xI to)) (some (xI may)) (some (xI side)) (some (xJ c)) none (some (xI h)) (some (xI 0)) M2 := fun M2 to may side c h e hq => z_lkO hW hv e hq
    unfold lkK at k3
    unfold lkU at k2
    rw [← e31, ← e32] at k3 k4
    rw [← e31] at rb
    rw [← e32] at rb2
    clear h1 h2 h3 h4 hgo hgo3 n90 nne p1 e31 e32 gv1 hon htu hch hhr hc hh
    generalize lkN M v t = N at *
    subst e91 e92 e77 e78
    unfold lkX at *
    have ev : ((v : Int) + 1).toNat = v + 1 := by omega
    refine xg hW k_M_look [47, 284] 40 ?_
    ((repeat' (first | (with_reducible refine And.intro ?_ ?_) | (intro h0; exact absurd h0 (by decide)) | (intro h0; exact absurd rfl h0) | (intro h0; exfalso; clear hW; omega) | (intro _) | ((conv => whnf); (first | (with_reducible refine And.intro ?_ ?_) | (intro h0; exact absurd h0 (by decide)) | (intro h0; exact absurd rfl h0) | (intro h0; exfalso; clear hW; omega) | (intro _))))); (all_goals (try omega)); (all_goals (try exact xnn (by omega))); (all_goals (try exact Nat.le_of_ble_eq_true rfl)); (all_goals (try ((conv => whnf); (first | (refine hW.2.1 _ _ ?_) | (change X _ _ _ _ _ _) | (change C _ _ _ _ _ _ _))))); (all_goals (try simp only [xup_at, xup_ne, xup_up, ne_eq, Nat.reduceEqDiff, not_false_eq_true, Int.toNat_natCast, x_lcmp] at *)); (all_goals (try omega)))
    all_goals first
      | exact k4 (by omega) (by omega) _ _ _ _ _ _ _
      | (rw [ev]; exact k2 (by omega) _ _ _ _ _ _ _)
      | (refine pO _ _ _ _ _ _ (by rw [xup_at, xup_at]) (fun z => ?_); rw [lk_fin]; exact k3 (by omega) (by omega) _ _ _ _ _ _ _)
      | trace_state
  have h5 := z_lkM (M := lkN M v t) (s := s) (d := d) (x7 := x7) (x8 := x8) (x9 := x9) (x10 := x10) hW (show v ≤ 5 by omega) ht (fun j hj => by rw [nne 89 (by decide)]; exact hgo j hj) p1 p0
  have htu' : M 90 ((v : Int).toNat) = (t : Int) := htu
  unfold lkN at h5
  rw [← htu] at h5
  clear h1 h2 h3 h4 hgo hgo3 n90 nne p1 p0
  unfold lkX at *
  refine xg hW k_M_look [47, 88] 40 ?_
  ((repeat' (first | (with_reducible refine And.intro ?_ ?_) | (intro h0; exact absurd h0 (by decide)) | (intro h0; exact absurd rfl h0) | (intro h0; exfalso; clear hW; omega) | (intro _) | ((conv => whnf); (first | (with_reducible refine And.intro ?_ ?_) | (intro h0; exact absurd h0 (by decide)) | (intro h0; exact absurd rfl h0) | (intro h0; exfalso; clear hW; omega) | (intro _))))); (all_goals (try omega)); (all_goals (try exact xnn (by omega))); (all_goals (try exact Nat.le_of_ble_eq_true rfl)); (all_goals (try ((conv => whnf); (first | (refine hW.2.1 _ _ ?_) | (change X _ _ _ _ _ _) | (change C _ _ _ _ _ _ _))))); (all_goals (try simp only [xup_at, xup_ne, xup_up, ne_eq, Nat.reduceEqDiff, not_false_eq_true, Int.toNat_natCast, x_lcmp] at *)); (all_goals (try omega)))
  all_goals exact h5
