/-! constructors: no fixed objects yet -/
def xN0 : xT := fun _ => none
/-- a method that makes things: d frames deep, at most mc cells of ms slots -/
def xi (d mc ms : Nat) (μ : xMd) (as : List xV) (D : Nat → Option xE) (nx : Nat) (Q : Option xV → (Nat → Option xE) → Nat → Prop) : Prop := ∀ (G : xG) (M : xM), xCt xN0 G μ d (40 * d) mc ms as (M, D, nx) (fun r h => ∃ D' nx', h = (M, D', nx') ∧ Q r D' nx')
def xIW (d mc ms : Nat) (μ : xMd) (tb : xTb) (ini : Bool) (Q : Option xV → (Nat → Option xE) → Nat → Prop) (M : xM) (X : xS) (C : xC) (P : xP) : Prop :=
  (∀ (μ' : xMd) (as : List xV) (D : Nat → Option xE) (nx : Nat) (rest : List xV) (K : List xV → xH → Nat → Nat → Prop) (k n d' mc' ms' : Nat), xi d' mc' ms' μ' as D nx (fun r D' nx' => xrt μ'.2.2.2 r fun w => K (w ++ rest) (M, D', nx') (k + mc') (n + ms')) → d' < d → μ'.2.2.1 ≤ 21 → xct rest ≤ 8 → k + mc' ≤ mc → n + ms' ≤ ms → C μ' as (M, D, nx) k n rest K) ∧ (∀ r D' nx', Q r D' nx' → P r (M, D', nx')) ∧ xClo μ.2.1 tb xN0 (d, 40 * d, mc, ms) μ.2.2.2 ini C P X
theorem xi_of {d mc ms : Nat} {μ : xMd} {as : List xV} {D : Nat → Option xE} {nx : Nat} {Q : Option xV → (Nat → Option xE) → Nat → Prop} {own : String} {tb : xTb} (ini : Bool) (hcls : μ.1.cls = own) (hpl : plainName own = true) (htb : xTbOk own tb) (hini : ini = true → μ.1.name = "<init>") (L0 : xLs) (hlen : (xen as).length ≤ μ.2.2.1) (hL0 : xen as ++ List.replicate (μ.2.2.1 - (xen as).length) none = L0)
    (body : ∀ (M : xM) (X : xS) (C : xC) (P : xP), xIW d mc ms μ tb ini Q M X C P → X 0 L0 [] (M, D, nx) 0 0) : xi d mc ms μ as D nx Q := by
  intro G M
  refine xCt_of ini hcls hpl htb hini L0 hlen hL0 fun X C hC hX => body M X C _ ⟨?_, fun r D' nx' hq => ⟨D', nx', rfl, hq⟩, hX⟩
  intro μ' as' D1 nx1 rest K k n d' mc' ms' hm hd hml hct hmc hms
  refine hC _ _ _ _ _ _ _ ⟨hct, d', 40 * d', mc', ms', ⟨hd, by show 8 + (μ'.2.2.1 + 11) + 40 * d' ≤ 40 * d; omega, hmc, hms⟩, ?_⟩
  intro l
  refine xmono (hm G M l) fun a st o t hq => ?_
  obtain ⟨r, h', e1, ⟨D', nx', rfl, hk⟩, e2, e3⟩ := hq
  exact ⟨r, _, e1, hk, e2, e3⟩
theorem xqD {Q : Option xV → (Nat → Option xE) → Nat → Prop} {r : Option xV} {D D' : Nat → Option xE} {nx : Nat} (h : Q r D nx) (e : ∀ b, D' b = D b) : Q r D' nx := by
  rw [show D' = D from funext e]
  exact h
abbrev xO (c : Nat) (fs : List xV) : Option xE := some (.inl (c, fs))
abbrev xAr (n : Nat) (f : Nat → xV) : Option xE := some (.inr (0, n, f))
set_option maxRecDepth 100000 in
set_option maxHeartbeats 1000000 in
theorem i_Rows_W {D : Nat → Option xE} {Q : Option xV → (Nat → Option xE) → Nat → Prop} (h : D 3 = xO 3 [xR none, xR none, xI 0] ∧ Q none (xup (xup (xup D 3 (xO 3 [xR (some 4), xR (some 5), xI 0])) 4 (xAr 10 fun _ => xI 0)) 5 (xAr 10 fun _ => xI 0)) 6) : xi 2 2 20 m_Rows_init [xR (some 3), xI 10] D 4 Q := by
  obtain ⟨hD, h⟩ := h
  have e : xup D 3 (xO 3 [xR none, xR none, xI 0]) = D := by rw [← hD]; exact xup_id D 3
  rw [← e]
  (refine xi_of (own := "DrumTongue$Rows") true rfl (by decide +kernel) tk_Rows (fun _ => rfl) [some (xR (some 3)), some (xI 10)] (Nat.le_of_ble_eq_true rfl) rfl ?_; intro M X C P hW)
  refine xgo hW.2.2 k_Rows_init [] 40 ?_
  ((repeat' (first | (with_reducible refine And.intro ?_ ?_) | (intro h0; exact absurd h0 (by decide)) | (intro h0; exact absurd rfl h0) | (intro _) | ((conv => whnf); (first | (with_reducible refine And.intro ?_ ?_) | (intro h0; exact absurd h0 (by decide)) | (intro h0; exact absurd rfl h0) | (intro _))))); (all_goals (try exact Nat.le_of_ble_eq_true rfl)); (all_goals (try (exact rfl))); (all_goals (try decide)); (all_goals (try omega)); (all_goals (try ((conv => whnf); (first | (refine hW.2.1 _ _ _ ?_) | (change X _ _ _ _ _ _) | (change C _ _ _ _ _ _ _))))))
  all_goals refine xqD h ?_
  all_goals
    intro b
    by_cases hb3 : b = 3
    · subst hb3
      first | rfl | assumption | exact Eq.symm (by assumption)
    by_cases hb4 : b = 4
    · subst hb4
      first | rfl | assumption | exact Eq.symm (by assumption)
    by_cases hb5 : b = 5
    · subst hb5
      first | rfl | assumption | exact Eq.symm (by assumption)
    simp only [xup, xgrid]
    (repeat rw [if_neg (by omega)])
set_option maxRecDepth 100000 in
set_option maxHeartbeats 1000000 in
theorem i_Rows_E {D : Nat → Option xE} {Q : Option xV → (Nat → Option xE) → Nat → Prop} (h : D 6 = xO 3 [xR none, xR none, xI 0] ∧ Q none (xup (xup (xup D 6 (xO 3 [xR (some 7), xR (some 8), xI 0])) 7 (xAr 5 fun _ => xI 0)) 8 (xAr 5 fun _ => xI 0)) 9) : xi 2 2 10 m_Rows_init [xR (some 6), xI 5] D 7 Q := by
  obtain ⟨hD, h⟩ := h
  have e : xup D 6 (xO 3 [xR none, xR none, xI 0]) = D := by rw [← hD]; exact xup_id D 6
  rw [← e]
  (refine xi_of (own := "DrumTongue$Rows") true rfl (by decide +kernel) tk_Rows (fun _ => rfl) [some (xR (some 6)), some (xI 5)] (Nat.le_of_ble_eq_true rfl) rfl ?_; intro M X C P hW)
  refine xgo hW.2.2 k_Rows_init [] 40 ?_
  ((repeat' (first | (with_reducible refine And.intro ?_ ?_) | (intro h0; exact absurd h0 (by decide)) | (intro h0; exact absurd rfl h0) | (intro _) | ((conv => whnf); (first | (with_reducible refine And.intro ?_ ?_) | (intro h0; exact absurd h0 (by decide)) | (intro h0; exact absurd rfl h0) | (intro _))))); (all_goals (try exact Nat.le_of_ble_eq_true rfl)); (all_goals (try (exact rfl))); (all_goals (try decide)); (all_goals (try omega)); (all_goals (try ((conv => whnf); (first | (refine hW.2.1 _ _ _ ?_) | (change X _ _ _ _ _ _) | (change C _ _ _ _ _ _ _))))))
  all_goals refine xqD h ?_
  all_goals
    intro b
    by_cases hb6 : b = 6
    · subst hb6
      first | rfl | assumption | exact Eq.symm (by assumption)
    by_cases hb7 : b = 7
    · subst hb7
      first | rfl | assumption | exact Eq.symm (by assumption)
    by_cases hb8 : b = 8
    · subst hb8
      first | rfl | assumption | exact Eq.symm (by assumption)
    simp only [xup, xgrid]
    (repeat rw [if_neg (by omega)])
set_option maxRecDepth 100000 in
set_option maxHeartbeats 1000000 in
theorem i_Rows_LR {D : Nat → Option xE} {Q : Option xV → (Nat → Option xE) → Nat → Prop} (h : D 10 = xO 3 [xR none, xR none, xI 0] ∧ Q none (xup (xup (xup D 10 (xO 3 [xR (some 11), xR (some 12), xI 0])) 11 (xAr 31 fun _ => xI 0)) 12 (xAr 31 fun _ => xI 0)) 13) : xi 2 2 62 m_Rows_init [xR (some 10), xI 31] D 11 Q := by
  obtain ⟨hD, h⟩ := h
  have e : xup D 10 (xO 3 [xR none, xR none, xI 0]) = D := by rw [← hD]; exact xup_id D 10
  rw [← e]
  (refine xi_of (own := "DrumTongue$Rows") true rfl (by decide +kernel) tk_Rows (fun _ => rfl) [some (xR (some 10)), some (xI 31)] (Nat.le_of_ble_eq_true rfl) rfl ?_; intro M X C P hW)
  refine xgo hW.2.2 k_Rows_init [] 40 ?_
  ((repeat' (first | (with_reducible refine And.intro ?_ ?_) | (intro h0; exact absurd h0 (by decide)) | (intro h0; exact absurd rfl h0) | (intro _) | ((conv => whnf); (first | (with_reducible refine And.intro ?_ ?_) | (intro h0; exact absurd h0 (by decide)) | (intro h0; exact absurd rfl h0) | (intro _))))); (all_goals (try exact Nat.le_of_ble_eq_true rfl)); (all_goals (try (exact rfl))); (all_goals (try decide)); (all_goals (try omega)); (all_goals (try ((conv => whnf); (first | (refine hW.2.1 _ _ _ ?_) | (change X _ _ _ _ _ _) | (change C _ _ _ _ _ _ _))))))
  all_goals refine xqD h ?_
  all_goals
    intro b
    by_cases hb10 : b = 10
    · subst hb10
      first | rfl | assumption | exact Eq.symm (by assumption)
    by_cases hb11 : b = 11
    · subst hb11
      first | rfl | assumption | exact Eq.symm (by assumption)
    by_cases hb12 : b = 12
    · subst hb12
      first | rfl | assumption | exact Eq.symm (by assumption)
    simp only [xup, xgrid]
    (repeat rw [if_neg (by omega)])
set_option maxRecDepth 100000 in
set_option maxHeartbeats 1000000 in
theorem i_Rows_H {D : Nat → Option xE} {Q : Option xV → (Nat → Option xE) → Nat → Prop} (h : D 18 = xO 3 [xR none, xR none, xI 0] ∧ Q none (xup (xup (xup D 18 (xO 3 [xR (some 19), xR (some 20), xI 0])) 19 (xAr 10 fun _ => xI 0)) 20 (xAr 10 fun _ => xI 0)) 21) : xi 2 2 20 m_Rows_init [xR (some 18), xI 10] D 19 Q := by
  obtain ⟨hD, h⟩ := h
  have e : xup D 18 (xO 3 [xR none, xR none, xI 0]) = D := by rw [← hD]; exact xup_id D 18
  rw [← e]
  (refine xi_of (own := "DrumTongue$Rows") true rfl (by decide +kernel) tk_Rows (fun _ => rfl) [some (xR (some 18)), some (xI 10)] (Nat.le_of_ble_eq_true rfl) rfl ?_; intro M X C P hW)
  refine xgo hW.2.2 k_Rows_init [] 40 ?_
  ((repeat' (first | (with_reducible refine And.intro ?_ ?_) | (intro h0; exact absurd h0 (by decide)) | (intro h0; exact absurd rfl h0) | (intro _) | ((conv => whnf); (first | (with_reducible refine And.intro ?_ ?_) | (intro h0; exact absurd h0 (by decide)) | (intro h0; exact absurd rfl h0) | (intro _))))); (all_goals (try exact Nat.le_of_ble_eq_true rfl)); (all_goals (try (exact rfl))); (all_goals (try decide)); (all_goals (try omega)); (all_goals (try ((conv => whnf); (first | (refine hW.2.1 _ _ _ ?_) | (change X _ _ _ _ _ _) | (change C _ _ _ _ _ _ _))))))
  all_goals refine xqD h ?_
  all_goals
    intro b
    by_cases hb18 : b = 18
    · subst hb18
      first | rfl | assumption | exact Eq.symm (by assumption)
    by_cases hb19 : b = 19
    · subst hb19
      first | rfl | assumption | exact Eq.symm (by assumption)
    by_cases hb20 : b = 20
    · subst hb20
      first | rfl | assumption | exact Eq.symm (by assumption)
    simp only [xup, xgrid]
    (repeat rw [if_neg (by omega)])
set_option maxRecDepth 100000 in
set_option maxHeartbeats 1000000 in
theorem i_used {D : Nat → Option xE} {nx : Nat} {Q : Option xV → (Nat → Option xE) → Nat → Prop} (h : D 10 = xO 3 [xR (some 11), xR (some 12), xI 0] ∧ Q (some (xI 0)) D nx) : xi 1 0 0 m_Rows_used [xR (some 10)] D nx Q := by
  obtain ⟨hD, h⟩ := h
  have e : xup D 10 (xO 3 [xR (some 11), xR (some 12), xI 0]) = D := by rw [← hD]; exact xup_id D 10
  rw [← e]
  (refine xi_of (own := "DrumTongue$Rows") false rfl (by decide +kernel) tk_Rows (fun q => by cases q) [some (xR (some 10))] (Nat.le_of_ble_eq_true rfl) rfl ?_; intro M X C P hW)
  refine xgo hW.2.2 k_Rows_used [] 40 ?_
  ((repeat' (first | (with_reducible refine And.intro ?_ ?_) | (intro h0; exact absurd h0 (by decide)) | (intro h0; exact absurd rfl h0) | (intro _) | ((conv => whnf); (first | (with_reducible refine And.intro ?_ ?_) | (intro h0; exact absurd h0 (by decide)) | (intro h0; exact absurd rfl h0) | (intro _))))); (all_goals (try exact Nat.le_of_ble_eq_true rfl)); (all_goals (try (exact rfl))); (all_goals (try decide)); (all_goals (try omega)); (all_goals (try ((conv => whnf); (first | (refine hW.2.1 _ _ _ ?_) | (change X _ _ _ _ _ _) | (change C _ _ _ _ _ _ _))))))
  all_goals exact xqD h (fun b => by rw [e])
set_option maxRecDepth 100000 in
set_option maxHeartbeats 1000000 in
theorem i_isFull {D : Nat → Option xE} {nx : Nat} {f : Nat → xV} {Q : Option xV → (Nat → Option xE) → Nat → Prop} (h : (D 10 = xO 3 [xR (some 11), xR (some 12), xI 0] ∧ D 11 = xAr 31 f) ∧ Q (some (xI 0)) D nx) : xi 1 0 0 m_Rows_isFull [xR (some 10)] D nx Q := by
  obtain ⟨⟨hD, hD2⟩, h⟩ := h
  have e : xup (xup D 10 (xO 3 [xR (some 11), xR (some 12), xI 0])) 11 (xAr 31 f) = D := by rw [← hD, ← hD2, xup_id, xup_id]
  rw [← e]
  (refine xi_of (own := "DrumTongue$Rows") false rfl (by decide +kernel) tk_Rows (fun q => by cases q) [some (xR (some 10))] (Nat.le_of_ble_eq_true rfl) rfl ?_; intro M X C P hW)
  refine xgo hW.2.2 k_Rows_isFull [] 40 ?_
  ((repeat' (first | (with_reducible refine And.intro ?_ ?_) | (intro h0; exact absurd h0 (by decide)) | (intro h0; exact absurd rfl h0) | (intro _) | ((conv => whnf); (first | (with_reducible refine And.intro ?_ ?_) | (intro h0; exact absurd h0 (by decide)) | (intro h0; exact absurd rfl h0) | (intro _))))); (all_goals (try exact Nat.le_of_ble_eq_true rfl)); (all_goals (try (exact rfl))); (all_goals (try decide)); (all_goals (try omega)); (all_goals (try ((conv => whnf); (first | (refine hW.2.1 _ _ _ ?_) | (change X _ _ _ _ _ _) | (change C _ _ _ _ _ _ _))))))
  all_goals first | exact xqD h (fun b => by rw [e]) | omega
set_option maxRecDepth 100000 in
set_option maxHeartbeats 1000000 in
theorem i_Rows_add {D : Nat → Option xE} {nx : Nat} {f g : Nat → xV} {Q : Option xV → (Nat → Option xE) → Nat → Prop} (h : (D 10 = xO 3 [xR (some 11), xR (some 12), xI 0] ∧ D 11 = xAr 31 f ∧ D 12 = xAr 31 g) ∧ Q none (xup (xup (xup D 10 (xO 3 [xR (some 11), xR (some 12), xI 1])) 11 (xAr 31 (xup f 0 (xI 0)))) 12 (xAr 31 (xup g 0 (xI 0)))) nx) : xi 2 0 0 m_Rows_add [xR (some 10), xI 0, xI 0] D nx Q := by
  obtain ⟨⟨hD, hD2, hD3⟩, h⟩ := h
  have e : xup (xup (xup D 10 (xO 3 [xR (some 11), xR (some 12), xI 0])) 11 (xAr 31 f)) 12 (xAr 31 g) = D := by rw [← hD, ← hD2, ← hD3, xup_id, xup_id, xup_id]
  rw [← e]
  (refine xi_of (own := "DrumTongue$Rows") false rfl (by decide +kernel) tk_Rows (fun q => by cases q) [some (xR (some 10)), some (xI 0), some (xI 0)] (Nat.le_of_ble_eq_true rfl) rfl ?_; intro M X C P hW)
  refine xgo hW.2.2 k_Rows_add [] 40 ?_
  ((repeat' (first | (with_reducible refine And.intro ?_ ?_) | (intro h0; exact absurd h0 (by decide)) | (intro h0; exact absurd rfl h0) | (intro _) | ((conv => whnf); (first | (with_reducible refine And.intro ?_ ?_) | (intro h0; exact absurd h0 (by decide)) | (intro h0; exact absurd rfl h0) | (intro _) | (refine hW.1 _ _ _ _ _ _ _ _ _ _ _ (i_isFull (f := f) ?_) (by decide) (by decide) (Nat.le_of_ble_eq_true rfl) (Nat.le_of_ble_eq_true rfl) (Nat.le_of_ble_eq_true rfl)))))); (all_goals (try exact Nat.le_of_ble_eq_true rfl)); (all_goals (try (exact rfl))); (all_goals (try decide)); (all_goals (try omega)); (all_goals (try ((conv => whnf); (first | (refine hW.2.1 _ _ _ ?_) | (change X _ _ _ _ _ _) | (change C _ _ _ _ _ _ _))))))
  all_goals refine xqD h ?_
  all_goals
    intro b
    by_cases hb10 : b = 10
    · subst hb10
      first | rfl | assumption | exact Eq.symm (by assumption)
    by_cases hb11 : b = 11
    · subst hb11
      first | rfl | assumption | exact Eq.symm (by assumption)
    by_cases hb12 : b = 12
    · subst hb12
      first | rfl | assumption | exact Eq.symm (by assumption)
    simp only [xup, xgrid]
    (repeat rw [if_neg (by omega)])
set_option maxRecDepth 100000 in
set_option maxHeartbeats 1000000 in
theorem i_Tails_add {D : Nat → Option xE} {nx : Nat} {f g u v : Nat → xV} {Q : Option xV → (Nat → Option xE) → Nat → Prop} (h : (D 9 = xO 4 [xR (some 10), xR (some 13), xR (some 14)] ∧ D 10 = xO 3 [xR (some 11), xR (some 12), xI 0] ∧ D 11 = xAr 31 f ∧ D 12 = xAr 31 g ∧ D 13 = xAr 31 u ∧ D 14 = xAr 31 v) ∧ Q none (xup (xup (xup (xup (xup D 10 (xO 3 [xR (some 11), xR (some 12), xI 1])) 11 (xAr 31 (xup f 0 (xI 0)))) 12 (xAr 31 (xup g 0 (xI 0)))) 13 (xAr 31 (xup u 0 (xI (-1))))) 14 (xAr 31 (xup v 0 (xI (-1))))) nx) : xi 3 0 0 m_Tails_add [xR (some 9), xI 0, xI 0, xI (-1), xI (-1)] D nx Q := by
  obtain ⟨⟨h9, h10, h11, h12, h13, h14⟩, h⟩ := h
  have e : xup (xup (xup (xup (xup (xup D 9 (xO 4 [xR (some 10), xR (some 13), xR (some 14)])) 10 (xO 3 [xR (some 11), xR (some 12), xI 0])) 11 (xAr 31 f)) 12 (xAr 31 g)) 13 (xAr 31 u)) 14 (xAr 31 v) = D := by rw [← h9, ← h10, ← h11, ← h12, ← h13, ← h14, xup_id, xup_id, xup_id, xup_id, xup_id, xup_id]
  rw [← e]
  (refine xi_of (own := "DrumTongue$Tails") false rfl (by decide +kernel) tk_Tails (fun q => by cases q) [some (xR (some 9)), some (xI 0), some (xI 0), some (xI (-1)), some (xI (-1)), none] (Nat.le_of_ble_eq_true rfl) rfl ?_; intro M X C P hW)
  refine xgo hW.2.2 k_Tails_add [] 40 ?_
  ((repeat' (first | (with_reducible refine And.intro ?_ ?_) | (intro h0; exact absurd h0 (by decide)) | (intro h0; exact absurd rfl h0) | (intro _) | ((conv => whnf); (first | (with_reducible refine And.intro ?_ ?_) | (intro h0; exact absurd h0 (by decide)) | (intro h0; exact absurd rfl h0) | (intro _) | (refine hW.1 _ _ _ _ _ _ _ _ _ _ _ (i_used ?_) (by decide) (by decide) (Nat.le_of_ble_eq_true rfl) (Nat.le_of_ble_eq_true rfl) (Nat.le_of_ble_eq_true rfl)) | (refine hW.1 _ _ _ _ _ _ _ _ _ _ _ (i_Rows_add (f := f) (g := g) ?_) (by decide) (by decide) (Nat.le_of_ble_eq_true rfl) (Nat.le_of_ble_eq_true rfl) (Nat.le_of_ble_eq_true rfl)))))); (all_goals (try exact Nat.le_of_ble_eq_true rfl)); (all_goals (try (exact rfl))); (all_goals (try decide)); (all_goals (try omega)); (all_goals (try ((conv => whnf); (first | (refine hW.2.1 _ _ _ ?_) | (change X _ _ _ _ _ _) | (change C _ _ _ _ _ _ _))))))
  all_goals refine xqD h ?_
  all_goals
    intro b
    by_cases hb9 : b = 9
    · subst hb9
      first | rfl | assumption | exact Eq.symm (by assumption)
    by_cases hb10 : b = 10
    · subst hb10
      first | rfl | assumption | exact Eq.symm (by assumption)
    by_cases hb11 : b = 11
    · subst hb11
      first | rfl | assumption | exact Eq.symm (by assumption)
    by_cases hb12 : b = 12
    · subst hb12
      first | rfl | assumption | exact Eq.symm (by assumption)
    by_cases hb13 : b = 13
    · subst hb13
      first | rfl | assumption | exact Eq.symm (by assumption)
    by_cases hb14 : b = 14
    · subst hb14
      first | rfl | assumption | exact Eq.symm (by assumption)
    simp only [xup, xgrid]
    (repeat rw [if_neg (by omega)])
abbrev xz : Nat → xV := fun _ => xI 0
set_option maxRecDepth 100000 in
set_option maxHeartbeats 1000000 in
theorem i_Tails_init {D : Nat → Option xE} {Q : Option xV → (Nat → Option xE) → Nat → Prop} (h : D 9 = xO 4 [xR none, xR none, xR none] ∧ Q none (xup (xup (xup (xup (xup (xup D 9 (xO 4 [xR (some 10), xR (some 13), xR (some 14)])) 10 (xO 3 [xR (some 11), xR (some 12), xI 1])) 11 (xAr 31 (xup xz 0 (xI 0)))) 12 (xAr 31 (xup xz 0 (xI 0)))) 13 (xAr 31 (xup xz 0 (xI (-1))))) 14 (xAr 31 (xup xz 0 (xI (-1))))) 15) : xi 4 5 127 m_Tails_init [xR (some 9)] D 10 Q := by
  obtain ⟨hD, h⟩ := h
  have e : xup D 9 (xO 4 [xR none, xR none, xR none]) = D := by rw [← hD]; exact xup_id D 9
  rw [← e]
  (refine xi_of (own := "DrumTongue$Tails") true rfl (by decide +kernel) tk_Tails (fun _ => rfl) [some (xR (some 9))] (Nat.le_of_ble_eq_true rfl) rfl ?_; intro M X C P hW)
  refine xgo hW.2.2 k_Tails_init [] 40 ?_
  ((repeat' (first | (with_reducible refine And.intro ?_ ?_) | (intro h0; exact absurd h0 (by decide)) | (intro h0; exact absurd rfl h0) | (intro _) | ((conv => whnf); (first | (with_reducible refine And.intro ?_ ?_) | (intro h0; exact absurd h0 (by decide)) | (intro h0; exact absurd rfl h0) | (intro _) | (refine hW.1 _ _ _ _ _ _ _ _ _ _ _ (i_Rows_LR ?_) (by decide) (by decide) (Nat.le_of_ble_eq_true rfl) (Nat.le_of_ble_eq_true rfl) (Nat.le_of_ble_eq_true rfl)) | (refine hW.1 _ _ _ _ _ _ _ _ _ _ _ (i_Tails_add (f := xz) (g := xz) (u := xz) (v := xz) ?_) (by decide) (by decide) (Nat.le_of_ble_eq_true rfl) (Nat.le_of_ble_eq_true rfl) (Nat.le_of_ble_eq_true rfl)))))); (all_goals (try exact Nat.le_of_ble_eq_true rfl)); (all_goals (try (exact rfl))); (all_goals (try decide)); (all_goals (try omega)); (all_goals (try ((conv => whnf); (first | (refine hW.2.1 _ _ _ ?_) | (change X _ _ _ _ _ _) | (change C _ _ _ _ _ _ _))))))
  all_goals refine xqD h ?_
  all_goals
    intro b
    by_cases hb9 : b = 9
    · subst hb9
      first | rfl | assumption | exact Eq.symm (by assumption)
    by_cases hb10 : b = 10
    · subst hb10
      first | rfl | assumption | exact Eq.symm (by assumption)
    by_cases hb11 : b = 11
    · subst hb11
      first | rfl | assumption | exact Eq.symm (by assumption)
    by_cases hb12 : b = 12
    · subst hb12
      first | rfl | assumption | exact Eq.symm (by assumption)
    by_cases hb13 : b = 13
    · subst hb13
      first | rfl | assumption | exact Eq.symm (by assumption)
    by_cases hb14 : b = 14
    · subst hb14
      first | rfl | assumption | exact Eq.symm (by assumption)
    simp only [xup, xgrid]
    (repeat rw [if_neg (by omega)])
