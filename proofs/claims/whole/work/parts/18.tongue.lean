/-! words, endings, phrases -/
/-- a beat of a row of s beats told by n -/
def btOf (s n : Int) (i : Nat) : Int := ((n.toNat >>> (s.toNat - 1 - i)) % 2 : Nat)
theorem btOf_rg (s n : Int) (i : Nat) : 0 ≤ btOf s n i ∧ btOf s n i ≤ 1 := by
  unfold btOf
  omega
theorem xbit {n k : Int} (h1 : 0 ≤ n) (h2 : n < 2147483648) (h3 : 0 ≤ k) (h4 : k < 32) : x_iand (x_ishr n k) 1 = ((n.toNat >>> k.toNat) % 2 : Nat) := by
  have := Nat.shiftRight_le n.toNat k.toNat
  rw [xshr_i h1 h2 h3 h4]
  refine (xn_and (b := 1) (by omega)).trans ?_
  rw [Nat.and_one_is_mod]
def phOk (M : xM) : Prop := ∀ w : Nat, w < 10 → -1 ≤ M 15 w ∧ M 15 w < 31 ∧ (M 15 w ≠ -1 → 1 ≤ M 16 w ∧ isB (M 16 w) (M 17 w))
def wOk (M : xM) : Prop := 0 ≤ M 3 2 ∧ M 3 2 ≤ 10 ∧ ∀ i : Nat, (i : Int) < M 3 2 → 1 ≤ M 4 i ∧ M 4 i ≤ 6 ∧ 0 ≤ M 5 i ∧ M 5 i < 2 ^ (M 4 i).toNat
def tbOk (M : xM) : Prop := 1 ≤ M 10 2 ∧ M 10 2 ≤ 31 ∧ ∀ t : Nat, (t : Int) < M 10 2 → 0 ≤ M 11 t ∧ M 11 t ≤ 12 ∧ 0 ≤ M 12 t ∧ M 12 t < 2 ^ (M 11 t).toNat
set_option maxRecDepth 100000 in
theorem c_boundNow {M : xM} {Q : Option xV → xM → Prop} (h : Q (some (xI (M 2 6))) M) : xm 1 m_Tongue_boundNow [xR (some 2)] M Q := by
  (refine xm_of (own := "DrumTongue$Tongue") rfl (by decide +kernel) tk_Tongue [some (xR (some 2))] (Nat.le_of_ble_eq_true rfl) rfl ?_; intro D nx X C P hW)
  refine xg hW k_Tongue_boundNow [] 40 ?_
  ((repeat' (first | (with_reducible refine And.intro ?_ ?_) | (intro h0; exact absurd h0 (by decide)) | (intro _) | ((conv => whnf); (first | (with_reducible refine And.intro ?_ ?_) | (intro h0; exact absurd h0 (by decide)) | (intro _))))); (all_goals (try omega)); (all_goals (try exact Nat.le_of_ble_eq_true rfl)); (all_goals (try ((conv => whnf); (first | (refine hW.2.1 _ _ ?_) | (change X _ _ _ _ _ _) | (change C _ _ _ _ _ _ _))))); (all_goals (try simp only [xup_at, xup_ne, xup_up, ne_eq, Nat.reduceEqDiff, not_false_eq_true, Int.toNat_natCast] at *)); (all_goals (try omega)))
  all_goals exact h
set_option maxRecDepth 100000 in
theorem c_wordCount {M : xM} {Q : Option xV → xM → Prop} (h : Q (some (xI (M 3 2))) M) : xm 2 m_Tongue_wordCount [xR (some 2)] M Q := by
  (refine xm_of (own := "DrumTongue$Tongue") rfl (by decide +kernel) tk_Tongue [some (xR (some 2))] (Nat.le_of_ble_eq_true rfl) rfl ?_; intro D nx X C P hW)
  refine xg hW k_Tongue_wordCount [] 40 ?_
  ((repeat' (first | (with_reducible refine And.intro ?_ ?_) | (intro h0; exact absurd h0 (by decide)) | (intro _) | ((conv => whnf); (first | (with_reducible refine And.intro ?_ ?_) | (intro h0; exact absurd h0 (by decide)) | (intro _) | (refine hW.1 _ _ _ _ _ _ (c_used_W ?_) (by first | decide | omega) (by decide) (Nat.le_of_ble_eq_true rfl)))))); (all_goals (try omega)); (all_goals (try exact Nat.le_of_ble_eq_true rfl)); (all_goals (try ((conv => whnf); (first | (refine hW.2.1 _ _ ?_) | (change X _ _ _ _ _ _) | (change C _ _ _ _ _ _ _))))); (all_goals (try simp only [xup_at, xup_ne, xup_up, ne_eq, Nat.reduceEqDiff, not_false_eq_true, Int.toNat_natCast] at *)); (all_goals (try omega)))
  all_goals exact h
set_option maxRecDepth 100000 in
theorem c_endingCount {M : xM} {Q : Option xV → xM → Prop} (h : Q (some (xI (M 6 2))) M) : xm 2 m_Tongue_endingCount [xR (some 2)] M Q := by
  (refine xm_of (own := "DrumTongue$Tongue") rfl (by decide +kernel) tk_Tongue [some (xR (some 2))] (Nat.le_of_ble_eq_true rfl) rfl ?_; intro D nx X C P hW)
  refine xg hW k_Tongue_endingCount [] 40 ?_
  ((repeat' (first | (with_reducible refine And.intro ?_ ?_) | (intro h0; exact absurd h0 (by decide)) | (intro _) | ((conv => whnf); (first | (with_reducible refine And.intro ?_ ?_) | (intro h0; exact absurd h0 (by decide)) | (intro _) | (refine hW.1 _ _ _ _ _ _ (c_used_E ?_) (by first | decide | omega) (by decide) (Nat.le_of_ble_eq_true rfl)))))); (all_goals (try omega)); (all_goals (try exact Nat.le_of_ble_eq_true rfl)); (all_goals (try ((conv => whnf); (first | (refine hW.2.1 _ _ ?_) | (change X _ _ _ _ _ _) | (change C _ _ _ _ _ _ _))))); (all_goals (try simp only [xup_at, xup_ne, xup_up, ne_eq, Nat.reduceEqDiff, not_false_eq_true, Int.toNat_natCast] at *)); (all_goals (try omega)))
  all_goals exact h
set_option maxRecDepth 100000 in
theorem c_isWord {M : xM} {Q : Option xV → xM → Prop} {w : Int} (h : (xrg w ∧ 0 ≤ M 3 2 ∧ M 3 2 ≤ 10) ∧ (0 ≤ w → w < M 3 2 → Q (some (xI 1)) M) ∧ (w < 0 ∨ M 3 2 ≤ w → Q (some (xI 0)) M)) : xm 2 m_Tongue_isWord [xR (some 2), xI w] M Q := by
  obtain ⟨⟨h1, h2⟩, h3, h4⟩ := h
  (refine xm_of (own := "DrumTongue$Tongue") rfl (by decide +kernel) tk_Tongue [some (xR (some 2)), some (xI w)] (Nat.le_of_ble_eq_true rfl) rfl ?_; intro D nx X C P hW)
  refine xg hW k_Tongue_isWord [] 40 ?_
  ((repeat' (first | (with_reducible refine And.intro ?_ ?_) | (intro h0; exact absurd h0 (by decide)) | (intro _) | ((conv => whnf); (first | (with_reducible refine And.intro ?_ ?_) | (intro h0; exact absurd h0 (by decide)) | (intro _) | (refine hW.1 _ _ _ _ _ _ (c_used_W ?_) (by first | decide | omega) (by decide) (Nat.le_of_ble_eq_true rfl)))))); (all_goals (try omega)); (all_goals (try exact Nat.le_of_ble_eq_true rfl)); (all_goals (try ((conv => whnf); (first | (refine hW.2.1 _ _ ?_) | (change X _ _ _ _ _ _) | (change C _ _ _ _ _ _ _))))); (all_goals (try simp only [xup_at, xup_ne, xup_up, ne_eq, Nat.reduceEqDiff, not_false_eq_true, Int.toNat_natCast] at *)); (all_goals (try omega)))
  all_goals first | exact h3 (by omega) (by omega) | exact h4 (by omega)
set_option maxRecDepth 100000 in
theorem c_hasPhrase {M : xM} {Q : Option xV → xM → Prop} {w : Int} (hp : phOk M) (h : xrg w ∧ (0 ≤ w → w < 10 → M 15 w.toNat ≠ -1 → Q (some (xI 1)) M) ∧ (w < 0 ∨ 10 ≤ w ∨ M 15 w.toNat = -1 → Q (some (xI 0)) M)) : xm 1 m_Tongue_hasPhrase [xR (some 2), xI w] M Q := by
  obtain ⟨h1, h3, h4⟩ := h
  have h5 : w < 0 ∨ 10 ≤ w ∨ (-1 ≤ M 15 w.toNat ∧ M 15 w.toNat < 31) := by
    by_cases q : w < 0 ∨ 10 ≤ w
    · omega
    · have := hp w.toNat (by omega)
      omega
  (refine xm_of (own := "DrumTongue$Tongue") rfl (by decide +kernel) tk_Tongue [some (xR (some 2)), some (xI w)] (Nat.le_of_ble_eq_true rfl) rfl ?_; intro D nx X C P hW)
  refine xg hW k_Tongue_hasPhrase [] 40 ?_
  ((repeat' (first | (with_reducible refine And.intro ?_ ?_) | (intro h0; exact absurd h0 (by decide)) | (intro _) | ((conv => whnf); (first | (with_reducible refine And.intro ?_ ?_) | (intro h0; exact absurd h0 (by decide)) | (intro _))))); (all_goals (try omega)); (all_goals (try exact Nat.le_of_ble_eq_true rfl)); (all_goals (try ((conv => whnf); (first | (refine hW.2.1 _ _ ?_) | (change X _ _ _ _ _ _) | (change C _ _ _ _ _ _ _))))); (all_goals (try simp only [xup_at, xup_ne, xup_up, ne_eq, Nat.reduceEqDiff, not_false_eq_true, Int.toNat_natCast] at *)); (all_goals (try omega)))
  all_goals first | exact h3 (by omega) (by omega) (by omega) | exact h4 (by omega)
/-- of a word in range -/
theorem c_hasPhraseI {M : xM} {Q : Option xV → xM → Prop} {w : Int} (hp : phOk M) (h : (0 ≤ w ∧ w < 10) ∧ (M 15 w.toNat ≠ -1 → Q (some (xI 1)) M) ∧ (M 15 w.toNat = -1 → Q (some (xI 0)) M)) : xm 1 m_Tongue_hasPhrase [xR (some 2), xI w] M Q :=
  c_hasPhrase hp ⟨⟨by omega, by omega⟩, fun _ _ => h.2.1, fun q => h.2.2 (by omega)⟩
theorem c_hasPhraseY {M : xM} {Q : Option xV → xM → Prop} {w : Int} (hp : phOk M) (h : (0 ≤ w ∧ w < 10 ∧ M 15 w.toNat ≠ -1) ∧ Q (some (xI 1)) M) : xm 1 m_Tongue_hasPhrase [xR (some 2), xI w] M Q :=
  c_hasPhrase hp ⟨⟨by omega, by omega⟩, fun _ _ _ => h.2, fun q => by omega⟩
set_option maxRecDepth 100000 in
theorem c_phraseSize {M : xM} {Q : Option xV → xM → Prop} {w : Int} (hp : phOk M) (h : (0 ≤ w ∧ w < 10) ∧ (M 15 w.toNat ≠ -1 → Q (some (xI (M 16 w.toNat))) M) ∧ (M 15 w.toNat = -1 → Q (some (xI 0)) M)) : xm 2 m_Tongue_phraseSize [xR (some 2), xI w] M Q := by
  obtain ⟨h1, h3, h4⟩ := h
  (refine xm_of (own := "DrumTongue$Tongue") rfl (by decide +kernel) tk_Tongue [some (xR (some 2)), some (xI w)] (Nat.le_of_ble_eq_true rfl) rfl ?_; intro D nx X C P hW)
  refine xg hW k_Tongue_phraseSize [] 40 ?_
  ((repeat' (first | (with_reducible refine And.intro ?_ ?_) | (intro h0; exact absurd h0 (by decide)) | (intro _) | ((conv => whnf); (first | (with_reducible refine And.intro ?_ ?_) | (intro h0; exact absurd h0 (by decide)) | (intro _) | (refine hW.1 _ _ _ _ _ _ (c_hasPhraseI hp ?_) (by first | decide | omega) (by decide) (Nat.le_of_ble_eq_true rfl)))))); (all_goals (try omega)); (all_goals (try exact Nat.le_of_ble_eq_true rfl)); (all_goals (try ((conv => whnf); (first | (refine hW.2.1 _ _ ?_) | (change X _ _ _ _ _ _) | (change C _ _ _ _ _ _ _))))); (all_goals (try simp only [xup_at, xup_ne, xup_up, ne_eq, Nat.reduceEqDiff, not_false_eq_true, Int.toNat_natCast] at *)); (all_goals (try omega)))
  all_goals first | exact h3 (by omega) | exact h4 (by omega)
theorem c_phraseSizeY {M : xM} {Q : Option xV → xM → Prop} {w : Int} (hp : phOk M) (h : (0 ≤ w ∧ w < 10 ∧ M 15 w.toNat ≠ -1) ∧ Q (some (xI (M 16 w.toNat))) M) : xm 2 m_Tongue_phraseSize [xR (some 2), xI w] M Q :=
  c_phraseSize hp ⟨⟨by omega, by omega⟩, fun _ => h.2, fun q => by omega⟩
set_option maxRecDepth 100000 in
theorem c_phraseBeat {M : xM} {Q : Option xV → xM → Prop} {w i : Int} (hp : phOk M) (h : (0 ≤ w ∧ w < 10 ∧ xrg i) ∧ (M 15 w.toNat ≠ -1 → 0 ≤ i → i < M 16 w.toNat → Q (some (xI (btOf (M 16 w.toNat) (M 17 w.toNat) i.toNat))) M) ∧ (M 15 w.toNat = -1 ∨ i < 0 ∨ M 16 w.toNat ≤ i → Q (some (xI (-1))) M)) : xm 2 m_Tongue_phraseBeat [xR (some 2), xI w, xI i] M Q := by
  obtain ⟨⟨h1, h1', h2⟩, h3, h4⟩ := h
  have hp' := hp w.toNat (by omega)
  obtain ⟨-, -, p1⟩ := hp'
  by_cases hc : M 15 w.toNat = -1
  · (refine xm_of (own := "DrumTongue$Tongue") rfl (by decide +kernel) tk_Tongue [some (xR (some 2)), some (xI w), some (xI i)] (Nat.le_of_ble_eq_true rfl) rfl ?_; intro D nx X C P hW)
    refine xg hW k_Tongue_phraseBeat [] 40 ?_
    ((repeat' (first | (with_reducible refine And.intro ?_ ?_) | (intro h0; exact absurd h0 (by decide)) | (intro _) | ((conv => whnf); (first | (with_reducible refine And.intro ?_ ?_) | (intro h0; exact absurd h0 (by decide)) | (intro _) | (refine hW.1 _ _ _ _ _ _ (c_hasPhraseI hp ?_) (by first | decide | omega) (by decide) (Nat.le_of_ble_eq_true rfl)))))); (all_goals (try omega)); (all_goals (try exact Nat.le_of_ble_eq_true rfl)); (all_goals (try ((conv => whnf); (first | (refine hW.2.1 _ _ ?_) | (change X _ _ _ _ _ _) | (change C _ _ _ _ _ _ _))))); (all_goals (try simp only [xup_at, xup_ne, xup_up, ne_eq, Nat.reduceEqDiff, not_false_eq_true, Int.toNat_natCast] at *)); (all_goals (try omega)))
    all_goals first | exact h4 (by omega) | exact absurd hc (by assumption)
  · obtain ⟨p0, p2, p3, p4, p5⟩ := p1 hc
    (refine xm_of (own := "DrumTongue$Tongue") rfl (by decide +kernel) tk_Tongue [some (xR (some 2)), some (xI w), some (xI i)] (Nat.le_of_ble_eq_true rfl) rfl ?_; intro D nx X C P hW)
    refine xg hW k_Tongue_phraseBeat [] 40 ?_
    ((repeat' (first | (with_reducible refine And.intro ?_ ?_) | (intro h0; exact absurd h0 (by decide)) | (intro _) | ((conv => whnf); (first | (with_reducible refine And.intro ?_ ?_) | (intro h0; exact absurd h0 (by decide)) | (intro _) | (refine hW.1 _ _ _ _ _ _ (c_hasPhraseY hp ?_) (by first | decide | omega) (by decide) (Nat.le_of_ble_eq_true rfl)))))); (all_goals (try omega)); (all_goals (try exact Nat.le_of_ble_eq_true rfl)); (all_goals (try ((conv => whnf); (first | (refine hW.2.1 _ _ ?_) | (change X _ _ _ _ _ _) | (change C _ _ _ _ _ _ _))))); (all_goals (try simp only [xup_at, xup_ne, xup_up, ne_eq, Nat.reduceEqDiff, not_false_eq_true, Int.toNat_natCast] at *)); (all_goals (try omega)))
    all_goals first | exact h4 (by omega) | skip
    rw [xbit (by omega) (by omega) (by omega) (by omega)]
    have h6 := h3 hc (by omega) (by omega)
    unfold btOf at h6
    rw [show (M 16 w.toNat - 1 - i).toNat = (M 16 w.toNat).toNat - 1 - i.toNat by omega]
    exact h6
theorem c_phraseBeatY {M : xM} {Q : Option xV → xM → Prop} {w i : Int} (hp : phOk M) (h : (0 ≤ w ∧ w < 10 ∧ M 15 w.toNat ≠ -1 ∧ 0 ≤ i ∧ i < M 16 w.toNat) ∧ Q (some (xI (btOf (M 16 w.toNat) (M 17 w.toNat) i.toNat))) M) : xm 2 m_Tongue_phraseBeat [xR (some 2), xI w, xI i] M Q := by
  have := (hp w.toNat (by omega)).2.2 h.1.2.2.1
  exact c_phraseBeat hp ⟨⟨by omega, by omega, by omega, by have := this.2.2.1; omega⟩, fun _ _ _ => h.2, fun q => by omega⟩
set_option maxRecDepth 100000 in
theorem c_phraseEnding {M : xM} {Q : Option xV → xM → Prop} {w i : Int} (hp : phOk M) (ht : 0 ≤ M 10 2 ∧ M 10 2 ≤ 31) (h : (0 ≤ w ∧ w < 10 ∧ xrg i ∧ M 15 w.toNat < M 10 2) ∧ (M 15 w.toNat ≠ -1 → (i = 0 → Q (some (xI (M 13 (M 15 w.toNat).toNat))) M) ∧ (i = 1 → Q (some (xI (M 14 (M 15 w.toNat).toNat))) M) ∧ (i ≠ 0 → i ≠ 1 → Q (some (xI (-1))) M)) ∧ (M 15 w.toNat = -1 → Q (some (xI (-1))) M)) : xm 3 m_Tongue_phraseEnding [xR (some 2), xI w, xI i] M Q := by
  obtain ⟨⟨h1, h1', h2, h5⟩, h3, h4⟩ := h
  obtain ⟨p1, p2, -⟩ := hp w.toNat (by omega)
  by_cases hc : M 15 w.toNat = -1
  · (refine xm_of (own := "DrumTongue$Tongue") rfl (by decide +kernel) tk_Tongue [some (xR (some 2)), some (xI w), some (xI i)] (Nat.le_of_ble_eq_true rfl) rfl ?_; intro D nx X C P hW)
    refine xg hW k_Tongue_phraseEnding [] 40 ?_
    ((repeat' (first | (with_reducible refine And.intro ?_ ?_) | (intro h0; exact absurd h0 (by decide)) | (intro _) | ((conv => whnf); (first | (with_reducible refine And.intro ?_ ?_) | (intro h0; exact absurd h0 (by decide)) | (intro _) | (refine hW.1 _ _ _ _ _ _ (c_hasPhraseI hp ?_) (by first | decide | omega) (by decide) (Nat.le_of_ble_eq_true rfl)))))); (all_goals (try omega)); (all_goals (try exact Nat.le_of_ble_eq_true rfl)); (all_goals (try ((conv => whnf); (first | (refine hW.2.1 _ _ ?_) | (change X _ _ _ _ _ _) | (change C _ _ _ _ _ _ _))))); (all_goals (try simp only [xup_at, xup_ne, xup_up, ne_eq, Nat.reduceEqDiff, not_false_eq_true, Int.toNat_natCast] at *)); (all_goals (try omega)))
    all_goals first | exact h4 (by omega) | exact absurd hc (by assumption)
  · obtain ⟨h6, h7, h8⟩ := h3 hc
    (refine xm_of (own := "DrumTongue$Tongue") rfl (by decide +kernel) tk_Tongue [some (xR (some 2)), some (xI w), some (xI i)] (Nat.le_of_ble_eq_true rfl) rfl ?_; intro D nx X C P hW)
    refine xg hW k_Tongue_phraseEnding [] 40 ?_
    ((repeat' (first | (with_reducible refine And.intro ?_ ?_) | (intro h0; exact absurd h0 (by decide)) | (intro _) | ((conv => whnf); (first | (with_reducible refine And.intro ?_ ?_) | (intro h0; exact absurd h0 (by decide)) | (intro _) | (refine hW.1 _ _ _ _ _ _ (c_hasPhraseY hp ?_) (by first | decide | omega) (by decide) (Nat.le_of_ble_eq_true rfl)) | (refine hW.1 _ _ _ _ _ _ (c_Tails_endingAt ?_) (by first | decide | omega) (by decide) (Nat.le_of_ble_eq_true rfl)))))); (all_goals (try omega)); (all_goals (try exact Nat.le_of_ble_eq_true rfl)); (all_goals (try ((conv => whnf); (first | (refine hW.2.1 _ _ ?_) | (change X _ _ _ _ _ _) | (change C _ _ _ _ _ _ _))))); (all_goals (try simp only [xup_at, xup_ne, xup_up, ne_eq, Nat.reduceEqDiff, not_false_eq_true, Int.toNat_natCast] at *)); (all_goals (try omega)))
    all_goals first | exact h6 (by omega) | exact h7 (by omega) | exact h8 (by omega) (by omega) | skip
def cntP (c : Nat → Int) : Nat → Int
  | 0 => 0
  | k + 1 => cntP c k + (if c k = -1 then 0 else 1)
theorem cntP_rg (c : Nat → Int) : ∀ k, 0 ≤ cntP c k ∧ cntP c k ≤ k
  | 0 => by simp [cntP]
  | k + 1 => by have := cntP_rg c k; rw [cntP]; split <;> omega
def sumP (c s : Nat → Int) : Nat → Int
  | 0 => 0
  | k + 1 => sumP c s k + (if c k = -1 then 0 else s k)
set_option maxRecDepth 100000 in
theorem c_phraseCount {M : xM} {Q : Option xV → xM → Prop} (hp : phOk M) (hw : 0 ≤ M 3 2 ∧ M 3 2 ≤ 10) (h : Q (some (xI (cntP (M 15) (M 3 2).toNat))) M) : xm 2 m_Tongue_phraseCount [xR (some 2)] M Q := by
  obtain ⟨n, hn⟩ := Int.eq_ofNat_of_zero_le hw.1
  rw [show (M 3 2).toNat = n by omega] at h
  (refine xm_of (own := "DrumTongue$Tongue") rfl (by decide +kernel) tk_Tongue [some (xR (some 2)), none, none] (Nat.le_of_ble_eq_true rfl) rfl ?_; intro D nx X C P hW)
  have loop : ∀ (m i : Nat), i + m = n → X 4 [some (xR (some 2)), some (xI (cntP (M 15) i)), some (xI (i : Int))] [] (M, D, nx) 0 0 := by
    intro m
    induction m with
    | zero =>
      intro i hi
      refine xg hW k_Tongue_phraseCount [4] 40 ?_
      ((repeat' (first | (with_reducible refine And.intro ?_ ?_) | (intro h0; exact absurd h0 (by decide)) | (intro _) | ((conv => whnf); (first | (with_reducible refine And.intro ?_ ?_) | (intro h0; exact absurd h0 (by decide)) | (intro _) | (refine hW.1 _ _ _ _ _ _ (c_used_W ?_) (by first | decide | omega) (by decide) (Nat.le_of_ble_eq_true rfl)))))); (all_goals (try omega)); (all_goals (try exact Nat.le_of_ble_eq_true rfl)); (all_goals (try ((conv => whnf); (first | (refine hW.2.1 _ _ ?_) | (change X _ _ _ _ _ _) | (change C _ _ _ _ _ _ _))))); (all_goals (try simp only [xup_at, xup_ne, xup_up, ne_eq, Nat.reduceEqDiff, not_false_eq_true, Int.toNat_natCast] at *)); (all_goals (try omega)))
      obtain rfl : i = n := by omega
      exact h
    | succ m ih =>
      intro i hi
      have h1 := ih (i + 1) (by omega)
      rw [cntP] at h1
      refine xg hW k_Tongue_phraseCount [4] 40 ?_
      ((repeat' (first | (with_reducible refine And.intro ?_ ?_) | (intro h0; exact absurd h0 (by decide)) | (intro _) | ((conv => whnf); (first | (with_reducible refine And.intro ?_ ?_) | (intro h0; exact absurd h0 (by decide)) | (intro _) | (refine hW.1 _ _ _ _ _ _ (c_used_W ?_) (by first | decide | omega) (by decide) (Nat.le_of_ble_eq_true rfl)) | (refine hW.1 _ _ _ _ _ _ (c_hasPhraseI hp ?_) (by first | decide | omega) (by decide) (Nat.le_of_ble_eq_true rfl)))))); (all_goals (try omega)); (all_goals (try exact Nat.le_of_ble_eq_true rfl)); (all_goals (try ((conv => whnf); (first | (refine hW.2.1 _ _ ?_) | (change X _ _ _ _ _ _) | (change C _ _ _ _ _ _ _))))); (all_goals (try simp only [xup_at, xup_ne, xup_up, ne_eq, Nat.reduceEqDiff, not_false_eq_true, Int.toNat_natCast] at *)); (all_goals (try omega)))
      · rw [if_neg (by assumption)] at h1
        exact h1
      · rw [if_pos (by assumption)] at h1
        exact h1
  refine xg hW k_Tongue_phraseCount [4] 40 ?_
  ((repeat' (first | (with_reducible refine And.intro ?_ ?_) | (intro h0; exact absurd h0 (by decide)) | (intro _) | ((conv => whnf); (first | (with_reducible refine And.intro ?_ ?_) | (intro h0; exact absurd h0 (by decide)) | (intro _))))); (all_goals (try omega)); (all_goals (try exact Nat.le_of_ble_eq_true rfl)); (all_goals (try ((conv => whnf); (first | (refine hW.2.1 _ _ ?_) | (change X _ _ _ _ _ _) | (change C _ _ _ _ _ _ _))))); (all_goals (try simp only [xup_at, xup_ne, xup_up, ne_eq, Nat.reduceEqDiff, not_false_eq_true, Int.toNat_natCast] at *)); (all_goals (try omega)))
  exact loop n 0 (by omega)
set_option maxRecDepth 100000 in
theorem c_beatsOfAll {M : xM} {Q : Option xV → xM → Prop} (hp : phOk M) (hw : 0 ≤ M 3 2 ∧ M 3 2 ≤ 10) (h : Q (some (xI (sumP (M 15) (M 16) (M 3 2).toNat))) M) : xm 3 m_Tongue_beatsOfAllPhrases [xR (some 2)] M Q := by
  obtain ⟨n, hn⟩ := Int.eq_ofNat_of_zero_le hw.1
  rw [show (M 3 2).toNat = n by omega] at h
  (refine xm_of (own := "DrumTongue$Tongue") rfl (by decide +kernel) tk_Tongue [some (xR (some 2)), none, none] (Nat.le_of_ble_eq_true rfl) rfl ?_; intro D nx X C P hW)
  have loop : ∀ (m i : Nat), i + m = n → X 4 [some (xR (some 2)), some (xI (sumP (M 15) (M 16) i)), some (xI (i : Int))] [] (M, D, nx) 0 0 := by
    intro m
    induction m with
    | zero =>
      intro i hi
      refine xg hW k_Tongue_beatsOfAllPhrases [4] 40 ?_
      ((repeat' (first | (with_reducible refine And.intro ?_ ?_) | (intro h0; exact absurd h0 (by decide)) | (intro _) | ((conv => whnf); (first | (with_reducible refine And.intro ?_ ?_) | (intro h0; exact absurd h0 (by decide)) | (intro _) | (refine hW.1 _ _ _ _ _ _ (c_used_W ?_) (by first | decide | omega) (by decide) (Nat.le_of_ble_eq_true rfl)))))); (all_goals (try omega)); (all_goals (try exact Nat.le_of_ble_eq_true rfl)); (all_goals (try ((conv => whnf); (first | (refine hW.2.1 _ _ ?_) | (change X _ _ _ _ _ _) | (change C _ _ _ _ _ _ _))))); (all_goals (try simp only [xup_at, xup_ne, xup_up, ne_eq, Nat.reduceEqDiff, not_false_eq_true, Int.toNat_natCast] at *)); (all_goals (try omega)))
      obtain rfl : i = n := by omega
      exact h
    | succ m ih =>
      intro i hi
      have h1 := ih (i + 1) (by omega)
      rw [sumP] at h1
      refine xg hW k_Tongue_beatsOfAllPhrases [4] 40 ?_
      ((repeat' (first | (with_reducible refine And.intro ?_ ?_) | (intro h0; exact absurd h0 (by decide)) | (intro _) | ((conv => whnf); (first | (with_reducible refine And.intro ?_ ?_) | (intro h0; exact absurd h0 (by decide)) | (intro _) | (refine hW.1 _ _ _ _ _ _ (c_used_W ?_) (by first | decide | omega) (by decide) (Nat.le_of_ble_eq_true rfl)) | (refine hW.1 _ _ _ _ _ _ (c_phraseSize hp ?_) (by first | decide | omega) (by decide) (Nat.le_of_ble_eq_true rfl)))))); (all_goals (try omega)); (all_goals (try exact Nat.le_of_ble_eq_true rfl)); (all_goals (try ((conv => whnf); (first | (refine hW.2.1 _ _ ?_) | (change X _ _ _ _ _ _) | (change C _ _ _ _ _ _ _))))); (all_goals (try simp only [xup_at, xup_ne, xup_up, ne_eq, Nat.reduceEqDiff, not_false_eq_true, Int.toNat_natCast] at *)); (all_goals (try omega)))
      · rw [if_neg (by assumption)] at h1
        exact h1
      · rw [if_pos (by assumption)] at h1
        exact h1
  refine xg hW k_Tongue_beatsOfAllPhrases [4] 40 ?_
  ((repeat' (first | (with_reducible refine And.intro ?_ ?_) | (intro h0; exact absurd h0 (by decide)) | (intro _) | ((conv => whnf); (first | (with_reducible refine And.intro ?_ ?_) | (intro h0; exact absurd h0 (by decide)) | (intro _))))); (all_goals (try omega)); (all_goals (try exact Nat.le_of_ble_eq_true rfl)); (all_goals (try ((conv => whnf); (first | (refine hW.2.1 _ _ ?_) | (change X _ _ _ _ _ _) | (change C _ _ _ _ _ _ _))))); (all_goals (try simp only [xup_at, xup_ne, xup_up, ne_eq, Nat.reduceEqDiff, not_false_eq_true, Int.toNat_natCast] at *)); (all_goals (try omega)))
  exact loop n 0 (by omega)
