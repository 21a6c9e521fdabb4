/-! what may stand behind a word: (how many endings, the first, the second) -/
abbrev xTl : Type := Nat × Nat × Nat
def szT (es : Nat → Int) : xTl → Int
  | (0, _, _) => 0
  | (1, a, _) => es a
  | (_, a, b) => es a + es b
def nuT (es eb : Nat → Int) : xTl → Int
  | (0, _, _) => 0
  | (1, a, _) => eb a
  | (_, a, b) => eb a * 2 ^ (es b).toNat + eb b
def fsT : xTl → Int
  | (0, _, _) => -1
  | (_, a, _) => a
def snT : xTl → Int
  | (0, _, _) => -1
  | (1, _, _) => -1
  | (_, _, b) => b
/-- the tails are l, all else is as in M0 -/
def TR (M0 : xM) (l : List xTl) (M : xM) : Prop := (∀ a, (a < 10 ∨ 14 < a) → M a = M0 a) ∧ M 10 2 = l.length ∧ ∀ t x, l[t]? = some x → M 11 t = szT (M0 7) x ∧ M 12 t = nuT (M0 7) (M0 8) x ∧ M 13 t = fsT x ∧ M 14 t = snT x
theorem TR_push {M0 M : xM} {l : List xTl} {x : xTl} {sz nu fs sn : Int} (h : TR M0 l M) (e1 : sz = szT (M0 7) x) (e2 : nu = nuT (M0 7) (M0 8) x) (e3 : fs = fsT x) (e4 : sn = snT x) : TR M0 (l ++ [x]) (rAdd_LR (xup (xup M 13 (xup (M 13) l.length fs)) 14 (xup (M 14) l.length sn)) sz nu) := by
  obtain ⟨h1, h2, h3⟩ := h
  have hu : (M 10 2).toNat = l.length := by rw [h2]; rfl
  refine ⟨fun a ha => ?_, ?_, fun t y hy => ?_⟩
  · rw [← h1 a ha]
    have n1 : a ≠ 10 := by omega
    have n2 : a ≠ 11 := by omega
    have n3 : a ≠ 12 := by omega
    have n4 : a ≠ 13 := by omega
    have n5 : a ≠ 14 := by omega
    unfold rAdd_LR
    rw [xup_ne n1, xup_ne n3, xup_ne n2, xup_ne n5, xup_ne n4]
  · unfold rAdd_LR
    simp only [xup_at, xup_ne, xup_up, ne_eq, Nat.reduceEqDiff, not_false_eq_true, Int.toNat_natCast]
    rw [h2, List.length_append]
    rfl
  · have hc : (t < l.length ∧ l[t]? = some y) ∨ (t = l.length ∧ y = x) := by
      rcases Nat.lt_trichotomy t l.length with q | q | q
      · rw [List.getElem?_append_left q] at hy
        exact Or.inl ⟨q, hy⟩
      · subst q
        rw [List.getElem?_append_right (Nat.le_refl _), Nat.sub_self] at hy
        exact Or.inr ⟨rfl, (Option.some.inj hy).symm⟩
      · rw [List.getElem?_eq_none (by rw [List.length_append]; simp; omega)] at hy
        cases hy
    unfold rAdd_LR
    simp only [xup_at, xup_ne, xup_up, ne_eq, Nat.reduceEqDiff, not_false_eq_true, Int.toNat_natCast]
    rw [hu]
    rcases hc with ⟨hl, hy⟩ | ⟨rfl, rfl⟩
    · have hne : t ≠ l.length := by omega
      rw [xup_ne hne, xup_ne hne, xup_ne hne, xup_ne hne]
      exact h3 t y hy
    · rw [xup_at, xup_at, xup_at, xup_at]
      exact ⟨e1, e2, e3, e4⟩
set_option maxRecDepth 100000 in
theorem c_Tails_used {M : xM} {Q : Option xV → xM → Prop} (h : Q (some (xI (M 10 2))) M) : xm 2 m_Tails_used [xR (some 9)] M Q := by
  (refine xm_of (own := "DrumTongue$Tails") rfl (by decide +kernel) tk_Tails [some (xR (some 9))] (Nat.le_of_ble_eq_true rfl) rfl ?_; intro D nx X C P hW)
  refine xg hW k_Tails_used [] 40 ?_
  ((repeat' (first | (with_reducible refine And.intro ?_ ?_) | (intro h0; exact absurd h0 (by decide)) | (intro _) | ((conv => whnf); (first | (with_reducible refine And.intro ?_ ?_) | (intro h0; exact absurd h0 (by decide)) | (intro _) | (refine hW.1 _ _ _ _ _ _ (c_used_LR ?_) (by first | decide | omega) (by decide) (Nat.le_of_ble_eq_true rfl)))))); (all_goals (try omega)); (all_goals (try exact Nat.le_of_ble_eq_true rfl)); (all_goals (try ((conv => whnf); (first | (refine hW.2.1 _ _ ?_) | (change X _ _ _ _ _ _) | (change C _ _ _ _ _ _ _))))); (all_goals (try simp only [xup_at, xup_ne, xup_up, ne_eq, Nat.reduceEqDiff, not_false_eq_true, Int.toNat_natCast] at *)); (all_goals (try omega)))
  all_goals exact h
set_option maxRecDepth 100000 in
theorem c_Tails_size {M : xM} {Q : Option xV → xM → Prop} {i : Int} (h : (xrg i ∧ 0 ≤ M 10 2 ∧ M 10 2 ≤ 31) ∧ (0 ≤ i → i < M 10 2 → Q (some (xI (M 11 i.toNat))) M) ∧ (i < 0 ∨ M 10 2 ≤ i → Q (some (xI 0)) M)) : xm 2 m_Tails_size [xR (some 9), xI i] M Q := by
  obtain ⟨⟨h1, h2⟩, h3, h4⟩ := h
  (refine xm_of (own := "DrumTongue$Tails") rfl (by decide +kernel) tk_Tails [some (xR (some 9)), some (xI i)] (Nat.le_of_ble_eq_true rfl) rfl ?_; intro D nx X C P hW)
  refine xg hW k_Tails_size [] 40 ?_
  ((repeat' (first | (with_reducible refine And.intro ?_ ?_) | (intro h0; exact absurd h0 (by decide)) | (intro _) | ((conv => whnf); (first | (with_reducible refine And.intro ?_ ?_) | (intro h0; exact absurd h0 (by decide)) | (intro _) | (refine hW.1 _ _ _ _ _ _ (c_size_LR ?_) (by first | decide | omega) (by decide) (Nat.le_of_ble_eq_true rfl)))))); (all_goals (try omega)); (all_goals (try exact Nat.le_of_ble_eq_true rfl)); (all_goals (try ((conv => whnf); (first | (refine hW.2.1 _ _ ?_) | (change X _ _ _ _ _ _) | (change C _ _ _ _ _ _ _))))); (all_goals (try simp only [xup_at, xup_ne, xup_up, ne_eq, Nat.reduceEqDiff, not_false_eq_true, Int.toNat_natCast] at *)); (all_goals (try omega)))
  all_goals first | exact h3 (by omega) (by omega) | exact h4 (by omega)
set_option maxRecDepth 100000 in
theorem c_Tails_number {M : xM} {Q : Option xV → xM → Prop} {i : Int} (h : (xrg i ∧ 0 ≤ M 10 2 ∧ M 10 2 ≤ 31) ∧ (0 ≤ i → i < M 10 2 → Q (some (xI (M 12 i.toNat))) M) ∧ (i < 0 ∨ M 10 2 ≤ i → Q (some (xI 0)) M)) : xm 2 m_Tails_number [xR (some 9), xI i] M Q := by
  obtain ⟨⟨h1, h2⟩, h3, h4⟩ := h
  (refine xm_of (own := "DrumTongue$Tails") rfl (by decide +kernel) tk_Tails [some (xR (some 9)), some (xI i)] (Nat.le_of_ble_eq_true rfl) rfl ?_; intro D nx X C P hW)
  refine xg hW k_Tails_number [] 40 ?_
  ((repeat' (first | (with_reducible refine And.intro ?_ ?_) | (intro h0; exact absurd h0 (by decide)) | (intro _) | ((conv => whnf); (first | (with_reducible refine And.intro ?_ ?_) | (intro h0; exact absurd h0 (by decide)) | (intro _) | (refine hW.1 _ _ _ _ _ _ (c_number_LR ?_) (by first | decide | omega) (by decide) (Nat.le_of_ble_eq_true rfl)))))); (all_goals (try omega)); (all_goals (try exact Nat.le_of_ble_eq_true rfl)); (all_goals (try ((conv => whnf); (first | (refine hW.2.1 _ _ ?_) | (change X _ _ _ _ _ _) | (change C _ _ _ _ _ _ _))))); (all_goals (try simp only [xup_at, xup_ne, xup_up, ne_eq, Nat.reduceEqDiff, not_false_eq_true, Int.toNat_natCast] at *)); (all_goals (try omega)))
  all_goals first | exact h3 (by omega) (by omega) | exact h4 (by omega)
set_option maxRecDepth 100000 in
theorem c_Tails_endingAt {M : xM} {Q : Option xV → xM → Prop} {t i : Int} (h : (xrg t ∧ xrg i ∧ 0 ≤ M 10 2 ∧ M 10 2 ≤ 31) ∧ (0 ≤ t → t < M 10 2 → (i = 0 → Q (some (xI (M 13 t.toNat))) M) ∧ (i = 1 → Q (some (xI (M 14 t.toNat))) M) ∧ (i ≠ 0 → i ≠ 1 → Q (some (xI (-1))) M)) ∧ (t < 0 ∨ M 10 2 ≤ t → Q (some (xI (-1))) M)) : xm 2 m_Tails_endingAt [xR (some 9), xI t, xI i] M Q := by
  obtain ⟨⟨h1, h2, h5⟩, h3, h4⟩ := h
  (refine xm_of (own := "DrumTongue$Tails") rfl (by decide +kernel) tk_Tails [some (xR (some 9)), some (xI t), some (xI i)] (Nat.le_of_ble_eq_true rfl) rfl ?_; intro D nx X C P hW)
  refine xg hW k_Tails_endingAt [] 40 ?_
  ((repeat' (first | (with_reducible refine And.intro ?_ ?_) | (intro h0; exact absurd h0 (by decide)) | (intro _) | ((conv => whnf); (first | (with_reducible refine And.intro ?_ ?_) | (intro h0; exact absurd h0 (by decide)) | (intro _) | (refine hW.1 _ _ _ _ _ _ (c_used_LR ?_) (by first | decide | omega) (by decide) (Nat.le_of_ble_eq_true rfl)))))); (all_goals (try omega)); (all_goals (try exact Nat.le_of_ble_eq_true rfl)); (all_goals (try ((conv => whnf); (first | (refine hW.2.1 _ _ ?_) | (change X _ _ _ _ _ _) | (change C _ _ _ _ _ _ _))))); (all_goals (try simp only [xup_at, xup_ne, xup_up, ne_eq, Nat.reduceEqDiff, not_false_eq_true, Int.toNat_natCast] at *)); (all_goals (try omega)))
  all_goals first | exact h4 (by omega) | exact (h3 (by omega) (by omega)).1 (by omega) | exact (h3 (by omega) (by omega)).2.1 (by omega) | exact (h3 (by omega) (by omega)).2.2 (by omega) (by omega)
set_option maxRecDepth 100000 in
theorem c_Tails_add {M M0 : xM} {Q : Option xV → xM → Prop} {l : List xTl} {sz nu fs sn : Int} (x : xTl) (hl : l.length < 31) (hT : TR M0 l M) (h : (sz = szT (M0 7) x ∧ nu = nuT (M0 7) (M0 8) x ∧ fs = fsT x ∧ sn = snT x) ∧ (∀ M', TR M0 (l ++ [x]) M' → Q none M')) : xm 3 m_Tails_add [xR (some 9), xI sz, xI nu, xI fs, xI sn] M Q := by
  obtain ⟨⟨e1, e2, e3, e4⟩, hq⟩ := h
  have hu := hT.2.1
  (refine xm_of (own := "DrumTongue$Tails") rfl (by decide +kernel) tk_Tails [some (xR (some 9)), some (xI sz), some (xI nu), some (xI fs), some (xI sn), none] (Nat.le_of_ble_eq_true rfl) rfl ?_; intro D nx X C P hW)
  refine xg hW k_Tails_add [] 40 ?_
  ((repeat' (first | (with_reducible refine And.intro ?_ ?_) | (intro h0; exact absurd h0 (by decide)) | (intro _) | ((conv => whnf); (first | (with_reducible refine And.intro ?_ ?_) | (intro h0; exact absurd h0 (by decide)) | (intro _) | (refine hW.1 _ _ _ _ _ _ (c_used_LR ?_) (by first | decide | omega) (by decide) (Nat.le_of_ble_eq_true rfl)) | (refine hW.1 _ _ _ _ _ _ (c_add_LR ?_) (by first | decide | omega) (by decide) (Nat.le_of_ble_eq_true rfl)))))); (all_goals (try omega)); (all_goals (try exact Nat.le_of_ble_eq_true rfl)); (all_goals (try ((conv => whnf); (first | (refine hW.2.1 _ _ ?_) | (change X _ _ _ _ _ _) | (change C _ _ _ _ _ _ _))))); (all_goals (try simp only [xup_at, xup_ne, xup_up, ne_eq, Nat.reduceEqDiff, not_false_eq_true, Int.toNat_natCast] at *)); (all_goals (try omega)))
  have h1 := hq _ (TR_push hT e1 e2 e3 e4)
  rw [hu, Int.toNat_natCast]
  exact h1
/-- the singles of one size, and the pairs, out of the first k (of the pairs with a as the first) -/
def sgl (es : Nat → Int) (z : Int) : Nat → List xTl
  | 0 => []
  | k + 1 => sgl es z k ++ (if es k = z then [(1, k, 0)] else [])
def prs1 (es : Nat → Int) (z : Int) (a : Nat) : Nat → List xTl
  | 0 => []
  | k + 1 => prs1 es z a k ++ (if es a + es k = z then [(2, a, k)] else [])
def prs (es : Nat → Int) (z : Int) (n : Nat) : Nat → List xTl
  | 0 => []
  | k + 1 => prs es z n k ++ prs1 es z k n
def tls (es : Nat → Int) (n : Nat) : Nat → List xTl
  | 0 => [(0, 0, 0)]
  | z + 1 => tls es n z ++ sgl es (z + 1 : Nat) n ++ prs es (z + 1 : Nat) n n
/-- endings are rows of 1 .. 6 beats, n of them -/
def eOk (M : xM) : Prop := 0 ≤ M 6 2 ∧ M 6 2 ≤ 5 ∧ ∀ i : Nat, (i : Int) < M 6 2 → 1 ≤ M 7 i ∧ M 7 i ≤ 6 ∧ 0 ≤ M 8 i ∧ M 8 i < 2 ^ (M 7 i).toNat
theorem TR_low {M0 M : xM} {l : List xTl} (h : TR M0 l M) (a : Nat) (ha : a < 10) : M a = M0 a := h.1 a (Or.inl ha)
theorem sgl_mono (es : Nat → Int) (z : Int) {i j : Nat} (hij : i ≤ j) : (sgl es z i).length ≤ (sgl es z j).length := by
  induction j with
  | zero => rw [show i = 0 by omega]; exact Nat.le_refl _
  | succ j ih =>
    rcases Nat.lt_or_ge i (j + 1) with q | q
    · have := ih (by omega)
      rw [sgl, List.length_append]
      omega
    · rw [show i = j + 1 by omega]; exact Nat.le_refl _
theorem prs1_mono (es : Nat → Int) (z : Int) (a : Nat) {i j : Nat} (hij : i ≤ j) : (prs1 es z a i).length ≤ (prs1 es z a j).length := by
  induction j with
  | zero => rw [show i = 0 by omega]; exact Nat.le_refl _
  | succ j ih =>
    rcases Nat.lt_or_ge i (j + 1) with q | q
    · have := ih (by omega)
      rw [prs1, List.length_append]
      omega
    · rw [show i = j + 1 by omega]; exact Nat.le_refl _
theorem prs_mono (es : Nat → Int) (z : Int) (n : Nat) {i j : Nat} (hij : i ≤ j) : (prs es z n i).length ≤ (prs es z n j).length := by
  induction j with
  | zero => rw [show i = 0 by omega]; exact Nat.le_refl _
  | succ j ih =>
    rcases Nat.lt_or_ge i (j + 1) with q | q
    · have := ih (by omega)
      rw [prs, List.length_append]
      omega
    · rw [show i = j + 1 by omega]; exact Nat.le_refl _
set_option maxRecDepth 100000 in
theorem c_addSingles {M M0 : xM} {Q : Option xV → xM → Prop} {l : List xTl} {z : Int} (he : eOk M0) (hz : xrg z) (hl : l.length + (sgl (M0 7) z (M0 6 2).toNat).length ≤ 31) (hT : TR M0 l M) (hq : ∀ M', TR M0 (l ++ sgl (M0 7) z (M0 6 2).toNat) M' → Q none M') : xm 4 m_Tails_addSingles [xR (some 9), xR (some 6), xI z] M Q := by
  obtain ⟨e1, e2, e3⟩ := he
  (refine xm_of (own := "DrumTongue$Tails") rfl (by decide +kernel) tk_Tails [some (xR (some 9)), some (xR (some 6)), some (xI z), none] (Nat.le_of_ble_eq_true rfl) rfl ?_; intro D nx X C P hW)
  have loop : ∀ (m i : Nat) (M : xM), (i : Int) + m = M0 6 2 → TR M0 (l ++ sgl (M0 7) z i) M → X 2 [some (xR (some 9)), some (xR (some 6)), some (xI z), some (xI (i : Int))] [] (M, D, nx) 0 0 := by
    intro m
    induction m with
    | zero =>
      intro i M hi hT
      have f1 : M 6 2 = M0 6 2 := by rw [TR_low hT 6 (by decide)]
      refine xg hW k_Tails_addSingles [2] 40 ?_
      ((repeat' (first | (with_reducible refine And.intro ?_ ?_) | (intro h0; exact absurd h0 (by decide)) | (intro _) | ((conv => whnf); (first | (with_reducible refine And.intro ?_ ?_) | (intro h0; exact absurd h0 (by decide)) | (intro _) | (refine hW.1 _ _ _ _ _ _ (c_used_E ?_) (by first | decide | omega) (by decide) (Nat.le_of_ble_eq_true rfl)))))); (all_goals (try omega)); (all_goals (try exact Nat.le_of_ble_eq_true rfl)); (all_goals (try ((conv => whnf); (first | (refine hW.2.1 _ _ ?_) | (change X _ _ _ _ _ _) | (change C _ _ _ _ _ _ _))))); (all_goals (try simp only [xup_at, xup_ne, xup_up, ne_eq, Nat.reduceEqDiff, not_false_eq_true, Int.toNat_natCast] at *)); (all_goals (try omega)))
      have h1 := hq M
      rw [show (M0 6 2).toNat = i by omega] at h1
      exact h1 hT
    | succ m ih =>
      intro i M hi hT
      have f1 : M 6 2 = M0 6 2 := by rw [TR_low hT 6 (by decide)]
      have f2 : M 7 i = M0 7 i := by rw [TR_low hT 7 (by decide)]
      have f3 : M 8 i = M0 8 i := by rw [TR_low hT 8 (by decide)]
      have g1 := e3 i (by omega)
      have g2 := sgl_mono (M0 7) z (show i + 1 ≤ (M0 6 2).toNat by omega)
      rw [sgl, List.length_append] at g2
      refine xg hW k_Tails_addSingles [2] 40 ?_
      ((repeat' (first | (with_reducible refine And.intro ?_ ?_) | (intro h0; exact absurd h0 (by decide)) | (intro _) | ((conv => whnf); (first | (with_reducible refine And.intro ?_ ?_) | (intro h0; exact absurd h0 (by decide)) | (intro _) | (refine hW.1 _ _ _ _ _ _ (c_used_E ?_) (by first | decide | omega) (by decide) (Nat.le_of_ble_eq_true rfl)) | (refine hW.1 _ _ _ _ _ _ (c_sizeI_E ?_) (by first | decide | omega) (by decide) (Nat.le_of_ble_eq_true rfl)) | (refine hW.1 _ _ _ _ _ _ (c_numberI_E ?_) (by first | decide | omega) (by decide) (Nat.le_of_ble_eq_true rfl)))))); (all_goals (try omega)); (all_goals (try exact Nat.le_of_ble_eq_true rfl)); (all_goals (try ((conv => whnf); (first | (refine hW.2.1 _ _ ?_) | (change X _ _ _ _ _ _) | (change C _ _ _ _ _ _ _))))); (all_goals (try simp only [xup_at, xup_ne, xup_up, ne_eq, Nat.reduceEqDiff, not_false_eq_true, Int.toNat_natCast] at *)); (all_goals (try omega)))
      · refine ih (i + 1) M (by omega) ?_
        rw [sgl, if_neg (by omega), List.append_nil]
        exact hT
      · rw [if_pos (by omega)] at g2
        refine hW.1 _ _ _ _ _ _ (c_Tails_add (1, i, 0) (by rw [List.length_append]; simp only [List.length_cons, List.length_nil] at g2; omega) hT ⟨⟨by simp only [szT]; omega, f3, rfl, rfl⟩, fun M' hT' => ?_⟩) (by decide) (by decide) (Nat.le_of_ble_eq_true rfl)
        ((repeat' (first | (with_reducible refine And.intro ?_ ?_) | (intro h0; exact absurd h0 (by decide)) | (intro _) | ((conv => whnf); (first | (with_reducible refine And.intro ?_ ?_) | (intro h0; exact absurd h0 (by decide)) | (intro _))))); (all_goals (try omega)); (all_goals (try exact Nat.le_of_ble_eq_true rfl)); (all_goals (try ((conv => whnf); (first | (refine hW.2.1 _ _ ?_) | (change X _ _ _ _ _ _) | (change C _ _ _ _ _ _ _))))); (all_goals (try simp only [xup_at, xup_ne, xup_up, ne_eq, Nat.reduceEqDiff, not_false_eq_true, Int.toNat_natCast] at *)); (all_goals (try omega)))
        refine ih (i + 1) M' (by omega) ?_
        rw [sgl, if_pos (by omega), ← List.append_assoc]
        exact hT'
  refine xg hW k_Tails_addSingles [2] 40 ?_
  ((repeat' (first | (with_reducible refine And.intro ?_ ?_) | (intro h0; exact absurd h0 (by decide)) | (intro _) | ((conv => whnf); (first | (with_reducible refine And.intro ?_ ?_) | (intro h0; exact absurd h0 (by decide)) | (intro _))))); (all_goals (try omega)); (all_goals (try exact Nat.le_of_ble_eq_true rfl)); (all_goals (try ((conv => whnf); (first | (refine hW.2.1 _ _ ?_) | (change X _ _ _ _ _ _) | (change C _ _ _ _ _ _ _))))); (all_goals (try simp only [xup_at, xup_ne, xup_up, ne_eq, Nat.reduceEqDiff, not_false_eq_true, Int.toNat_natCast] at *)); (all_goals (try omega)))
  refine loop (M0 6 2).toNat 0 M (by omega) ?_
  rw [sgl, List.append_nil]
  exact hT
theorem xior {a k b : Int} (ha : 0 ≤ a) (hb : 0 ≤ b) (hk : 0 ≤ k) (hk2 : k < 31) (h1 : b < 2 ^ k.toNat) (h2 : a * 2 ^ k.toNat + b < 2147483648) : x_ior (x_ishl a k) b = a * 2 ^ k.toNat + b := by
  obtain ⟨a, rfl⟩ := Int.eq_ofNat_of_zero_le ha
  obtain ⟨b, rfl⟩ := Int.eq_ofNat_of_zero_le hb
  obtain ⟨k, rfl⟩ := Int.eq_ofNat_of_zero_le hk
  rw [Int.toNat_natCast] at h1 h2 ⊢
  have e : ((2 : Int) ^ k) = ((2 ^ k : Nat) : Int) := (Int.natCast_pow 2 k).symm
  rw [e] at h1 h2 ⊢
  have h3 : a * 2 ^ k + b < 2 ^ 31 := by
    rw [← Int.natCast_mul, ← Int.natCast_add] at h2
    omega
  rw [xn_shl (by omega) (by omega), xn_or (by omega) (by omega), ← Int.natCast_mul, ← Int.natCast_add, Nat.mul_comm, Nat.two_pow_add_eq_or_of_lt (by omega)]
theorem xmul_lt {a b : Int} {i j : Nat} (ha : 0 ≤ a) (h1 : a < 2 ^ i) (h2 : 0 ≤ b) (h3 : b < 2 ^ j) : 0 ≤ a * 2 ^ j + b ∧ a * 2 ^ j + b < 2 ^ (i + j) := by
  have p : (0 : Int) < 2 ^ j := Int.pow_pos (by decide)
  have q : 0 ≤ a * 2 ^ j := Int.mul_nonneg ha (Int.le_of_lt p)
  have r : (a + 1) * 2 ^ j ≤ 2 ^ i * 2 ^ j := Int.mul_le_mul_of_nonneg_right (by omega) (Int.le_of_lt p)
  rw [Int.add_mul, Int.one_mul, ← Int.pow_add] at r
  omega
theorem xpow_le {i j : Nat} (h : i ≤ j) : (2 : Int) ^ i ≤ 2 ^ j := by
  have := Nat.pow_le_pow_right (n := 2) (by decide) h
  have e : ∀ k, ((2 : Int) ^ k) = ((2 ^ k : Nat) : Int) := fun k => (Int.natCast_pow 2 k).symm
  rw [e, e]
  omega
set_option maxHeartbeats 4000000 in
set_option maxRecDepth 100000 in
theorem c_addPairs {M M0 : xM} {Q : Option xV → xM → Prop} {l : List xTl} {z : Int} (he : eOk M0) (hz : xrg z) (hl : l.length + (prs (M0 7) z (M0 6 2).toNat (M0 6 2).toNat).length ≤ 31) (hT : TR M0 l M) (hq : ∀ M', TR M0 (l ++ prs (M0 7) z (M0 6 2).toNat (M0 6 2).toNat) M' → Q none M') : xm 4 m_Tails_addPairs [xR (some 9), xR (some 6), xI z] M Q := by
  obtain ⟨e1, e2, e3⟩ := he
  obtain ⟨n, hn⟩ := Int.eq_ofNat_of_zero_le e1
  have hn' : (M0 6 2).toNat = n := by omega
  rw [hn'] at hl hq
  (refine xm_of (own := "DrumTongue$Tails") rfl (by decide +kernel) tk_Tails [some (xR (some 9)), some (xR (some 6)), some (xI z), none, none] (Nat.le_of_ble_eq_true rfl) rfl ?_; intro D nx X C P hW)
  have inner : ∀ (m i a : Nat) (M : xM) (l : List xTl), i + m = n → a < n → l.length + (prs1 (M0 7) z a n).length ≤ 31 → TR M0 (l ++ prs1 (M0 7) z a i) M → (∀ M', TR M0 (l ++ prs1 (M0 7) z a n) M' → X 2 [some (xR (some 9)), some (xR (some 6)), some (xI z), some (xI ((a : Int) + 1)), some (xI (n : Int))] [] (M', D, nx) 0 0) → X 13 [some (xR (some 9)), some (xR (some 6)), some (xI z), some (xI (a : Int)), some (xI (i : Int))] [] (M, D, nx) 0 0 := by
    intro m
    induction m with
    | zero =>
      intro i a M l hi ha hl hT hk
      have f1 : M 6 2 = n := by rw [TR_low hT 6 (by decide), hn]
      refine xg hW k_Tails_addPairs [2, 13] 40 ?_
      ((repeat' (first | (with_reducible refine And.intro ?_ ?_) | (intro h0; exact absurd h0 (by decide)) | (intro _) | ((conv => whnf); (first | (with_reducible refine And.intro ?_ ?_) | (intro h0; exact absurd h0 (by decide)) | (intro _) | (refine hW.1 _ _ _ _ _ _ (c_used_E ?_) (by first | decide | omega) (by decide) (Nat.le_of_ble_eq_true rfl)))))); (all_goals (try omega)); (all_goals (try exact Nat.le_of_ble_eq_true rfl)); (all_goals (try ((conv => whnf); (first | (refine hW.2.1 _ _ ?_) | (change X _ _ _ _ _ _) | (change C _ _ _ _ _ _ _))))); (all_goals (try simp only [xup_at, xup_ne, xup_up, ne_eq, Nat.reduceEqDiff, not_false_eq_true, Int.toNat_natCast] at *)); (all_goals (try omega)))
      obtain rfl : i = n := by omega
      exact hk M hT
    | succ m ih =>
      intro i a M l hi ha hl hT hk
      have f1 : M 6 2 = n := by rw [TR_low hT 6 (by decide), hn]
      have f2 : M 7 i = M0 7 i := by rw [TR_low hT 7 (by decide)]
      have f3 : M 8 i = M0 8 i := by rw [TR_low hT 8 (by decide)]
      have f4 : M 7 a = M0 7 a := by rw [TR_low hT 7 (by decide)]
      have f5 : M 8 a = M0 8 a := by rw [TR_low hT 8 (by decide)]
      have g1 := e3 i (by omega)
      have g3 := e3 a (by omega)
      have g2 := prs1_mono (M0 7) z a (show i + 1 ≤ n by omega)
      rw [prs1, List.length_append] at g2
      refine xg hW k_Tails_addPairs [2, 13] 40 ?_
      ((repeat' (first | (with_reducible refine And.intro ?_ ?_) | (intro h0; exact absurd h0 (by decide)) | (intro _) | ((conv => whnf); (first | (with_reducible refine And.intro ?_ ?_) | (intro h0; exact absurd h0 (by decide)) | (intro _) | (refine hW.1 _ _ _ _ _ _ (c_used_E ?_) (by first | decide | omega) (by decide) (Nat.le_of_ble_eq_true rfl)) | (refine hW.1 _ _ _ _ _ _ (c_sizeI_E ?_) (by first | decide | omega) (by decide) (Nat.le_of_ble_eq_true rfl)) | (refine hW.1 _ _ _ _ _ _ (c_numberI_E ?_) (by first | decide | omega) (by decide) (Nat.le_of_ble_eq_true rfl)))))); (all_goals (try omega)); (all_goals (try exact Nat.le_of_ble_eq_true rfl)); (all_goals (try ((conv => whnf); (first | (refine hW.2.1 _ _ ?_) | (change X _ _ _ _ _ _) | (change C _ _ _ _ _ _ _))))); (all_goals (try simp only [xup_at, xup_ne, xup_up, ne_eq, Nat.reduceEqDiff, not_false_eq_true, Int.toNat_natCast] at *)); (all_goals (try omega)))
      · refine ih (i + 1) a M l (by omega) ha hl ?_ hk
        rw [prs1, if_neg (by omega), List.append_nil]
        exact hT
      · rw [if_pos (by omega)] at g2
        have p1 := xmul_lt (a := M0 8 a) (b := M0 8 i) (i := (M0 7 a).toNat) (j := (M0 7 i).toNat) (by omega) (by omega) (by omega) (by omega)
        have p2 := xpow_le (show (M0 7 a).toNat + (M0 7 i).toNat ≤ 12 by omega)
        refine hW.1 _ _ _ _ _ _ (c_Tails_add (2, a, i) (by rw [List.length_append]; simp only [List.length_cons, List.length_nil] at g2; omega) hT ⟨⟨by simp only [szT]; omega, ?_, rfl, rfl⟩, fun M' hT' => ?_⟩) (by decide) (by decide) (Nat.le_of_ble_eq_true rfl)
        · rw [f2, f3, f5]
          exact xior (by omega) (by omega) (by omega) (by omega) (by omega) (by omega)
        ((repeat' (first | (with_reducible refine And.intro ?_ ?_) | (intro h0; exact absurd h0 (by decide)) | (intro _) | ((conv => whnf); (first | (with_reducible refine And.intro ?_ ?_) | (intro h0; exact absurd h0 (by decide)) | (intro _))))); (all_goals (try omega)); (all_goals (try exact Nat.le_of_ble_eq_true rfl)); (all_goals (try ((conv => whnf); (first | (refine hW.2.1 _ _ ?_) | (change X _ _ _ _ _ _) | (change C _ _ _ _ _ _ _))))); (all_goals (try simp only [xup_at, xup_ne, xup_up, ne_eq, Nat.reduceEqDiff, not_false_eq_true, Int.toNat_natCast] at *)); (all_goals (try omega)))
        refine ih (i + 1) a M' l (by omega) ha hl ?_ hk
        rw [prs1, if_pos (by omega), ← List.append_assoc]
        exact hT'
  have outer : ∀ (m a : Nat) (M : xM) (v : Option xV), a + m = n → TR M0 (l ++ prs (M0 7) z n a) M → X 2 [some (xR (some 9)), some (xR (some 6)), some (xI z), some (xI (a : Int)), v] [] (M, D, nx) 0 0 := by
    intro m
    induction m with
    | zero =>
      intro a M v ha hT
      have f1 : M 6 2 = n := by rw [TR_low hT 6 (by decide), hn]
      refine xg hW k_Tails_addPairs [2, 13] 40 ?_
      ((repeat' (first | (with_reducible refine And.intro ?_ ?_) | (intro h0; exact absurd h0 (by decide)) | (intro _) | ((conv => whnf); (first | (with_reducible refine And.intro ?_ ?_) | (intro h0; exact absurd h0 (by decide)) | (intro _) | (refine hW.1 _ _ _ _ _ _ (c_used_E ?_) (by first | decide | omega) (by decide) (Nat.le_of_ble_eq_true rfl)))))); (all_goals (try omega)); (all_goals (try exact Nat.le_of_ble_eq_true rfl)); (all_goals (try ((conv => whnf); (first | (refine hW.2.1 _ _ ?_) | (change X _ _ _ _ _ _) | (change C _ _ _ _ _ _ _))))); (all_goals (try simp only [xup_at, xup_ne, xup_up, ne_eq, Nat.reduceEqDiff, not_false_eq_true, Int.toNat_natCast] at *)); (all_goals (try omega)))
      obtain rfl : a = n := by omega
      exact hq M hT
    | succ m ih =>
      intro a M v ha hT
      have f1 : M 6 2 = n := by rw [TR_low hT 6 (by decide), hn]
      have g2 := prs_mono (M0 7) z n (show a + 1 ≤ n by omega)
      rw [prs, List.length_append] at g2
      refine xg hW k_Tails_addPairs [2, 13] 40 ?_
      ((repeat' (first | (with_reducible refine And.intro ?_ ?_) | (intro h0; exact absurd h0 (by decide)) | (intro _) | ((conv => whnf); (first | (with_reducible refine And.intro ?_ ?_) | (intro h0; exact absurd h0 (by decide)) | (intro _) | (refine hW.1 _ _ _ _ _ _ (c_used_E ?_) (by first | decide | omega) (by decide) (Nat.le_of_ble_eq_true rfl)))))); (all_goals (try omega)); (all_goals (try exact Nat.le_of_ble_eq_true rfl)); (all_goals (try ((conv => whnf); (first | (refine hW.2.1 _ _ ?_) | (change X _ _ _ _ _ _) | (change C _ _ _ _ _ _ _))))); (all_goals (try simp only [xup_at, xup_ne, xup_up, ne_eq, Nat.reduceEqDiff, not_false_eq_true, Int.toNat_natCast] at *)); (all_goals (try omega)))
      refine inner n 0 a M (l ++ prs (M0 7) z n a) (by omega) (by omega) (by rw [List.length_append]; omega) ?_ fun M' hT' => ?_
      · rw [prs1, List.append_nil]
        exact hT
      · refine ih (a + 1) M' _ (by omega) ?_
        rw [prs, ← List.append_assoc]
        exact hT'
  refine xg hW k_Tails_addPairs [2, 13] 40 ?_
  ((repeat' (first | (with_reducible refine And.intro ?_ ?_) | (intro h0; exact absurd h0 (by decide)) | (intro _) | ((conv => whnf); (first | (with_reducible refine And.intro ?_ ?_) | (intro h0; exact absurd h0 (by decide)) | (intro _))))); (all_goals (try omega)); (all_goals (try exact Nat.le_of_ble_eq_true rfl)); (all_goals (try ((conv => whnf); (first | (refine hW.2.1 _ _ ?_) | (change X _ _ _ _ _ _) | (change C _ _ _ _ _ _ _))))); (all_goals (try simp only [xup_at, xup_ne, xup_up, ne_eq, Nat.reduceEqDiff, not_false_eq_true, Int.toNat_natCast] at *)); (all_goals (try omega)))
  refine outer n 0 M none (by omega) ?_
  rw [prs, List.append_nil]
  exact hT
/-! how many tails there are -/
def cnt (p : Nat → Bool) : Nat → Nat
  | 0 => 0
  | k + 1 => cnt p k + (if p k then 1 else 0)
theorem cnt_le (p : Nat → Bool) : ∀ k, cnt p k ≤ k
  | 0 => Nat.le_refl _
  | k + 1 => by have := cnt_le p k; rw [cnt]; split <;> omega
theorem cnt_or {p q r : Nat → Bool} : ∀ {k : Nat}, (∀ i, i < k → ¬ (p i = true ∧ q i = true)) → (∀ i, i < k → (p i = true ∨ q i = true) → r i = true) → cnt p k + cnt q k ≤ cnt r k
  | 0, _, _ => Nat.le_refl _
  | k + 1, h, h2 => by
    have h3 := cnt_or (k := k) (fun i hi => h i (by omega)) (fun i hi => h2 i (by omega))
    have h4 := h k (by omega)
    have h5 := h2 k (by omega)
    rw [cnt, cnt, cnt]
    cases hp : p k <;> cases hq : q k <;> cases hr : r k <;> simp [hp, hq, hr] at h4 h5 ⊢ <;> omega
theorem sgl_len (es : Nat → Int) (z : Int) : ∀ k, (sgl es z k).length = cnt (fun a => decide (es a = z)) k
  | 0 => rfl
  | k + 1 => by
    rw [sgl, List.length_append, sgl_len es z k, cnt]
    by_cases h : es k = z <;> simp [h]
theorem prs1_len (es : Nat → Int) (z : Int) (a : Nat) : ∀ k, (prs1 es z a k).length = cnt (fun b => decide (es a + es b = z)) k
  | 0 => rfl
  | k + 1 => by
    rw [prs1, List.length_append, prs1_len es z a k, cnt]
    by_cases h : es a + es k = z <;> simp [h]
def cntS (es : Nat → Int) (z : Int) (n : Nat) : Nat → Nat
  | 0 => 0
  | a + 1 => cntS es z n a + cnt (fun b => decide (es a + es b ≤ z)) n
theorem prs_len (es : Nat → Int) (z : Int) (n : Nat) : ∀ k, (prs es (z + 1) n k).length + cntS es z n k ≤ cntS es (z + 1) n k
  | 0 => Nat.le_refl _
  | k + 1 => by
    have h1 := prs_len es z n k
    have h2 := cnt_or (p := fun b => decide (es k + es b = z + 1)) (q := fun b => decide (es k + es b ≤ z)) (r := fun b => decide (es k + es b ≤ z + 1)) (k := n) (fun i _ => by simp only [decide_eq_true_eq]; omega) (fun i _ => by simp only [decide_eq_true_eq]; omega)
    rw [prs, List.length_append, prs1_len, cntS, cntS]
    omega
theorem cntS_le (es : Nat → Int) (z : Int) (n : Nat) : ∀ k, cntS es z n k ≤ k * n
  | 0 => by simp [cntS]
  | k + 1 => by
    have h1 := cntS_le es z n k
    have h2 := cnt_le (fun b => decide (es k + es b ≤ z)) n
    rw [cntS, Nat.add_mul]
    omega
theorem tls_len (es : Nat → Int) (n : Nat) : ∀ z : Nat, (tls es n z).length ≤ 1 + cnt (fun a => decide (es a ≤ z)) n + cntS es z n n
  | 0 => by rw [tls]; simp only [List.length_cons, List.length_nil]; omega
  | z + 1 => by
    have h1 := tls_len es n z
    have h2 := prs_len es z n n
    have h3 := cnt_or (p := fun a => decide (es a = (z + 1 : Nat))) (q := fun a => decide (es a ≤ z)) (r := fun a => decide (es a ≤ (z + 1 : Nat))) (k := n) (fun i _ => by simp only [decide_eq_true_eq]; omega) (fun i _ => by simp only [decide_eq_true_eq]; omega)
    rw [tls, List.length_append, List.length_append, sgl_len]
    rw [show ((z + 1 : Nat) : Int) = (z : Int) + 1 from rfl] at *
    omega
theorem tls_31 (es : Nat → Int) {n : Nat} (hn : n ≤ 5) (z : Nat) : (tls es n z).length ≤ 31 := by
  have h1 := tls_len es n z
  have h2 := cnt_le (fun a => decide (es a ≤ z)) n
  have h3 := cntS_le es z n n
  have h4 : n * n ≤ 25 := Nat.mul_le_mul hn hn
  omega
/-- the tail without endings stands first -/
def tl0 (M : xM) : Prop := 1 ≤ M 10 2 ∧ M 10 2 ≤ 31 ∧ M 11 0 = 0 ∧ M 12 0 = 0 ∧ M 13 0 = -1 ∧ M 14 0 = -1
theorem tl0_TR {M M' : xM} (h : tl0 M) (h1 : ∀ a, (a < 10 ∨ 14 < a) → M' a = M a) (h2 : M' 10 2 = 1) (h3 : M' 11 = M 11) (h4 : M' 12 = M 12) (h5 : M' 13 = M 13) (h6 : M' 14 = M 14) : TR M (tls (M 7) (M 6 2).toNat 0) M' := by
  obtain ⟨-, -, z1, z2, z3, z4⟩ := h
  refine ⟨h1, h2, fun t x hx => ?_⟩
  have ht : t = 0 := by
    have := (List.getElem?_eq_some_iff.mp hx).1
    simp only [tls, List.length_cons, List.length_nil] at this
    omega
  subst ht
  have hx' : (0, 0, 0) = x := Option.some.inj hx
  subst hx'
  rw [h3, h4, h5, h6]
  exact ⟨z1, z2, z3, z4⟩
set_option maxRecDepth 100000 in
theorem c_remake {M : xM} {Q : Option xV → xM → Prop} (he : eOk M) (h0 : tl0 M) (hq : ∀ M', TR M (tls (M 7) (M 6 2).toNat 12) M' → Q none M') : xm 5 m_Tails_remake [xR (some 9), xR (some 6)] M Q := by
  have hn : (M 6 2).toNat ≤ 5 := by have := he.2.1; omega
  (refine xm_of (own := "DrumTongue$Tails") rfl (by decide +kernel) tk_Tails [some (xR (some 9)), some (xR (some 6)), none] (Nat.le_of_ble_eq_true rfl) rfl ?_; intro D nx X C P hW)
  have loop : ∀ (m z : Nat) (M' : xM), z + m = 12 → TR M (tls (M 7) (M 6 2).toNat z) M' → X 10 [some (xR (some 9)), some (xR (some 6)), some (xI ((z : Int) + 1))] [] (M', D, nx) 0 0 := by
    intro m
    induction m with
    | zero =>
      intro z M' hz hT
      refine xg hW k_Tails_remake [10] 40 ?_
      ((repeat' (first | (with_reducible refine And.intro ?_ ?_) | (intro h0; exact absurd h0 (by decide)) | (intro _) | ((conv => whnf); (first | (with_reducible refine And.intro ?_ ?_) | (intro h0; exact absurd h0 (by decide)) | (intro _))))); (all_goals (try omega)); (all_goals (try exact Nat.le_of_ble_eq_true rfl)); (all_goals (try ((conv => whnf); (first | (refine hW.2.1 _ _ ?_) | (change X _ _ _ _ _ _) | (change C _ _ _ _ _ _ _))))); (all_goals (try simp only [xup_at, xup_ne, xup_up, ne_eq, Nat.reduceEqDiff, not_false_eq_true, Int.toNat_natCast] at *)); (all_goals (try omega)))
      obtain rfl : z = 12 := by omega
      exact hq M' hT
    | succ m ih =>
      intro z M' hz hT
      have l1 := tls_31 (M 7) hn (z + 1)
      rw [tls, List.length_append, List.length_append] at l1
      refine xg hW k_Tails_remake [10] 40 ?_
      ((repeat' (first | (with_reducible refine And.intro ?_ ?_) | (intro h0; exact absurd h0 (by decide)) | (intro _) | ((conv => whnf); (first | (with_reducible refine And.intro ?_ ?_) | (intro h0; exact absurd h0 (by decide)) | (intro _))))); (all_goals (try omega)); (all_goals (try exact Nat.le_of_ble_eq_true rfl)); (all_goals (try ((conv => whnf); (first | (refine hW.2.1 _ _ ?_) | (change X _ _ _ _ _ _) | (change C _ _ _ _ _ _ _))))); (all_goals (try simp only [xup_at, xup_ne, xup_up, ne_eq, Nat.reduceEqDiff, not_false_eq_true, Int.toNat_natCast] at *)); (all_goals (try omega)))
      refine hW.1 _ _ _ _ _ _ (c_addSingles (M0 := M) he ⟨by omega, by omega⟩ (by rw [show ((z : Int) + 1) = ((z + 1 : Nat) : Int) from rfl]; omega) hT fun M2 hT2 => ?_) (by decide) (by decide) (Nat.le_of_ble_eq_true rfl)
      ((repeat' (first | (with_reducible refine And.intro ?_ ?_) | (intro h0; exact absurd h0 (by decide)) | (intro _) | ((conv => whnf); (first | (with_reducible refine And.intro ?_ ?_) | (intro h0; exact absurd h0 (by decide)) | (intro _))))); (all_goals (try omega)); (all_goals (try exact Nat.le_of_ble_eq_true rfl)); (all_goals (try ((conv => whnf); (first | (refine hW.2.1 _ _ ?_) | (change X _ _ _ _ _ _) | (change C _ _ _ _ _ _ _))))); (all_goals (try simp only [xup_at, xup_ne, xup_up, ne_eq, Nat.reduceEqDiff, not_false_eq_true, Int.toNat_natCast] at *)); (all_goals (try omega)))
      refine hW.1 _ _ _ _ _ _ (c_addPairs (M0 := M) he ⟨by omega, by omega⟩ (by rw [List.length_append, show ((z : Int) + 1) = ((z + 1 : Nat) : Int) from rfl]; omega) hT2 fun M3 hT3 => ?_) (by decide) (by decide) (Nat.le_of_ble_eq_true rfl)
      ((repeat' (first | (with_reducible refine And.intro ?_ ?_) | (intro h0; exact absurd h0 (by decide)) | (intro _) | ((conv => whnf); (first | (with_reducible refine And.intro ?_ ?_) | (intro h0; exact absurd h0 (by decide)) | (intro _))))); (all_goals (try omega)); (all_goals (try exact Nat.le_of_ble_eq_true rfl)); (all_goals (try ((conv => whnf); (first | (refine hW.2.1 _ _ ?_) | (change X _ _ _ _ _ _) | (change C _ _ _ _ _ _ _))))); (all_goals (try simp only [xup_at, xup_ne, xup_up, ne_eq, Nat.reduceEqDiff, not_false_eq_true, Int.toNat_natCast] at *)); (all_goals (try omega)))
      exact ih (z + 1) M3 (by omega) hT3
  obtain ⟨u1, u2, u3⟩ := h0
  refine xg hW k_Tails_remake [10] 40 ?_
  ((repeat' (first | (with_reducible refine And.intro ?_ ?_) | (intro h0; exact absurd h0 (by decide)) | (intro _) | ((conv => whnf); (first | (with_reducible refine And.intro ?_ ?_) | (intro h0; exact absurd h0 (by decide)) | (intro _) | (refine hW.1 _ _ _ _ _ _ (c_drop_LR ?_) (by first | decide | omega) (by decide) (Nat.le_of_ble_eq_true rfl)))))); (all_goals (try omega)); (all_goals (try exact Nat.le_of_ble_eq_true rfl)); (all_goals (try ((conv => whnf); (first | (refine hW.2.1 _ _ ?_) | (change X _ _ _ _ _ _) | (change C _ _ _ _ _ _ _))))); (all_goals (try simp only [xup_at, xup_ne, xup_up, ne_eq, Nat.reduceEqDiff, not_false_eq_true, Int.toNat_natCast] at *)); (all_goals (try omega)))
  · refine loop 12 0 _ rfl (tl0_TR ⟨u1, u2, u3⟩ (fun a ha => xup_ne (by omega)) (by rw [xup_at, xup_at]) (xup_ne (by decide)) (xup_ne (by decide)) (xup_ne (by decide)) (xup_ne (by decide)))
  · exact loop 12 0 _ rfl (tl0_TR ⟨u1, u2, u3⟩ (fun a ha => rfl) (by omega) rfl rfl rfl rfl)
