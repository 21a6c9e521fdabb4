/-! reading: the least for each count of words; spelling; doubt -/
theorem rowA_k : ∀ k : Nat, k ≤ 12 → rowA (29 + k)
  | 0, _ => ⟨rfl, by omega⟩ | 1, _ => ⟨rfl, by omega⟩ | 2, _ => ⟨rfl, by omega⟩ | 3, _ => ⟨rfl, by omega⟩ | 4, _ => ⟨rfl, by omega⟩ | 5, _ => ⟨rfl, by omega⟩ | 6, _ => ⟨rfl, by omega⟩ | 7, _ => ⟨rfl, by omega⟩ | 8, _ => ⟨rfl, by omega⟩ | 9, _ => ⟨rfl, by omega⟩ | 10, _ => ⟨rfl, by omega⟩ | 11, _ => ⟨rfl, by omega⟩ | 12, _ => ⟨rfl, by omega⟩
  | k + 13, h => absurd h (by omega)
theorem rowA_42 : rowA 42 := ⟨rfl, by omega⟩
theorem rowA_43 : rowA 43 := ⟨rfl, by omega⟩
theorem rowA_44 : rowA 44 := ⟨rfl, by omega⟩
/-- the tongue and the ear are as they were -/
def frE (M M' : xM) : Prop := ∀ a, a < 25 → M' a = M a
theorem frE_up {M M' : xM} {a : Nat} {f : Nat → Int} (ha : 25 ≤ a) (h : frE M M') : frE M (xup M' a f) := fun b hb => by rw [xup_ne (by omega)]; exact h b hb
/-- what reading asks of tongue and ear -/
def rdOk (M : xM) : Prop := earOk M ∧ phOk M ∧ 0 ≤ M 3 2 ∧ M 3 2 ≤ 10
theorem rdOk_fr {M M' : xM} (h : frE M M') (hk : rdOk M) : rdOk M' := by
  unfold rdOk earOk phOk
  rw [h 23 (by omega), h 24 (by omega), h 15 (by omega), h 16 (by omega), h 17 (by omega), h 3 (by omega)]
  exact hk
theorem wF_fr {M M' : xM} (h : frE M M') (w : Nat) (f : Nat → Int) : wF M' w f = wF M w f := by
  unfold wF
  rw [h 24 (by omega), h 16 (by omega), h 17 (by omega)]
theorem wB_fr {M M' : xM} (h : frE M M') (w : Nat) (f : Nat → Int) : wB M' w f = wB M w f := by
  unfold wB
  rw [h 24 (by omega), h 16 (by omega), h 17 (by omega), h 23 (by omega)]
theorem hP_fr {M M' : xM} (h : frE M M') {w : Int} (hp : hP M w) : hP M' w := by
  unfold hP
  rw [h 15 (by omega)]
  exact hp
theorem c_front {M M' : xM} {Q : Option xV → xM → Prop} {a : Nat} {w : Int} (fr : frE M M') (hk : rdOk M) (ha : rowA a) (hr : cR (M 23 1) (M' a)) (hw : hP M w) (hq : ∀ f : Nat → Int, (∀ j : Nat, (j : Int) ≤ M 23 1 → f j = wB M w.toNat (M' a) j) → Q none (xup M' a f)) : xm 3 m_Reader_putInFront [xR (some 25), xI w, xR (some a)] M' Q := by
  have hk' := rdOk_fr fr hk
  have e := fr 23 (by omega)
  refine c_putInFront ha hk'.1 hk'.2.1 (hP_fr fr hw) (by rw [e]; exact hr) fun f hf => hq f fun j hj => ?_
  rw [hf j (by rw [e]; exact hj), wB_fr fr]
theorem c_behind {M M' : xM} {Q : Option xV → xM → Prop} {a : Nat} {w : Int} (fr : frE M M') (hk : rdOk M) (ha : rowA a) (hr : cR (M 23 1) (M' a)) (hw : hP M w) (hq : ∀ f : Nat → Int, (∀ j : Nat, (j : Int) ≤ M 23 1 → f j = wF M w.toNat (M' a) j) → Q none (xup M' a f)) : xm 3 m_Reader_putBehind [xR (some 25), xI w, xR (some a)] M' Q := by
  have hk' := rdOk_fr fr hk
  have e := fr 23 (by omega)
  refine c_putBehind ha hk'.1 hk'.2.1 (hP_fr fr hw) (by rw [e]; exact hr) fun f hf => hq f fun j hj => ?_
  rw [hf j (by rw [e]; exact hj), wF_fr fr]
/-- the least of g behind a word of the first w, at each place -/
def lowW (M : xM) (g : Nat → Int) : Nat → Nat → Int
  | 0 => fun _ => 1000000
  | w + 1 => fun j => if M 15 w = -1 then lowW M g w j else min (lowW M g w j) (wB M w g j)
/-- the least from a place on, with k words -/
def rRow (M : xM) : Nat → Nat → Int
  | 0 => fun j => 3 * (M 23 1 - j)
  | k + 1 => lowW M (rRow M k) (M 3 2).toNat
theorem wB_rg {M : xM} (hk : rdOk M) {w : Nat} (hw : w < 10) (hP : M 15 w ≠ -1) {g : Nat → Int} {B : Int} (hg : ∀ j : Nat, (j : Int) ≤ M 23 1 → 0 ≤ g j ∧ g j ≤ B) : ∀ j : Nat, (j : Int) ≤ M 23 1 → 0 ≤ wB M w g j ∧ wB M w g j ≤ B + 54 := by
  intro j hj
  have h1 := hk.1.1
  obtain ⟨p1, p2, p3, -⟩ := (hk.2.1 w hw).2.2 hP
  have := bwN_rg (H := M 24) (β := btOf (M 16 w) (M 17 w)) (g := g) (n := (M 23 1).toNat) (m := (M 16 w).toNat) (B := B) (fun j hj => hg j (by omega)) (M 16 w).toNat j (by omega)
  unfold wB
  omega
theorem wF_rg {M : xM} (hk : rdOk M) {w : Nat} (hw : w < 10) (hP : M 15 w ≠ -1) {g : Nat → Int} {B : Int} (hg : ∀ j : Nat, (j : Int) ≤ M 23 1 → 0 ≤ g j ∧ g j ≤ B) : ∀ j : Nat, (j : Int) ≤ M 23 1 → 0 ≤ wF M w g j ∧ wF M w g j ≤ B + 54 := by
  intro j hj
  have h1 := hk.1.1
  obtain ⟨p1, p2, p3, -⟩ := (hk.2.1 w hw).2.2 hP
  have := fwN_rg (H := M 24) (β := btOf (M 16 w) (M 17 w)) (f := g) (n := (M 23 1).toNat) (B := B) (fun j hj => hg j (by omega)) (M 16 w).toNat j (by omega)
  unfold wF
  omega
theorem lowW_rg {M : xM} (hk : rdOk M) {g : Nat → Int} (hg : ∀ j : Nat, (j : Int) ≤ M 23 1 → 0 ≤ g j ∧ g j ≤ 1000000) : ∀ w : Nat, w ≤ 10 → ∀ j : Nat, (j : Int) ≤ M 23 1 → 0 ≤ lowW M g w j ∧ lowW M g w j ≤ 1000000
  | 0, _, j, _ => by show (0 : Int) ≤ 1000000 ∧ (1000000 : Int) ≤ 1000000; omega
  | w + 1, hw, j, hj => by
    have h1 := lowW_rg hk hg w (by omega) j hj
    rw [lowW]
    by_cases q : M 15 w = -1
    · simp only [q, if_true]; exact h1
    · have h2 := wB_rg hk (by omega) q hg j hj
      simp only [q, if_false]; omega
theorem rRow_rg {M : xM} (hk : rdOk M) : ∀ k : Nat, ∀ j : Nat, (j : Int) ≤ M 23 1 → 0 ≤ rRow M k j ∧ rRow M k j ≤ 1000000
  | 0, j, hj => by have := hk.1.2.1; show 0 ≤ 3 * (M 23 1 - j) ∧ 3 * (M 23 1 - j) ≤ 1000000; omega
  | k + 1, j, hj => by rw [rRow]; exact lowW_rg hk (rRow_rg hk k) _ (by have := hk.2.2; omega) j hj
theorem wB_congr {M : xM} (w : Nat) {g g' : Nat → Int} (h0 : 0 ≤ M 23 1) (h : ∀ j : Nat, (j : Int) ≤ M 23 1 → g j = g' j) : ∀ j : Nat, (j : Int) ≤ M 23 1 → wB M w g j = wB M w g' j := fun j hj => bwN_congr (n := (M 23 1).toNat) (fun j hj => h j (by omega)) _ j (by omega)
theorem wF_congr {M : xM} (w : Nat) {g g' : Nat → Int} (h0 : 0 ≤ M 23 1) (h : ∀ j : Nat, (j : Int) ≤ M 23 1 → g j = g' j) : ∀ j : Nat, (j : Int) ≤ M 23 1 → wF M w g j = wF M w g' j := fun j hj => fwN_congr (n := (M 23 1).toNat) (fun j hj => h j (by omega)) _ j (by omega)
theorem xnn {a : Int} (h : 0 ≤ a) : a.NonNeg := by
  have := Int.le_def.1 h
  rwa [Int.sub_zero] at this
set_option maxRecDepth 100000 in
set_option maxHeartbeats 8000000 in
theorem c_weighAllCounts {M : xM} {Q : Option xV → xM → Prop} (hk : rdOk M) (hq : ∀ M' : xM, (∀ a, a < 29 ∨ 41 < a ∧ a ≠ 44 → M' a = M a) → (∀ k, k ≤ 12 → ∀ j : Nat, (j : Int) ≤ M 23 1 → M' (29 + k) j = rRow M k j) → Q none M') : xm 4 m_Reader_weighAllCounts [xR (some 25)] M Q := by
  obtain ⟨⟨n1, n2, n3⟩, hp, hw1, hw2⟩ := id hk
  obtain ⟨W, hW3⟩ := Int.eq_ofNat_of_zero_le hw1
  (refine xm_of (own := "DrumTongue$Reader") rfl (by decide +kernel) tk_Reader [some (xR (some 25)), none, none] (Nat.le_of_ble_eq_true rfl) rfl ?_; intro D nx X C P hW)
  have inner : ∀ (k : Nat), k < 12 → (∀ (M' : xM) (v : Option xV), (∀ a, a < 29 ∨ 41 < a ∧ a ≠ 44 → M' a = M a) → (∀ i, i ≤ k + 1 → ∀ j : Nat, (j : Int) ≤ M 23 1 → M' (29 + i) j = rRow M i j) → X 12 [some (xR (some 25)), some (xI ((k : Int) + 1 + 1)), v] [] (M', D, nx) 0 0) → ∀ (m w : Nat) (M' : xM), w + m = W → (∀ a, a < 29 ∨ 41 < a ∧ a ≠ 44 → M' a = M a) → (∀ i, i ≤ k → ∀ j : Nat, (j : Int) ≤ M 23 1 → M' (29 + i) j = rRow M i j) → (∀ j : Nat, (j : Int) ≤ M 23 1 → M' (29 + (k + 1)) j = lowW M (rRow M k) w j) → X 31 [some (xR (some 25)), some (xI ((k : Int) + 1)), some (xI (w : Int))] [] (M', D, nx) 0 0 := by
    intro k hk12 next m
    induction m with
    | zero =>
      intro w M' hwm h1 h2 h3
      have e3 : M' 3 2 = (W : Int) := by rw [h1 3 (by omega)]; exact hW3
      refine xg hW k_Reader_weighAllCounts [12, 31] 40 ?_
      ((repeat' (first | (with_reducible refine And.intro ?_ ?_) | (intro h0; exact absurd h0 (by decide)) | (intro _) | ((conv => whnf); (first | (with_reducible refine And.intro ?_ ?_) | (intro h0; exact absurd h0 (by decide)) | (intro _) | (rw [e3]) | (refine hW.1 _ _ _ _ _ _ (c_wordCount ?_) (by first | decide | omega) (by decide) (Nat.le_of_ble_eq_true rfl)))))); (all_goals (try omega)); (all_goals (try exact Nat.le_of_ble_eq_true rfl)); (all_goals (try ((conv => whnf); (first | (refine hW.2.1 _ _ ?_) | (change X _ _ _ _ _ _) | (change C _ _ _ _ _ _ _))))); (all_goals (try simp only [xup_at, xup_ne, xup_up, ne_eq, Nat.reduceEqDiff, not_false_eq_true, Int.toNat_natCast, x_lcmp] at *)); (all_goals (try omega)))
      any_goals (exact xnn (by omega))
      refine next M' _ h1 fun i hi j hj => ?_
      by_cases q : i = k + 1
      · rw [q, h3 j hj, rRow, show (M 3 2).toNat = w by omega]
      · exact h2 i (by omega) j hj
    | succ m ih =>
      intro w M' hwm h1 h2 h3
      have e3 : M' 3 2 = (W : Int) := by rw [h1 3 (by omega)]; exact hW3
      have e15 : M' 15 w = M 15 w := by rw [h1 15 (by omega)]
      have fr : frE M M' := fun a ha => h1 a (by omega)
      have hp' := (rdOk_fr fr hk).2.1
      have k1 : ((k : Int) + 1 - 1).toNat = k := by omega
      have k2 : ((k : Int) + 1).toNat = k + 1 := by omega
      have r1 := rowA_k k (by omega)
      have r2 := rowA_k (k + 1) (by omega)
      have hw10 : w < 10 := by omega
      refine xg hW k_Reader_weighAllCounts [12, 31] 40 ?_
      ((repeat' (first | (with_reducible refine And.intro ?_ ?_) | (intro h0; exact absurd h0 (by decide)) | (intro _) | ((conv => whnf); (first | (with_reducible refine And.intro ?_ ?_) | (intro h0; exact absurd h0 (by decide)) | (intro _) | (rw [e3]) | (rw [e15]) | (rw [k1]) | (rw [k2]) | (refine hW.1 _ _ _ _ _ _ (c_wordCount ?_) (by first | decide | omega) (by decide) (Nat.le_of_ble_eq_true rfl)) | (refine hW.1 _ _ _ _ _ _ (c_hasPhraseI hp' ?_) (by first | decide | omega) (by decide) (Nat.le_of_ble_eq_true rfl)) | (refine hW.1 _ _ _ _ _ _ (c_copy r1 rowA_44 ?_) (by first | decide | omega) (by decide) (Nat.le_of_ble_eq_true rfl)))))); (all_goals (try omega)); (all_goals (try exact Nat.le_of_ble_eq_true rfl)); (all_goals (try ((conv => whnf); (first | (refine hW.2.1 _ _ ?_) | (change X _ _ _ _ _ _) | (change C _ _ _ _ _ _ _))))); (all_goals (try simp only [xup_at, xup_ne, xup_up, ne_eq, Nat.reduceEqDiff, not_false_eq_true, Int.toNat_natCast, x_lcmp] at *)); (all_goals (try omega)))
      any_goals (exact xnn (by omega))
      · rename_i hP1 _ f hf
        have hP2 : M 15 w ≠ -1 := by rw [← e15]; exact hP1
        have fr' : frE M (xup M' 44 f) := frE_up (by omega) fr
        have hh : hP M (w : Int) := ⟨by omega, by omega, by rw [Int.toNat_natCast]; exact hP2⟩
        have ef : ∀ j : Nat, (j : Int) ≤ M 23 1 → f j = rRow M k j := fun j hj => (hf j (by omega)).trans (h2 k (Nat.le_refl _) j hj)
        have hr' : cR (M 23 1) ((xup M' 44 f) 44) := by
          intro j hj
          rw [xup_at, ef j hj]
          have := rRow_rg hk k j hj
          omega
        ((repeat' (first | (with_reducible refine And.intro ?_ ?_) | (intro h0; exact absurd h0 (by decide)) | (intro _) | ((conv => whnf); (first | (with_reducible refine And.intro ?_ ?_) | (intro h0; exact absurd h0 (by decide)) | (intro _) | (rw [k2]) | (refine hW.1 _ _ _ _ _ _ (c_front fr' hk rowA_44 hr' hh ?_) (by first | decide | omega) (by decide) (Nat.le_of_ble_eq_true rfl)))))); (all_goals (try omega)); (all_goals (try exact Nat.le_of_ble_eq_true rfl)); (all_goals (try ((conv => whnf); (first | (refine hW.2.1 _ _ ?_) | (change X _ _ _ _ _ _) | (change C _ _ _ _ _ _ _))))); (all_goals (try simp only [xup_at, xup_ne, xup_up, ne_eq, Nat.reduceEqDiff, not_false_eq_true, Int.toNat_natCast, x_lcmp] at *)); (all_goals (try omega)))
        rename_i f2 hf2
        have ef2 : ∀ j : Nat, (j : Int) ≤ M 23 1 → f2 j = wB M w (rRow M k) j := fun j hj => (hf2 j hj).trans (wB_congr w n1 ef j hj)
        have fr2 : frE M (xup M' 44 f2) := frE_up (by omega) fr
        have e23 : (xup M' 44 f2) 23 = M 23 := fr2 23 (by omega)
        have s1 : cRg ((xup M' 44 f2) 23 1).toNat ((xup M' 44 f2) 44) := by
          rw [e23, xup_at]
          intro j hj
          rw [ef2 j (by omega)]
          have := wB_rg hk hw10 hP2 (rRow_rg hk k) j (by omega)
          omega
        have s2 : cRg ((xup M' 44 f2) 23 1).toNat ((xup M' 44 f2) (29 + (k + 1))) := by
          rw [e23, xup_ne (by omega)]
          intro j hj
          rw [h3 j (by omega)]
          have := lowW_rg hk (rRow_rg hk k) w (by omega) j (by omega)
          omega
        ((repeat' (first | (with_reducible refine And.intro ?_ ?_) | (intro h0; exact absurd h0 (by decide)) | (intro _) | ((conv => whnf); (first | (with_reducible refine And.intro ?_ ?_) | (intro h0; exact absurd h0 (by decide)) | (intro _) | (rw [k2]) | (refine hW.1 _ _ _ _ _ _ (c_takeLower rowA_44 r2 (by omega) (by rw [e23]; omega) s1 s2 ?_) (by first | decide | omega) (by decide) (Nat.le_of_ble_eq_true rfl)))))); (all_goals (try omega)); (all_goals (try exact Nat.le_of_ble_eq_true rfl)); (all_goals (try ((conv => whnf); (first | (refine hW.2.1 _ _ ?_) | (change X _ _ _ _ _ _) | (change C _ _ _ _ _ _ _))))); (all_goals (try simp only [xup_at, xup_ne, xup_up, ne_eq, Nat.reduceEqDiff, not_false_eq_true, Int.toNat_natCast, x_lcmp] at *)); (all_goals (try omega)))
        rename_i f3 hf3
        refine ih (w + 1) _ (by omega) (fun a ha => ?_) (fun i hi j hj => ?_) (fun j hj => ?_)
        · rw [xup_ne (by omega), xup_ne (by omega)]; exact h1 a ha
        · rw [xup_ne (by omega), xup_ne (by omega)]; exact h2 i hi j hj
        · rw [xup_at, hf3 j (by rw [e23]; exact hj), xup_ne (by omega), h3 j hj, ef2 j hj, lowW]
          simp only [hP2, if_false]
      · rename_i hP1 _
        have hP2 : M 15 w = -1 := by rw [← e15]; exact hP1
        refine ih (w + 1) M' (by omega) h1 h2 (fun j hj => ?_)
        rw [h3 j hj, lowW]
        simp only [hP2, if_true]
  have loop : ∀ (m k : Nat) (M' : xM) (v : Option xV), k + m = 12 → (∀ a, a < 29 ∨ 41 < a ∧ a ≠ 44 → M' a = M a) → (∀ i, i ≤ k → ∀ j : Nat, (j : Int) ≤ M 23 1 → M' (29 + i) j = rRow M i j) → X 12 [some (xR (some 25)), some (xI ((k : Int) + 1)), v] [] (M', D, nx) 0 0 := by
    intro m
    induction m with
    | zero =>
      intro k M' v hkm h1 h2
      refine xg hW k_Reader_weighAllCounts [12, 31] 40 ?_
      ((repeat' (first | (with_reducible refine And.intro ?_ ?_) | (intro h0; exact absurd h0 (by decide)) | (intro _) | ((conv => whnf); (first | (with_reducible refine And.intro ?_ ?_) | (intro h0; exact absurd h0 (by decide)) | (intro _))))); (all_goals (try omega)); (all_goals (try exact Nat.le_of_ble_eq_true rfl)); (all_goals (try ((conv => whnf); (first | (refine hW.2.1 _ _ ?_) | (change X _ _ _ _ _ _) | (change C _ _ _ _ _ _ _))))); (all_goals (try simp only [xup_at, xup_ne, xup_up, ne_eq, Nat.reduceEqDiff, not_false_eq_true, Int.toNat_natCast, x_lcmp] at *)); (all_goals (try omega)))
      exact hq M' h1 fun i hi j hj => h2 i (by omega) j hj
    | succ m ih =>
      intro k M' v hkm h1 h2
      have k2 : ((k : Int) + 1).toNat = k + 1 := by omega
      have r2 := rowA_k (k + 1) (by omega)
      have r3 := r2.1
      refine xg hW k_Reader_weighAllCounts [12, 31] 40 ?_
      ((repeat' (first | (with_reducible refine And.intro ?_ ?_) | (intro h0; exact absurd h0 (by decide)) | (intro _) | ((conv => whnf); (first | (with_reducible refine And.intro ?_ ?_) | (intro h0; exact absurd h0 (by decide)) | (intro _) | (rw [k2]) | (refine hW.1 _ _ _ _ _ _ (c_fill r3 (by omega) ?_) (by first | decide | omega) (by decide) (Nat.le_of_ble_eq_true rfl)))))); (all_goals (try omega)); (all_goals (try exact Nat.le_of_ble_eq_true rfl)); (all_goals (try ((conv => whnf); (first | (refine hW.2.1 _ _ ?_) | (change X _ _ _ _ _ _) | (change C _ _ _ _ _ _ _))))); (all_goals (try simp only [xup_at, xup_ne, xup_up, ne_eq, Nat.reduceEqDiff, not_false_eq_true, Int.toNat_natCast, x_lcmp] at *)); (all_goals (try omega)))
      refine inner k (by omega) (fun M'' v' h3 h4 => ?_) W 0 _ (by omega) (fun a ha => ?_) (fun i hi j hj => ?_) (fun j hj => ?_)
      · have := ih (k + 1) M'' v' (by omega) h3 h4
        rw [show ((k + 1 : Nat) : Int) = (k : Int) + 1 by omega] at this
        exact this
      · rw [xup_ne (by omega)]; exact h1 a ha
      · rw [xup_ne (by omega)]; exact h2 i hi j hj
      · rw [xup_at]
        unfold xfill
        simp only [show j < 61 by omega, if_true]
        rfl
  have r0 := rowA_k 0 (by omega)
  have nn : 0 ≤ M 23 1 ∧ M 23 1 ≤ 60 := ⟨n1, n2⟩
  refine xg hW k_Reader_weighAllCounts [12, 31] 40 ?_
  ((repeat' (first | (with_reducible refine And.intro ?_ ?_) | (intro h0; exact absurd h0 (by decide)) | (intro _) | ((conv => whnf); (first | (with_reducible refine And.intro ?_ ?_) | (intro h0; exact absurd h0 (by decide)) | (intro _) | (refine hW.1 _ _ _ _ _ _ (c_startFrom r0 nn ?_) (by first | decide | omega) (by decide) (Nat.le_of_ble_eq_true rfl)))))); (all_goals (try omega)); (all_goals (try exact Nat.le_of_ble_eq_true rfl)); (all_goals (try ((conv => whnf); (first | (refine hW.2.1 _ _ ?_) | (change X _ _ _ _ _ _) | (change C _ _ _ _ _ _ _))))); (all_goals (try simp only [xup_at, xup_ne, xup_up, ne_eq, Nat.reduceEqDiff, not_false_eq_true, Int.toNat_natCast, x_lcmp] at *)); (all_goals (try omega)))
  rename_i f hf
  refine loop 12 0 _ none (by omega) (fun a ha => ?_) (fun i hi j hj => ?_)
  · exact xup_ne (by show a ≠ 29; omega)
  · rw [show i = 0 by omega]
    exact (congrFun (xup_at _ _ _) j).trans (hf j hj)
/-- the first count of words with the least -/
def bcK (r : Nat → Int) : Nat → Nat
  | 0 => 0
  | k + 1 => if r (k + 1) < r (bcK r k) then k + 1 else bcK r k
theorem bcK_le (r : Nat → Int) : ∀ k, bcK r k ≤ k
  | 0 => Nat.le_refl _
  | k + 1 => by have := bcK_le r k; rw [bcK]; split <;> omega
theorem bcK_congr {r r' : Nat → Int} : ∀ k, (∀ i, i ≤ k → r i = r' i) → bcK r k = bcK r' k
  | 0, _ => rfl
  | k + 1, h => by
    have h1 := bcK_congr (r := r) (r' := r') k fun i hi => h i (by omega)
    have h2 := bcK_le r' k
    rw [bcK, bcK, h1, h (k + 1) (by omega), h _ (show bcK r' k ≤ k + 1 by omega)]
set_option maxRecDepth 100000 in
theorem c_bestCount {M : xM} {Q : Option xV → xM → Prop} (hr : ∀ k, k ≤ 12 → xrg (M (29 + k) 0)) (hq : Q (some (xI (bcK (fun k => M (29 + k) 0) 12 : Nat))) M) : xm 1 m_Reader_bestCount [xR (some 25)] M Q := by
  (refine xm_of (own := "DrumTongue$Reader") rfl (by decide +kernel) tk_Reader [some (xR (some 25)), none, none] (Nat.le_of_ble_eq_true rfl) rfl ?_; intro D nx X C P hW)
  have loop : ∀ (m k b : Nat), k + m = 12 → b ≤ 12 → b = bcK (fun k => M (29 + k) 0) k → X 4 [some (xR (some 25)), some (xI (b : Int)), some (xI ((k : Int) + 1))] [] (M, D, nx) 0 0 := by
    intro m
    induction m with
    | zero =>
      intro k b hk hb e
      refine xg hW k_Reader_bestCount [4] 40 ?_
      ((repeat' (first | (with_reducible refine And.intro ?_ ?_) | (intro h0; exact absurd h0 (by decide)) | (intro _) | ((conv => whnf); (first | (with_reducible refine And.intro ?_ ?_) | (intro h0; exact absurd h0 (by decide)) | (intro _))))); (all_goals (try omega)); (all_goals (try exact Nat.le_of_ble_eq_true rfl)); (all_goals (try ((conv => whnf); (first | (refine hW.2.1 _ _ ?_) | (change X _ _ _ _ _ _) | (change C _ _ _ _ _ _ _))))); (all_goals (try simp only [xup_at, xup_ne, xup_up, ne_eq, Nat.reduceEqDiff, not_false_eq_true, Int.toNat_natCast, x_lcmp] at *)); (all_goals (try omega)))
      rw [e, show k = 12 by omega]
      exact hq
    | succ m ih =>
      intro k b hk hb e
      have k2 : ((k : Int) + 1).toNat = k + 1 := by omega
      have r2 := (rowA_k (k + 1) (by omega)).1
      have r1 := (rowA_k b (by omega)).1
      have q1 := hr (k + 1) (by omega)
      have q2 := hr b (by omega)
      have e2 : bcK (fun k => M (29 + k) 0) (k + 1) = if M (29 + (k + 1)) 0 < M (29 + b) 0 then k + 1 else b := by rw [bcK, ← e]
      refine xg hW k_Reader_bestCount [4] 40 ?_
      ((repeat' (first | (with_reducible refine And.intro ?_ ?_) | (intro h0; exact absurd h0 (by decide)) | (intro _) | ((conv => whnf); (first | (with_reducible refine And.intro ?_ ?_) | (intro h0; exact absurd h0 (by decide)) | (intro _) | (rw [k2]) | (rw [r1]) | (rw [r2]))))); (all_goals (try omega)); (all_goals (try exact Nat.le_of_ble_eq_true rfl)); (all_goals (try ((conv => whnf); (first | (refine hW.2.1 _ _ ?_) | (change X _ _ _ _ _ _) | (change C _ _ _ _ _ _ _))))); (all_goals (try simp only [xup_at, xup_ne, xup_up, ne_eq, Nat.reduceEqDiff, not_false_eq_true, Int.toNat_natCast, x_lcmp] at *)); (all_goals (try omega)))
      ((repeat' (first | (with_reducible refine And.intro ?_ ?_) | (intro h0; exact absurd h0 (by decide)) | (intro _) | ((conv => whnf); (first | (with_reducible refine And.intro ?_ ?_) | (intro h0; exact absurd h0 (by decide)) | (intro _) | (rw [k2]) | (rw [r1]) | (rw [r2]))))); (all_goals (try omega)); (all_goals (try exact Nat.le_of_ble_eq_true rfl)); (all_goals (try ((conv => whnf); (first | (refine hW.2.1 _ _ ?_) | (change X _ _ _ _ _ _) | (change C _ _ _ _ _ _ _))))); (all_goals (try simp only [xup_at, xup_ne, xup_up, ne_eq, Nat.reduceEqDiff, not_false_eq_true, Int.toNat_natCast, x_lcmp] at *)); (all_goals (try omega)))
      · exact q1.1
      · exact q1.2
      · exact q2.1
      · exact q2.2
      · rename_i h0
        have h1 : M (29 + b) 0 ≤ M (29 + (k + 1)) 0 := h0
        have := ih (k + 1) b (by omega) hb (by rw [e2, if_neg (by omega)])
        rw [show ((k + 1 : Nat) : Int) = (k : Int) + 1 by omega] at this
        exact this
      · rename_i h0
        have h1 : M (29 + (k + 1)) 0 < M (29 + b) 0 := h0
        have := ih (k + 1) (k + 1) (by omega) (by omega) (by rw [e2, if_pos h1])
        rw [show ((k + 1 : Nat) : Int) = (k : Int) + 1 by omega] at this
        exact this
  refine xg hW k_Reader_bestCount [4] 40 ?_
  ((repeat' (first | (with_reducible refine And.intro ?_ ?_) | (intro h0; exact absurd h0 (by decide)) | (intro _) | ((conv => whnf); (first | (with_reducible refine And.intro ?_ ?_) | (intro h0; exact absurd h0 (by decide)) | (intro _))))); (all_goals (try omega)); (all_goals (try exact Nat.le_of_ble_eq_true rfl)); (all_goals (try ((conv => whnf); (first | (refine hW.2.1 _ _ ?_) | (change X _ _ _ _ _ _) | (change C _ _ _ _ _ _ _))))); (all_goals (try simp only [xup_at, xup_ne, xup_up, ne_eq, Nat.reduceEqDiff, not_false_eq_true, Int.toNat_natCast, x_lcmp] at *)); (all_goals (try omega)))
  exact loop 12 0 0 (by omega) (by omega) rfl
/-- the first word of the first w that keeps the least v: what lies behind it costs g; 0 if none -/
def fstW (M : xM) (f g : Nat → Int) (v : Int) : Nat → Nat → Nat
  | 0, _ => 0
  | m + 1, w => if M 15 w ≠ -1 ∧ min 1000000 (mt (wF M w f) g (M 23 1).toNat) = v then w else fstW M f g v m (w + 1)
theorem fstW_le (M : xM) (f g : Nat → Int) (v : Int) : ∀ m w : Nat, fstW M f g v m w ≤ w + m
  | 0, w => by rw [fstW]; omega
  | m + 1, w => by have := fstW_le M f g v m (w + 1); rw [fstW]; split <;> omega
theorem c_lt {M M' : xM} {Q : Option xV → xM → Prop} {a b : Nat} {f g : Nat → Int} (fr : frE M M') (hk : rdOk M) (ha : rowA a) (hb : rowA b) (ef : ∀ j : Nat, (j : Int) ≤ M 23 1 → M' a j = f j) (eg : ∀ j : Nat, (j : Int) ≤ M 23 1 → M' b j = g j) (hf : ∀ j : Nat, (j : Int) ≤ M 23 1 → 0 ≤ f j ∧ f j ≤ 1900000) (hg : ∀ j : Nat, (j : Int) ≤ M 23 1 → 0 ≤ g j ∧ g j ≤ 1900000) (hq : Q (some (xI (min 1000000 (mt f g (M 23 1).toNat)))) M') : xm 2 m_Reader_leastTogether [xR (some 25), xR (some a), xR (some b)] M' Q := by
  have e23 := fr 23 (by omega)
  have n1 := hk.1.1
  refine c_leastTogether ha hb (by rw [e23]; exact ⟨n1, hk.1.2.1⟩) (fun j hj => ?_) (fun j hj => ?_) ?_
  · rw [e23] at hj; rw [ef j hj]; exact hf j hj
  · rw [e23] at hj; rw [eg j hj]; exact hg j hj
  · rw [e23, mt_congr (f' := f) (g' := g) (fun j hj => ef j (by omega)) (fun j hj => eg j (by omega))]
    exact hq
theorem mt_rg {f g : Nat → Int} {n : Nat} (hf : ∀ j, j ≤ n → 0 ≤ f j) (hg : ∀ j, j ≤ n → 0 ≤ g j) : 0 ≤ mt f g n := by
  obtain ⟨j, h1, h2⟩ := mt_at (f := f) (g := g) n
  have := hf j h1
  have := hg j h1
  omega
set_option maxRecDepth 100000 in
set_option maxHeartbeats 8000000 in
theorem c_firstWord {M M' : xM} {Q : Option xV → xM → Prop} {l : Nat} (fr : frE M M') (hk : rdOk M) (hl : l ≤ 12) (hx : xrg (M' 25 6)) (hu : ∀ j : Nat, (j : Int) ≤ M 23 1 → 0 ≤ M' 42 j ∧ M' 42 j ≤ 1000000) (hr : ∀ j : Nat, (j : Int) ≤ M 23 1 → 0 ≤ M' (29 + l) j ∧ M' (29 + l) j ≤ 1000000) (hq : ∀ t : Nat → Int, Q (some (xI (fstW M (M' 42) (M' (29 + l)) (M' 25 6) (M 3 2).toNat 0 : Nat))) (xup M' 44 t)) : xm 4 m_Reader_firstWordThatKeepsTheLeast [xR (some 25), xI (l : Int)] M' Q := by
  obtain ⟨⟨n1, n2, n3⟩, hp, hw1, hw2⟩ := id hk
  obtain ⟨W, hW3⟩ := Int.eq_ofNat_of_zero_le hw1
  rw [show (M 3 2).toNat = W by omega] at hq
  (refine xm_of (own := "DrumTongue$Reader") rfl (by decide +kernel) tk_Reader [some (xR (some 25)), some (xI (l : Int)), none] (Nat.le_of_ble_eq_true rfl) rfl ?_; intro D nx X C P hW)
  have loop : ∀ (m w : Nat) (t : Nat → Int), w + m = W → fstW M (M' 42) (M' (29 + l)) (M' 25 6) W 0 = fstW M (M' 42) (M' (29 + l)) (M' 25 6) m w → X 14 [some (xR (some 25)), some (xI (l : Int)), some (xI (w : Int))] [] (xup M' 44 t, D, nx) 0 0 := by
    intro m
    induction m with
    | zero =>
      intro w t hwm h1
      rw [fstW] at h1
      rw [h1] at hq
      have e3 : (xup M' 44 t) 3 2 = (W : Int) := by rw [xup_ne (by omega), fr 3 (by omega)]; exact hW3
      refine xg hW k_Reader_firstWordThatKeepsTheLeast [14] 40 ?_
      ((repeat' (first | (with_reducible refine And.intro ?_ ?_) | (intro h0; exact absurd h0 (by decide)) | (intro _) | ((conv => whnf); (first | (with_reducible refine And.intro ?_ ?_) | (intro h0; exact absurd h0 (by decide)) | (intro _) | (rw [e3]) | (refine hW.1 _ _ _ _ _ _ (c_wordCount ?_) (by first | decide | omega) (by decide) (Nat.le_of_ble_eq_true rfl)))))); (all_goals (try omega)); (all_goals (try exact Nat.le_of_ble_eq_true rfl)); (all_goals (try ((conv => whnf); (first | (refine hW.2.1 _ _ ?_) | (change X _ _ _ _ _ _) | (change C _ _ _ _ _ _ _))))); (all_goals (try simp only [xup_at, xup_ne, xup_up, ne_eq, Nat.reduceEqDiff, not_false_eq_true, Int.toNat_natCast, x_lcmp] at *)); (all_goals (try omega)))
      any_goals (exact xnn (by omega))
      exact hq t
    | succ m ih =>
      intro w t hwm h1
      have fr1 : frE M (xup M' 44 t) := frE_up (by omega) fr
      have e3 : (xup M' 44 t) 3 2 = (W : Int) := by rw [fr1 3 (by omega)]; exact hW3
      have e15 : (xup M' 44 t) 15 w = M 15 w := by rw [fr1 15 (by omega)]
      have hp' := (rdOk_fr fr1 hk).2.1
      have r2 := rowA_k l hl
      have hw10 : w < 10 := by omega
      refine xg hW k_Reader_firstWordThatKeepsTheLeast [14] 40 ?_
      ((repeat' (first | (with_reducible refine And.intro ?_ ?_) | (intro h0; exact absurd h0 (by decide)) | (intro _) | ((conv => whnf); (first | (with_reducible refine And.intro ?_ ?_) | (intro h0; exact absurd h0 (by decide)) | (intro _) | (rw [e3]) | (rw [e15]) | (refine hW.1 _ _ _ _ _ _ (c_wordCount ?_) (by first | decide | omega) (by decide) (Nat.le_of_ble_eq_true rfl)) | (refine hW.1 _ _ _ _ _ _ (c_hasPhraseI hp' ?_) (by first | decide | omega) (by decide) (Nat.le_of_ble_eq_true rfl)) | (refine hW.1 _ _ _ _ _ _ (c_copy rowA_42 rowA_44 ?_) (by first | decide | omega) (by decide) (Nat.le_of_ble_eq_true rfl)))))); (all_goals (try omega)); (all_goals (try exact Nat.le_of_ble_eq_true rfl)); (all_goals (try ((conv => whnf); (first | (refine hW.2.1 _ _ ?_) | (change X _ _ _ _ _ _) | (change C _ _ _ _ _ _ _))))); (all_goals (try simp only [xup_at, xup_ne, xup_up, ne_eq, Nat.reduceEqDiff, not_false_eq_true, Int.toNat_natCast, x_lcmp] at *)); (all_goals (try omega)))
      any_goals (exact xnn (by omega))
      · rename_i f hw0 hP1 hf
        have hP2 : M 15 w ≠ -1 := by rw [← e15]; exact hP1
        have hh : hP M (w : Int) := ⟨by omega, by omega, by rw [Int.toNat_natCast]; exact hP2⟩
        have fr2 : frE M (xup M' 44 f) := frE_up (by omega) fr
        have ef : ∀ j : Nat, (j : Int) ≤ M 23 1 → f j = M' 42 j := fun j hj => hf j (by omega)
        have hr' : cR (M 23 1) ((xup M' 44 f) 44) := by
          intro j hj
          rw [xup_at, ef j hj]
          have := hu j hj
          omega
        ((repeat' (first | (with_reducible refine And.intro ?_ ?_) | (intro h0; exact absurd h0 (by decide)) | (intro _) | ((conv => whnf); (first | (with_reducible refine And.intro ?_ ?_) | (intro h0; exact absurd h0 (by decide)) | (intro _) | (refine hW.1 _ _ _ _ _ _ (c_behind fr2 hk rowA_44 hr' hh ?_) (by first | decide | omega) (by decide) (Nat.le_of_ble_eq_true rfl)))))); (all_goals (try omega)); (all_goals (try exact Nat.le_of_ble_eq_true rfl)); (all_goals (try ((conv => whnf); (first | (refine hW.2.1 _ _ ?_) | (change X _ _ _ _ _ _) | (change C _ _ _ _ _ _ _))))); (all_goals (try simp only [xup_at, xup_ne, xup_up, ne_eq, Nat.reduceEqDiff, not_false_eq_true, Int.toNat_natCast, x_lcmp] at *)); (all_goals (try omega)))
        rename_i f2 hf2
        have ef2 : ∀ j : Nat, (j : Int) ≤ M 23 1 → f2 j = wF M w (M' 42) j := fun j hj => (hf2 j hj).trans (wF_congr w n1 ef j hj)
        have fr3 : frE M (xup M' 44 f2) := frE_up (by omega) fr
        have g1 : ∀ j : Nat, (j : Int) ≤ M 23 1 → 0 ≤ wF M w (M' 42) j ∧ wF M w (M' 42) j ≤ 1900000 := fun j hj => by
          have := wF_rg hk hw10 hP2 hu j hj
          omega
        have g2 : ∀ j : Nat, (j : Int) ≤ M 23 1 → 0 ≤ M' (29 + l) j ∧ M' (29 + l) j ≤ 1900000 := fun j hj => by
          have := hr j hj
          omega
        have g3 : 0 ≤ mt (wF M w (M' 42)) (M' (29 + l)) (M 23 1).toNat := mt_rg (fun j hj => (g1 j (by omega)).1) (fun j hj => (g2 j (by omega)).1)
        have g4 : ∀ j : Nat, (j : Int) ≤ M 23 1 → (xup M' 44 f2) 44 j = wF M w (M' 42) j := fun j hj => by rw [xup_at]; exact ef2 j hj
        have g5 : ∀ j : Nat, (j : Int) ≤ M 23 1 → (xup M' 44 f2) (29 + l) j = M' (29 + l) j := fun j hj => by rw [xup_ne (by omega)]
        ((repeat' (first | (with_reducible refine And.intro ?_ ?_) | (intro h0; exact absurd h0 (by decide)) | (intro _) | ((conv => whnf); (first | (with_reducible refine And.intro ?_ ?_) | (intro h0; exact absurd h0 (by decide)) | (intro _) | (refine hW.1 _ _ _ _ _ _ (c_lt fr3 hk rowA_44 r2 g4 g5 g1 g2 ?_) (by first | decide | omega) (by decide) (Nat.le_of_ble_eq_true rfl)))))); (all_goals (try omega)); (all_goals (try exact Nat.le_of_ble_eq_true rfl)); (all_goals (try ((conv => whnf); (first | (refine hW.2.1 _ _ ?_) | (change X _ _ _ _ _ _) | (change C _ _ _ _ _ _ _))))); (all_goals (try simp only [xup_at, xup_ne, xup_up, ne_eq, Nat.reduceEqDiff, not_false_eq_true, Int.toNat_natCast, x_lcmp] at *)); (all_goals (try omega)))
        · rename_i h0
          refine ih (w + 1) _ (by omega) (h1.trans ?_)
          rw [fstW, if_neg (fun h => h0 h.2)]
        · rename_i h0
          rw [fstW, if_pos ⟨hP2, h0⟩] at h1
          rw [h1] at hq
          exact hq f2
      · rename_i hP1 _
        have hP2 : M 15 w = -1 := by rw [← e15]; exact hP1
        refine ih (w + 1) _ (by omega) (h1.trans ?_)
        rw [fstW, if_neg (fun h => h.1 hP2)]
  refine xg hW k_Reader_firstWordThatKeepsTheLeast [14] 40 ?_
  ((repeat' (first | (with_reducible refine And.intro ?_ ?_) | (intro h0; exact absurd h0 (by decide)) | (intro _) | ((conv => whnf); (first | (with_reducible refine And.intro ?_ ?_) | (intro h0; exact absurd h0 (by decide)) | (intro _))))); (all_goals (try omega)); (all_goals (try exact Nat.le_of_ble_eq_true rfl)); (all_goals (try ((conv => whnf); (first | (refine hW.2.1 _ _ ?_) | (change X _ _ _ _ _ _) | (change C _ _ _ _ _ _ _))))); (all_goals (try simp only [xup_at, xup_ne, xup_up, ne_eq, Nat.reduceEqDiff, not_false_eq_true, Int.toNat_natCast, x_lcmp] at *)); (all_goals (try omega)))
  have := loop W 0 (M' 44) (by omega) rfl
  rw [xup_id] at this
  exact this
/-- what is read, word for word: v the least in all, k words in all; behind i of them the costs are -/
def spU (M : xM) (v : Int) (k : Nat) : Nat → (Nat → Int)
  | 0 => fun j => 3 * j
  | i + 1 => wF M (fstW M (spU M v k i) (rRow M (k - i - 1)) v (M 3 2).toNat 0) (spU M v k i)
def spW (M : xM) (v : Int) (k i : Nat) : Nat := fstW M (spU M v k i) (rRow M (k - i - 1)) v (M 3 2).toNat 0
theorem fstW_congr {M : xM} {f f' g g' : Nat → Int} {v : Int} (h0 : 0 ≤ M 23 1) (hf : ∀ j : Nat, (j : Int) ≤ M 23 1 → f j = f' j) (hg : ∀ j : Nat, (j : Int) ≤ M 23 1 → g j = g' j) : ∀ m w : Nat, fstW M f g v m w = fstW M f' g' v m w
  | 0, _ => rfl
  | m + 1, w => by
    rw [fstW, fstW, fstW_congr h0 hf hg m (w + 1), mt_congr (f' := wF M w f') (g' := g') (fun j hj => wF_congr w h0 hf j (by omega)) (fun j hj => hg j (by omega))]
set_option maxRecDepth 100000 in
set_option maxHeartbeats 8000000 in
theorem c_spell {M M' : xM} {Q : Option xV → xM → Prop} {k : Nat} {v : Int} (fr : frE M M') (hk : rdOk M) (hk12 : k ≤ 12) (hx : xrg v) (e5 : M' 25 5 = (k : Int)) (e6 : M' 25 6 = v) (hr : ∀ i, i ≤ 12 → ∀ j : Nat, (j : Int) ≤ M 23 1 → M' (29 + i) j = rRow M i j) (hPs : ∀ i, i < k → ∃ w : Nat, spW M v k i = w ∧ w < 10 ∧ M 15 w ≠ -1) (hq : ∀ M'', (∀ a, a ≠ 27 ∧ a ≠ 42 ∧ a ≠ 44 → M'' a = M' a) → (∀ i, i < k → M'' 27 i = (spW M v k i : Int)) → (∀ i, k ≤ i → M'' 27 i = M' 27 i) → Q none M'') : xm 5 m_Reader_spellFirstByNumbers [xR (some 25)] M' Q := by
  obtain ⟨⟨n1, n2, n3⟩, hp, hw1, hw2⟩ := id hk
  have e23 := fr 23 (by omega)
  have nn : 0 ≤ M' 23 1 ∧ M' 23 1 ≤ 60 := by rw [e23]; exact ⟨n1, n2⟩
  have ub : ∀ i, i ≤ k → ∀ j : Nat, (j : Int) ≤ M 23 1 → 0 ≤ spU M v k i j ∧ spU M v k i j ≤ 180 + 54 * i := by
    intro i
    induction i with
    | zero =>
      intro _ j hj
      show 0 ≤ 3 * (j : Int) ∧ 3 * (j : Int) ≤ 180 + 54 * ((0 : Nat) : Int)
      omega
    | succ i ih =>
      intro hi j hj
      obtain ⟨w, h1, h2, h3⟩ := hPs i (by omega)
      unfold spW at h1
      rw [spU, h1]
      have := wF_rg hk h2 h3 (ih (by omega)) j hj
      omega
  (refine xm_of (own := "DrumTongue$Reader") rfl (by decide +kernel) tk_Reader [some (xR (some 25)), none] (Nat.le_of_ble_eq_true rfl) rfl ?_; intro D nx X C P hW)
  have loop : ∀ (m i : Nat) (M1 : xM), i + m = k → (∀ a, a ≠ 27 ∧ a ≠ 42 ∧ a ≠ 44 → M1 a = M' a) → (∀ q, q < i → M1 27 q = (spW M v k q : Int)) → (∀ q, i ≤ q → M1 27 q = M' 27 q) → (∀ j : Nat, (j : Int) ≤ M 23 1 → M1 42 j = spU M v k i j) → X 10 [some (xR (some 25)), some (xI (i : Int))] [] (M1, D, nx) 0 0 := by
    intro m
    induction m with
    | zero =>
      intro i M1 hi h1 h2 h3 h4
      have e : M1 25 5 = (k : Int) := by rw [h1 25 (by omega)]; exact e5
      refine xg hW k_Reader_spellFirstByNumbers [10] 40 ?_
      ((repeat' (first | (with_reducible refine And.intro ?_ ?_) | (intro h0; exact absurd h0 (by decide)) | (intro _) | ((conv => whnf); (first | (with_reducible refine And.intro ?_ ?_) | (intro h0; exact absurd h0 (by decide)) | (intro _) | (rw [e]))))); (all_goals (try omega)); (all_goals (try exact Nat.le_of_ble_eq_true rfl)); (all_goals (try ((conv => whnf); (first | (refine hW.2.1 _ _ ?_) | (change X _ _ _ _ _ _) | (change C _ _ _ _ _ _ _))))); (all_goals (try simp only [xup_at, xup_ne, xup_up, ne_eq, Nat.reduceEqDiff, not_false_eq_true, Int.toNat_natCast, x_lcmp] at *)); (all_goals (try omega)))
      any_goals (exact xnn (by omega))
      exact hq M1 h1 (fun q hq => h2 q (by omega)) (fun q hq => h3 q (by omega))
    | succ m ih =>
      intro i M1 hi h1 h2 h3 h4
      have e : M1 25 5 = (k : Int) := by rw [h1 25 (by omega)]; exact e5
      have e' : M1 25 6 = v := by rw [h1 25 (by omega)]; exact e6
      have fr1 : frE M M1 := fun a ha => by rw [h1 a (by omega)]; exact fr a ha
      have hl : k - i - 1 ≤ 12 := by omega
      have el : (k : Int) - i - 1 = ((k - i - 1 : Nat) : Int) := by omega
      have u0 : ∀ j : Nat, (j : Int) ≤ M 23 1 → 0 ≤ M1 42 j ∧ M1 42 j ≤ 1000000 := fun j hj => by
        rw [h4 j hj]
        have := ub i (by omega) j hj
        omega
      have u1 : ∀ j : Nat, (j : Int) ≤ M 23 1 → M1 (29 + (k - i - 1)) j = rRow M (k - i - 1) j := fun j hj => by rw [h1 _ (by omega)]; exact hr _ (by omega) j hj
      have u2 : ∀ j : Nat, (j : Int) ≤ M 23 1 → 0 ≤ M1 (29 + (k - i - 1)) j ∧ M1 (29 + (k - i - 1)) j ≤ 1000000 := fun j hj => by rw [u1 j hj]; exact rRow_rg hk _ j hj
      have ew : fstW M (M1 42) (M1 (29 + (k - i - 1))) (M1 25 6) (M 3 2).toNat 0 = spW M v k i := by
        rw [e']; exact fstW_congr n1 h4 u1 _ _
      have hx' : xrg (M1 25 6) := by rw [e']; exact hx
      have cf : ∀ Q : Option xV → xM → Prop, (∀ t : Nat → Int, Q (some (xI (spW M v k i : Nat))) (xup M1 44 t)) → xm 4 m_Reader_firstWordThatKeepsTheLeast [xR (some 25), xI ((k - i - 1 : Nat) : Int)] M1 Q := by
        intro Q hQ
        refine c_firstWord fr1 hk hl hx' u0 u2 ?_
        rw [ew]
        exact hQ
      refine xg hW k_Reader_spellFirstByNumbers [10] 40 ?_
      ((repeat' (first | (with_reducible refine And.intro ?_ ?_) | (intro h0; exact absurd h0 (by decide)) | (intro _) | ((conv => whnf); (first | (with_reducible refine And.intro ?_ ?_) | (intro h0; exact absurd h0 (by decide)) | (intro _) | (rw [e]) | (rw [el]) | (refine hW.1 _ _ _ _ _ _ (cf _ ?_) (by first | decide | omega) (by decide) (Nat.le_of_ble_eq_true rfl)))))); (all_goals (try omega)); (all_goals (try exact Nat.le_of_ble_eq_true rfl)); (all_goals (try ((conv => whnf); (first | (refine hW.2.1 _ _ ?_) | (change X _ _ _ _ _ _) | (change C _ _ _ _ _ _ _))))); (all_goals (try simp only [xup_at, xup_ne, xup_up, ne_eq, Nat.reduceEqDiff, not_false_eq_true, Int.toNat_natCast, x_lcmp] at *)); (all_goals (try omega)))
      any_goals (exact xnn (by omega))
      rename_i t
      obtain ⟨w, hw, hw10, hwP⟩ := hPs i (by omega)
      have fr2 : frE M (xup (xup M1 44 t) 27 (xup (M1 27) i (spW M v k i : Nat))) := frE_up (by omega) (frE_up (by omega) fr1)
      have hh : hP M (spW M v k i : Nat) := ⟨by omega, by omega, by rw [Int.toNat_natCast, hw]; exact hwP⟩
      have hr' : cR (M 23 1) ((xup (xup M1 44 t) 27 (xup (M1 27) i (spW M v k i : Nat))) 42) := by
        intro j hj
        rw [xup_ne (by omega), xup_ne (by omega)]
        have := u0 j hj
        omega
      ((repeat' (first | (with_reducible refine And.intro ?_ ?_) | (intro h0; exact absurd h0 (by decide)) | (intro _) | ((conv => whnf); (first | (with_reducible refine And.intro ?_ ?_) | (intro h0; exact absurd h0 (by decide)) | (intro _) | (refine hW.1 _ _ _ _ _ _ (c_behind fr2 hk rowA_42 hr' hh ?_) (by first | decide | omega) (by decide) (Nat.le_of_ble_eq_true rfl)))))); (all_goals (try omega)); (all_goals (try exact Nat.le_of_ble_eq_true rfl)); (all_goals (try ((conv => whnf); (first | (refine hW.2.1 _ _ ?_) | (change X _ _ _ _ _ _) | (change C _ _ _ _ _ _ _))))); (all_goals (try simp only [xup_at, xup_ne, xup_up, ne_eq, Nat.reduceEqDiff, not_false_eq_true, Int.toNat_natCast, x_lcmp] at *)); (all_goals (try omega)))
      rename_i f hf
      refine ih (i + 1) _ (by omega) (fun a ha => ?_) (fun q hq => ?_) (fun q hq => ?_) (fun j hj => ?_)
      · rw [xup_ne (by omega), xup_ne (by omega), xup_ne (by omega)]; exact h1 a ha
      · rw [xup_ne (by omega), xup_at]
        by_cases e9 : q = i
        · rw [e9, xup_at]
        · rw [xup_ne e9]; exact h2 q (by omega)
      · rw [xup_ne (by omega), xup_at, xup_ne (by omega)]; exact h3 q (by omega)
      · rw [xup_at, hf j hj, spU]
        exact wF_congr _ n1 h4 j hj
  refine xg hW k_Reader_spellFirstByNumbers [10] 40 ?_
  ((repeat' (first | (with_reducible refine And.intro ?_ ?_) | (intro h0; exact absurd h0 (by decide)) | (intro _) | ((conv => whnf); (first | (with_reducible refine And.intro ?_ ?_) | (intro h0; exact absurd h0 (by decide)) | (intro _) | (refine hW.1 _ _ _ _ _ _ (c_startUpTo rowA_42 nn ?_) (by first | decide | omega) (by decide) (Nat.le_of_ble_eq_true rfl)))))); (all_goals (try omega)); (all_goals (try exact Nat.le_of_ble_eq_true rfl)); (all_goals (try ((conv => whnf); (first | (refine hW.2.1 _ _ ?_) | (change X _ _ _ _ _ _) | (change C _ _ _ _ _ _ _))))); (all_goals (try simp only [xup_at, xup_ne, xup_up, ne_eq, Nat.reduceEqDiff, not_false_eq_true, Int.toNat_natCast, x_lcmp] at *)); (all_goals (try omega)))
  rename_i f hf
  refine loop k 0 _ (by omega) (fun a ha => xup_ne (by omega)) (fun q hq => absurd hq (Nat.not_lt_zero q)) (fun q _ => by rw [xup_ne (by omega)]) (fun j hj => ?_)
  rw [xup_at]
  exact hf j (by rw [e23]; exact hj)
/-- word w fits: with g behind it keeps the least v -/
def fits (M : xM) (f g : Nat → Int) (v : Int) (w : Nat) : Prop := M 15 w ≠ -1 ∧ min 1000000 (mt (wF M w f) g (M 23 1).toNat) = v
theorem fstW_fits {M : xM} {f g : Nat → Int} {v : Int} : ∀ m w : Nat, (∃ w', w ≤ w' ∧ w' < w + m ∧ fits M f g v w') → fits M f g v (fstW M f g v m w) ∧ w ≤ fstW M f g v m w ∧ fstW M f g v m w < w + m
  | 0, w, ⟨w', h1, h2, _⟩ => by omega
  | m + 1, w, ⟨w', h1, h2, h3⟩ => by
    rw [fstW]
    by_cases q : M 15 w ≠ -1 ∧ min 1000000 (mt (wF M w f) g (M 23 1).toNat) = v
    · rw [if_pos q]; exact ⟨q, by omega, by omega⟩
    · rw [if_neg q]
      have : w' ≠ w := fun e => q (e ▸ h3)
      have := fstW_fits (f := f) (g := g) (v := v) m (w + 1) ⟨w', by omega, by omega, h3⟩
      exact ⟨this.1, by omega, by omega⟩
theorem lowW_s (M : xM) (g : Nat → Int) (w j : Nat) : lowW M g (w + 1) j = if M 15 w = -1 then lowW M g w j else min (lowW M g w j) (wB M w g j) := by
  rw [lowW]
theorem lowW_at (M : xM) (g : Nat → Int) : ∀ (W j : Nat), lowW M g W j = 1000000 ∨ ∃ w, w < W ∧ M 15 w ≠ -1 ∧ lowW M g W j = wB M w g j
  | 0, j => Or.inl rfl
  | w + 1, j => by
    rw [lowW_s]
    by_cases q : M 15 w = -1
    · simp only [q, if_true]
      rcases lowW_at M g w j with h | ⟨w', h1, h2, h3⟩
      · exact Or.inl h
      · exact Or.inr ⟨w', by omega, h2, h3⟩
    · simp only [q, if_false]
      by_cases q2 : wB M w g j ≤ lowW M g w j
      · exact Or.inr ⟨w, by omega, q, by omega⟩
      · rw [show min (lowW M g w j) (wB M w g j) = lowW M g w j by omega]
        rcases lowW_at M g w j with h | ⟨w', h1, h2, h3⟩
        · exact Or.inl h
        · exact Or.inr ⟨w', by omega, h2, h3⟩
theorem lowW_le {M : xM} {g : Nat → Int} : ∀ {W j w : Nat}, w < W → M 15 w ≠ -1 → lowW M g W j ≤ wB M w g j
  | 0, j, w, h, _ => absurd h (Nat.not_lt_zero w)
  | W + 1, j, w, h, hp => by
    rw [lowW_s]
    by_cases q : w = W
    · subst q; simp only [hp, if_false]; omega
    · have := lowW_le (M := M) (g := g) (W := W) (j := j) (by omega) hp
      split <;> omega
theorem lowW_cap {M : xM} {g : Nat → Int} : ∀ {W j : Nat}, lowW M g W j ≤ 1000000
  | 0, j => Int.le_refl _
  | W + 1, j => by
    have := lowW_cap (M := M) (g := g) (W := W) (j := j)
    rw [lowW_s]
    split <;> omega
theorem lowW_cl {M : xM} {g : Nat → Int} (hk : rdOk M) (hg : clB (M 23 1).toNat g) : ∀ W, W ≤ 10 → clB (M 23 1).toNat (lowW M g W)
  | 0, _ => fun j _ => by show (1000000 : Int) ≤ 1000000 + 3; omega
  | W + 1, hW => fun j hj => by
    have h1 := lowW_cl hk hg W (by omega) j hj
    rw [lowW_s, lowW_s]
    by_cases q : M 15 W = -1
    · simp only [q, if_true]; exact h1
    · have h2 : wB M W g j ≤ wB M W g (j + 1) + 3 := bwN_cl hg _ j hj
      simp only [q, if_false]; omega
theorem rRow_cl {M : xM} (hk : rdOk M) : ∀ k, clB (M 23 1).toNat (rRow M k)
  | 0 => fun j hj => by
    show 3 * (M 23 1 - (j : Int)) ≤ 3 * (M 23 1 - ((j + 1 : Nat) : Int)) + 3
    omega
  | k + 1 => by rw [rRow]; exact lowW_cl hk (rRow_cl hk k) _ (by have := hk.2.2; omega)
theorem wF_cl {M : xM} {w n : Nat} {f : Nat → Int} (h : clF n f) : clF n (wF M w f) := fwN_cl h _
theorem mt_wF {M : xM} {w : Nat} {f g : Nat → Int} (hf : clF (M 23 1).toNat f) (hg : clB (M 23 1).toNat g) : mt (wF M w f) g (M 23 1).toNat = mt f (wB M w g) (M 23 1).toNat := mt_swapN hf hg
theorem mt_mono {f g g' : Nat → Int} {n : Nat} (h : ∀ j, j ≤ n → g j ≤ g' j) : mt f g n ≤ mt f g' n := by
  obtain ⟨j, h1, h2⟩ := mt_at (f := f) (g := g') n
  have h3 := mt_le (f := f) (g := g) h1
  have h4 := h j h1
  omega
/-- there is always a word that fits -/
theorem fits_ex {M : xM} (hk : rdOk M) {f g : Nat → Int} {v : Int} (hf : clF (M 23 1).toNat f) (hf0 : ∀ j, j ≤ (M 23 1).toNat → 0 ≤ f j) (hg : clB (M 23 1).toNat g) (hv : v < 1000000) (h : mt f (lowW M g (M 3 2).toNat) (M 23 1).toNat = v) : ∃ w, w < (M 3 2).toNat ∧ fits M f g v w := by
  obtain ⟨j, h1, h2⟩ := mt_at (f := f) (g := lowW M g (M 3 2).toNat) (M 23 1).toNat
  have h3 := hf0 j h1
  rcases lowW_at M g (M 3 2).toNat j with h4 | ⟨w, h4, h5, h6⟩
  · omega
  · refine ⟨w, h4, h5, ?_⟩
    rw [mt_wF hf hg]
    have h7 := mt_le (f := f) (g := wB M w g) h1
    have h8 : mt f (lowW M g (M 3 2).toNat) (M 23 1).toNat ≤ mt f (wB M w g) (M 23 1).toNat := mt_mono (f := f) (n := (M 23 1).toNat) fun j _ => lowW_le (g := g) (j := j) h4 h5
    omega
theorem spU_cl {M : xM} {v : Int} {k : Nat} (n : Nat) : ∀ i, clF n (spU M v k i)
  | 0 => fun j _ => by show 3 * ((j + 1 : Nat) : Int) ≤ 3 * (j : Int) + 3; omega
  | i + 1 => by rw [spU]; exact wF_cl (spU_cl n i)
/-- the way of the spelling: what is behind and what is left are the least together -/
theorem sp_inv {M : xM} (hk : rdOk M) {v : Int} {k : Nat} (hv : v < 1000000) (h : rRow M k 0 = v) : ∀ i, i ≤ k → (∀ j : Nat, (j : Int) ≤ M 23 1 → 0 ≤ spU M v k i j ∧ spU M v k i j ≤ 180 + 54 * i) ∧ mt (spU M v k i) (rRow M (k - i)) (M 23 1).toNat = v := by
  have n1 := hk.1.1
  intro i
  induction i with
  | zero =>
    intro _
    have n2 := hk.1.2.1
    refine ⟨fun j _ => by show 0 ≤ 3 * (j : Int) ∧ 3 * (j : Int) ≤ 180 + 54 * ((0 : Nat) : Int); omega, ?_⟩
    have h1 : mt (spU M v k 0) (rRow M k) (M 23 1).toNat ≤ 3 * ((0 : Nat) : Int) + rRow M k 0 := mt_le (Nat.zero_le _)
    obtain ⟨j, h2, h3⟩ := mt_at (f := spU M v k 0) (g := rRow M k) (M 23 1).toNat
    have h4 : ∀ q, q ≤ (M 23 1).toNat → rRow M k 0 ≤ 3 * (q : Int) + rRow M k q := by
      intro q
      induction q with
      | zero => intro _; omega
      | succ q ih =>
        intro hq
        have h5 := ih (by omega)
        have h6 := rRow_cl hk k q (by omega)
        omega
    have h5 := h4 j h2
    have h6 : spU M v k 0 j = 3 * (j : Int) := rfl
    rw [Nat.sub_zero]
    omega
  | succ i ih =>
    intro hi
    obtain ⟨h1, h2⟩ := ih (by omega)
    rw [show k - i = (k - i - 1) + 1 by omega, rRow] at h2
    obtain ⟨w, h3, h4⟩ := fits_ex hk (spU_cl _ i) (fun j hj => (h1 j (by omega)).1) (rRow_cl hk _) hv h2
    obtain ⟨⟨h5, h6⟩, h7, h8⟩ := fstW_fits (M := M) (f := spU M v k i) (g := rRow M (k - i - 1)) (v := v) (M 3 2).toNat 0 ⟨w, Nat.zero_le _, by omega, h4⟩
    rw [show k - (i + 1) = k - i - 1 by omega, spU]
    have h9 := hk.2.2
    refine ⟨fun j hj => ?_, by omega⟩
    have := wF_rg hk (by omega) h5 h1 j hj
    omega
theorem sp_word {M : xM} (hk : rdOk M) {v : Int} {k : Nat} (hv : v < 1000000) (h : rRow M k 0 = v) {i : Nat} (hi : i < k) : fits M (spU M v k i) (rRow M (k - i - 1)) v (spW M v k i) ∧ spW M v k i < (M 3 2).toNat := by
  obtain ⟨h1, h2⟩ := sp_inv hk hv h i (by omega)
  have n1 := hk.1.1
  rw [show k - i = (k - i - 1) + 1 by omega, rRow] at h2
  obtain ⟨w, h3, h4⟩ := fits_ex hk (spU_cl _ i) (fun j hj => (h1 j (by omega)).1) (rRow_cl hk _) hv h2
  obtain ⟨h5, h7, h8⟩ := fstW_fits (M := M) (f := spU M v k i) (g := rRow M (k - i - 1)) (v := v) (M 3 2).toNat 0 ⟨w, Nat.zero_le _, by omega, h4⟩
  exact ⟨h5, by unfold spW; omega⟩
