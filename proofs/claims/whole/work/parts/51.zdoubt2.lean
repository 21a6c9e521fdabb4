/-! the reference: doubtOf, doubt, most -/
theorem arF_fr {M M' : xM} (h : frE M M') (s : Nat → Int) : ∀ q, arF M' s q = arF M s q
  | 0 => rfl
  | q + 1 => by rw [arF, arF, wF_fr h, arF_fr h s q]
def dbJ (D off least : Int) : Prop := (D = -1 ∧ least = 1000000) ∨ (0 ≤ D ∧ least = D + off ∧ least ≤ 1000)
theorem dbt_s (M : xM) (f g : Nat → Int) (off x : Int) (w : Nat) : dbt M f g off x (w + 1) = if (w : Int) ≠ x ∧ M 15 w ≠ -1 then (if dbt M f g off x w = -1 then min 1000000 (mt (wF M w f) g (M 23 1).toNat) - off else min (dbt M f g off x w) (min 1000000 (mt (wF M w f) g (M 23 1).toNat) - off)) else dbt M f g off x w := by rw [dbt]
set_option maxRecDepth 100000 in
set_option maxHeartbeats 1000000 in
theorem z_doubtOf {M : xM} {Q : Option xV → xM → Prop} {K i : Nat} {s : Nat → Int} {off : Int} (hz : zR M) (hK : K ≤ 12) (h26 : M 64 26 = (K : Int)) (hi : i < K) (hs : ∀ q, q < K → hP M (s q) ∧ s q < M 3 2) (h86 : ∀ q, q < K → M 86 q = s q) (hoff : rRow M K 0 = off) (hv : 0 ≤ off ∧ off ≤ 180) (hq : ∀ M', (∀ a, a ≠ 84 → a ≠ 85 → M' a = M a) → dbJ (dbt M (arF M s i) (arB M s K (K - i - 1)) off (s i) (M 3 2).toNat) off (if dbt M (arF M s i) (arB M s K (K - i - 1)) off (s i) (M 3 2).toNat = -1 then 1000000 else dbt M (arF M s i) (arB M s K (K - i - 1)) off (s i) (M 3 2).toNat + off) → Q (some (xI (dbt M (arF M s i) (arB M s K (K - i - 1)) off (s i) (M 3 2).toNat))) M') : xm 5 m_M_doubtOf [xR (some 64), xI (i : Int), xI off] M Q := by
  have hrd := hz.rd
  obtain ⟨n, hn⟩ := Int.eq_ofNat_of_zero_le hrd.1.1
  obtain ⟨nW, hWn⟩ := Int.eq_ofNat_of_zero_le hrd.2.2.1
  have w10 := hrd.2.2.2
  have n60 := hrd.1.2.1
  have e640 : M 64 0 = (nW : Int) := by rw [hz.1.1.2.2.2.1.1]; exact hWn
  have hst := dbt_s M (arF M s i) (arB M s K (K - i - 1)) off (s i)
  have hd0 : dbt M (arF M s i) (arB M s K (K - i - 1)) off (s i) 0 = -1 := rfl
  have hmv : ∀ w : Nat, w < nW → M 15 w ≠ -1 → off ≤ mt (wF M w (arF M s i)) (arB M s K (K - i - 1)) (M 23 1).toNat ∧ mt (wF M w (arF M s i)) (arB M s K (K - i - 1)) (M 23 1).toNat ≤ 1000 := fun w hw hc => by
    have how : hP M (w : Int) ∧ (w : Int) < M 3 2 := ⟨⟨by omega, by omega, by rw [Int.toNat_natCast]; exact hc⟩, by omega⟩
    have h1 := dbt_ge hrd hs how hi (by omega)
    have h2 := off_eq (M := M) (s := s) (o := (w : Int)) hrd.1.1 hi
    have h3 := arF_rg (s := xup s i (w : Int)) (n := K) hrd (fun q hq => by
      by_cases c : q = i
      · rw [c, xup_at]; exact how.1
      · rw [xup_ne c]; exact (hs q hq).1) K (Nat.le_refl _) (M 23 1).toNat (by omega)
    rw [Int.toNat_natCast] at h1 h2
    omega
  have co : ∀ (w : Nat), w < nW → M 15 w ≠ -1 → ∀ M' : xM, (∀ a, a ≠ 84 → a ≠ 85 → M' a = M a) → ∀ Q' : Option xV → xM → Prop, (∀ M'', (∀ a, a ≠ 84 → a ≠ 85 → M'' a = M a) → Q' (some (xI (mt (wF M w (arF M s i)) (arB M s K (K - i - 1)) (M 23 1).toNat))) M'') → xm 4 m_M_offWith [xR (some 64), xI (i : Int), xI (w : Int)] M' Q' := fun w hw hc M' fr Q' h => by
    have frE2 : frE M M' := fun a ha => fr a (by omega) (by omega)
    have hP2 : ∀ x, hP M x ∧ x < M 3 2 → hP M' x ∧ x < M' 3 2 := fun x hx => ⟨hP_fr frE2 hx.1, by rw [frE2 3 (by decide)]; exact hx.2⟩
    have hz2 : zR M' := zR_fr ⟨fun a ha => fr a (by omega) (by omega), fun j _ => by rw [fr 64 (by decide) (by decide)]⟩ hz
    refine z_offWith (s := s) hz2 hK (by rw [fr 64 (by decide) (by decide)]; exact h26) hi (fun q hq => hP2 _ (hs q hq)) (hP2 _ ⟨⟨by omega, by omega, by rw [Int.toNat_natCast]; exact hc⟩, by omega⟩) (fun q hq => by rw [fr 86 (by decide) (by decide)]; exact h86 q hq) (fun M'' f2 => ?_)
    rw [arF_fr frE2, frE2 23 (by decide), off_eq hrd.1.1 hi, Int.toNat_natCast]
    exact h M'' (fun a a1 a2 => by rw [f2 a a1 a2]; exact fr a a1 a2)
  have hsi := (hs i hi).1
  obtain ⟨si0, si10, -⟩ := hsi
  have h74 : ∀ w : Nat, w < nW → M 74 w = M 15 w := fun w hw => hz.1.2.2.1 w (by omega)
  have h15 : ∀ w : Nat, w < nW → -1 ≤ M 15 w ∧ M 15 w < 31 := fun w hw => ⟨(hrd.2.1 w (by omega)).1, (hrd.2.1 w (by omega)).2.1⟩
  have h86i := h86 i hi
  rw [hWn, Int.toNat_natCast] at hq
  clear hs hoff
  generalize dbt M (arF M s i) (arB M s K (K - i - 1)) off (s i) = Dd at *
  obtain ⟨mv, hmve⟩ : ∃ mv : Nat → Int, mv = fun w => mt (wF M w (arF M s i)) (arB M s K (K - i - 1)) (M 23 1).toNat := ⟨_, rfl⟩
  replace hst : ∀ w : Nat, Dd (w + 1) = if (w : Int) ≠ s i ∧ M 15 w ≠ -1 then (if Dd w = -1 then min 1000000 (mv w) - off else min (Dd w) (min 1000000 (mv w) - off)) else Dd w := by rw [hmve]; exact hst
  replace hmv : ∀ w : Nat, w < nW → M 15 w ≠ -1 → off ≤ mv w ∧ mv w ≤ 1000 := by rw [hmve]; exact hmv
  replace co : ∀ (w : Nat), w < nW → M 15 w ≠ -1 → ∀ M' : xM, (∀ a, a ≠ 84 → a ≠ 85 → M' a = M a) → ∀ Q' : Option xV → xM → Prop, (∀ M'', (∀ a, a ≠ 84 → a ≠ 85 → M'' a = M a) → Q' (some (xI (mv w))) M'') → xm 4 m_M_offWith [xR (some 64), xI (i : Int), xI (w : Int)] M' Q' := by rw [hmve]; exact co
  clear hmve
  (refine xm_of (own := "DrumTongueModel") rfl (by decide +kernel) tk_M [some (xR (some 64)), some (xI (i : Int)), some (xI off), none, none] (Nat.le_of_ble_eq_true rfl) rfl ?_; intro D nx X C P hW)
  have loop : ∀ (m w : Nat) (M' : xM) (least : Int), w + m = nW → (∀ a, a ≠ 84 → a ≠ 85 → M' a = M a) → dbJ (Dd w) off least → X 6 [some (xR (some 64)), some (xI (i : Int)), some (xI off), some (xI least), some (xI (w : Int))] [] (M', D, nx) 0 0 := by
    intro m
    induction m with
    | zero =>
      intro w M' least hw fr hJ
      obtain rfl : w = nW := by omega
      have g640 : M' 64 0 = (w : Int) := by rw [fr 64 (by decide) (by decide)]; exact e640
      have h5 := hq M' fr (by unfold dbJ at hJ ⊢; split <;> omega)
      unfold dbJ at hJ
      clear hq hz hrd hst hmv co h74 h15 h86 fr
      rcases hJ with ⟨j1, j2⟩ | ⟨j1, j2, j3⟩
      · rw [j1] at h5
        refine xg hW k_M_doubtOf [6] 40 ?_
        ((repeat' (first | (with_reducible refine And.intro ?_ ?_) | (intro h0; exact absurd h0 (by decide)) | (intro h0; exact absurd rfl h0) | (intro h0; exfalso; clear hW; omega) | (intro _) | ((conv => whnf); (first | (with_reducible refine And.intro ?_ ?_) | (intro h0; exact absurd h0 (by decide)) | (intro h0; exact absurd rfl h0) | (intro h0; exfalso; clear hW; omega) | (intro _))))); (all_goals (try omega)); (all_goals (try exact xnn (by omega))); (all_goals (try exact Nat.le_of_ble_eq_true rfl)); (all_goals (try ((conv => whnf); (first | (refine hW.2.1 _ _ ?_) | (change X _ _ _ _ _ _) | (change C _ _ _ _ _ _ _))))); (all_goals (try simp only [xup_at, xup_ne, xup_up, ne_eq, Nat.reduceEqDiff, not_false_eq_true, Int.toNat_natCast, x_lcmp] at *)); (all_goals (try omega)))
        all_goals exact h5
      · have e : least - off = Dd w := by omega
        refine xg hW k_M_doubtOf [6] 40 ?_
        ((repeat' (first | (with_reducible refine And.intro ?_ ?_) | (intro h0; exact absurd h0 (by decide)) | (intro h0; exact absurd rfl h0) | (intro h0; exfalso; clear hW; omega) | (intro _) | ((conv => whnf); (first | (with_reducible refine And.intro ?_ ?_) | (intro h0; exact absurd h0 (by decide)) | (intro h0; exact absurd rfl h0) | (intro h0; exfalso; clear hW; omega) | (intro _))))); (all_goals (try omega)); (all_goals (try exact xnn (by omega))); (all_goals (try exact Nat.le_of_ble_eq_true rfl)); (all_goals (try ((conv => whnf); (first | (refine hW.2.1 _ _ ?_) | (change X _ _ _ _ _ _) | (change C _ _ _ _ _ _ _))))); (all_goals (try simp only [xup_at, xup_ne, xup_up, ne_eq, Nat.reduceEqDiff, not_false_eq_true, Int.toNat_natCast, x_lcmp] at *)); (all_goals (try omega)))
        rw [e]
        exact h5
    | succ m ih =>
      intro w M' least hw fr hJ
      have g640 : M' 64 0 = (nW : Int) := by rw [fr 64 (by decide) (by decide)]; exact e640
      have g74 : M' 74 w = M 15 w := by rw [fr 74 (by decide) (by decide)]; exact h74 w (by omega)
      have g86 : M' 86 i = s i := by rw [fr 86 (by decide) (by decide)]; exact h86i
      have hs1 := hst w
      have hr15 := h15 w (by omega)
      by_cases c : (w : Int) ≠ s i ∧ M 15 w ≠ -1
      · have hm := hmv w (by omega) c.2
        rw [if_pos c] at hs1
        have cow := co w (by omega) c.2 M' fr
        have h5 := fun M'' f2 => ih (w + 1) M'' (min least (mv w)) (by omega) f2 (by
          rw [hs1]
          unfold dbJ at hJ ⊢
          split <;> omega)
        obtain ⟨c1, c2⟩ := c
        have n1 : M' 74 (w : Int).toNat ≠ -1 := by rw [Int.toNat_natCast, g74]; exact c2
        have n2 : (w : Int) ≠ M' 86 (i : Int).toNat := by rw [Int.toNat_natCast, g86]; exact c1
        have lr : 0 ≤ least ∧ least ≤ 1000000 := by unfold dbJ at hJ; omega
        clear hq hz hrd hst hmv co h74 h15 h86 fr ih hJ
        generalize mv w = v at *
        refine xg hW k_M_doubtOf [6] 40 ?_
        ((repeat' (first | (with_reducible refine And.intro ?_ ?_) | (intro h0; exact absurd h0 (by decide)) | (intro h0; exact absurd rfl h0) | (intro h0; exfalso; clear hW; omega) | (intro _) | ((conv => whnf); (first | (with_reducible refine And.intro ?_ ?_) | (intro h0; exact absurd h0 (by decide)) | (intro h0; exact absurd rfl h0) | (intro h0; exfalso; clear hW; omega) | (intro _))))); (all_goals (try omega)); (all_goals (try exact xnn (by omega))); (all_goals (try exact Nat.le_of_ble_eq_true rfl)); (all_goals (try ((conv => whnf); (first | (refine hW.2.1 _ _ ?_) | (change X _ _ _ _ _ _) | (change C _ _ _ _ _ _ _))))); (all_goals (try simp only [xup_at, xup_ne, xup_up, ne_eq, Nat.reduceEqDiff, not_false_eq_true, Int.toNat_natCast, x_lcmp] at *)); (all_goals (try omega)))
        refine hW.1 _ _ _ _ _ _ (cow _ (fun M2 f2 => ?_)) (by decide) (by decide) (Nat.le_of_ble_eq_true rfl)
        replace h5 := h5 M2 f2
        clear cow f2
        ((repeat' (first | (with_reducible refine And.intro ?_ ?_) | (intro h0; exact absurd h0 (by decide)) | (intro h0; exact absurd rfl h0) | (intro h0; exfalso; clear hW; omega) | (intro _) | ((conv => whnf); (first | (with_reducible refine And.intro ?_ ?_) | (intro h0; exact absurd h0 (by decide)) | (intro h0; exact absurd rfl h0) | (intro h0; exfalso; clear hW; omega) | (intro _) | (refine hW.1 _ _ _ _ _ _ (z_lesser ?_) (by first | decide | omega) (by decide) (Nat.le_of_ble_eq_true rfl)))))); (all_goals (try omega)); (all_goals (try exact xnn (by omega))); (all_goals (try exact Nat.le_of_ble_eq_true rfl)); (all_goals (try ((conv => whnf); (first | (refine hW.2.1 _ _ ?_) | (change X _ _ _ _ _ _) | (change C _ _ _ _ _ _ _))))); (all_goals (try simp only [xup_at, xup_ne, xup_up, ne_eq, Nat.reduceEqDiff, not_false_eq_true, Int.toNat_natCast, x_lcmp] at *)); (all_goals (try omega)))
        all_goals exact h5
      · rw [if_neg c] at hs1
        have h5 := ih (w + 1) M' least (by omega) fr (by rw [hs1]; exact hJ)
        have n1 : M' 74 (w : Int).toNat = -1 ∨ (w : Int) = M' 86 (i : Int).toNat := by rw [Int.toNat_natCast, Int.toNat_natCast, g74, g86]; omega
        have n2 : -1 ≤ M' 74 (w : Int).toNat ∧ M' 74 (w : Int).toNat < 31 := by rw [Int.toNat_natCast, g74]; exact hr15
        have n3 : 0 ≤ M' 86 (i : Int).toNat ∧ M' 86 (i : Int).toNat < 10 := by rw [Int.toNat_natCast, g86]; exact ⟨si0, si10⟩
        clear hq hz hrd hst hmv co h74 h15 h86 fr ih hJ c
        refine xg hW k_M_doubtOf [6] 40 ?_
        ((repeat' (first | (with_reducible refine And.intro ?_ ?_) | (intro h0; exact absurd h0 (by decide)) | (intro h0; exact absurd rfl h0) | (intro h0; exfalso; clear hW; omega) | (intro _) | ((conv => whnf); (first | (with_reducible refine And.intro ?_ ?_) | (intro h0; exact absurd h0 (by decide)) | (intro h0; exact absurd rfl h0) | (intro h0; exfalso; clear hW; omega) | (intro _))))); (all_goals (try omega)); (all_goals (try exact xnn (by omega))); (all_goals (try exact Nat.le_of_ble_eq_true rfl)); (all_goals (try ((conv => whnf); (first | (refine hW.2.1 _ _ ?_) | (change X _ _ _ _ _ _) | (change C _ _ _ _ _ _ _))))); (all_goals (try simp only [xup_at, xup_ne, xup_up, ne_eq, Nat.reduceEqDiff, not_false_eq_true, Int.toNat_natCast, x_lcmp] at *)); (all_goals (try omega)))
        all_goals exact h5
  have h5 := loop nW 0 M 1000000 (by omega) (fun _ _ _ => rfl) (Or.inl ⟨hd0, rfl⟩)
  clear hq hz hrd hst hmv co h74 h15 h86 loop
  refine xg hW k_M_doubtOf [6] 40 ?_
  ((repeat' (first | (with_reducible refine And.intro ?_ ?_) | (intro h0; exact absurd h0 (by decide)) | (intro h0; exact absurd rfl h0) | (intro h0; exfalso; clear hW; omega) | (intro _) | ((conv => whnf); (first | (with_reducible refine And.intro ?_ ?_) | (intro h0; exact absurd h0 (by decide)) | (intro h0; exact absurd rfl h0) | (intro h0; exfalso; clear hW; omega) | (intro _))))); (all_goals (try omega)); (all_goals (try exact xnn (by omega))); (all_goals (try exact Nat.le_of_ble_eq_true rfl)); (all_goals (try ((conv => whnf); (first | (refine hW.2.1 _ _ ?_) | (change X _ _ _ _ _ _) | (change C _ _ _ _ _ _ _))))); (all_goals (try simp only [xup_at, xup_ne, xup_up, ne_eq, Nat.reduceEqDiff, not_false_eq_true, Int.toNat_natCast, x_lcmp] at *)); (all_goals (try omega)))
  all_goals exact h5
