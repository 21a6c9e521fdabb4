/-! calls that read; hills -/
theorem fstW_fr {M M' : xM} (h : frE M M') (f g : Nat → Int) (v : Int) : ∀ m w : Nat, fstW M' f g v m w = fstW M f g v m w
  | 0, _ => rfl
  | m + 1, w => by rw [fstW, fstW, wF_fr h, h 15 (by decide), h 23 (by decide), fstW_fr h f g v m (w + 1)]
theorem spU_fr {M M' : xM} (h : frE M M') (v : Int) (k : Nat) : ∀ i, spU M' v k i = spU M v k i
  | 0 => rfl
  | i + 1 => by rw [spU, spU, spU_fr h v k i, rRow_fr h, fstW_fr h, wF_fr h, h 3 (by decide)]
theorem spW_fr {M M' : xM} (h : frE M M') (v : Int) (k i : Nat) : spW M' v k i = spW M v k i := by
  unfold spW
  rw [spU_fr h, rRow_fr h, fstW_fr h, h 3 (by decide)]
theorem bK_fr {M M' : xM} (h : frE M M') : bK M' = bK M := by
  unfold bK
  congr 1
  funext k
  rw [rRow_fr h]
theorem bV_fr {M M' : xM} (h : frE M M') : bV M' = bV M := by
  unfold bV
  rw [bK_fr h, rRow_fr h]
/-- the class has read -/
theorem INV_rd {M M1 : xM} (hI : INV M) (f1 : ∀ a, a < 25 ∨ a = 26 ∨ a = 28 ∨ 44 < a → M1 a = M a) (f2 : ∀ j, j ≠ 5 → j ≠ 6 → M1 25 j = M 25 j) : INV M1 := INV_same ⟨fun a ha => f1 a (by omega), by rw [f1 2 (by omega)], by rw [f1 18 (by omega)]; exact hI.2.2.1, f2 3 (by decide) (by decide), by rw [f1 64 (by omega)], by rw [f1 64 (by omega)], by rw [f1 64 (by omega)], by rw [f1 64 (by omega)], by rw [f1 64 (by omega)]⟩ hI
/-- the reference has read -/
theorem INV_rdF {M M2 : xM} (hI : INV M) (f : rdF M M2) : INV M2 := INV_same ⟨fun a ha => f.1 a (by omega), by rw [f.1 2 (by omega)], by rw [f.1 18 (by omega)]; exact hI.2.2.1, by rw [f.1 25 (by omega)], f.2 0 (by decide), f.2 3 (by decide), f.2 6 (by decide), f.2 13 (by decide), f.2 15 (by decide)⟩ hI
theorem k_doubt {M : xM} (hI : INV M) {i : Int} (hi : xrg i) : kc 7 6 m_X_doubt m_M_doubt [xI i] M := by
  have hz := hI.1
  have hs0 : ∀ q, q < bK M → (fun q => (spW M (bV M) (bK M) q : Int)) q = (spW M (bV M) (bK M) q : Int) := fun _ _ => rfl
  refine p_doubt hz.rd hi (fun q => ⟨_, rfl, z_doubt hz hs0 hi (fun _ => ⟨rfl, hI⟩) (fun r => by omega) (fun r => by omega) (fun _ n e => by omega)⟩) (fun q c => ⟨_, rfl, z_doubt hz hs0 hi (fun r => by omega) (fun _ _ => ⟨rfl, hI⟩) (fun _ r => absurd c r) (fun r => absurd c r)⟩) (fun q c r M1 f1 f2 => ⟨_, rfl, ?_⟩) (fun c n s M1 e hn hs f1 f2 => ⟨_, rfl, ?_⟩)
  · have fr : frE M M1 := fun a ha => f1 a (by omega)
    have hI1 := INV_rd hI f1 f2
    refine z_doubt (s := fun q => (spW M1 (bV M1) (bK M1) q : Int)) hI1.1 (fun _ _ => rfl) hi (fun r => by omega) (fun _ r => absurd (by rw [fr 15 (by decide), fr 3 (by decide)] at r; exact r) c) (fun _ _ _ M2 g => ⟨rfl, INV_rdF hI1 g⟩) (fun _ n e hn => by rw [bK_fr fr] at hn; omega)
  · have fr : frE M M1 := fun a ha => f1 a (by omega)
    have hI1 := INV_rd hI f1 f2
    refine z_doubt (s := s) hI1.1 (fun q hq => by rw [spW_fr fr, bK_fr fr, bV_fr fr]; rw [bK_fr fr] at hq; exact hs q hq) hi (fun r => by omega) (fun _ r => absurd (by rw [fr 15 (by decide), fr 3 (by decide)] at r; exact r) c) (fun _ _ r => by rw [bK_fr fr] at r; omega) (fun _ n' e' hn' M2 g => ⟨?_, INV_rdF hI1 g⟩)
    obtain rfl : n' = n := by omega
    rw [arF_fr fr, arB_fr fr, dbt_fr fr, bK_fr fr, bV_fr fr, fr 3 (by decide)]
theorem k_most {M : xM} (hI : INV M) : kc 7 6 m_X_most m_M_most [] M := by
  have hz := hI.1
  have hs0 : ∀ q, q < bK M → (fun q => (spW M (bV M) (bK M) q : Int)) q = (spW M (bV M) (bK M) q : Int) := fun _ _ => rfl
  refine p_most hz.rd (fun c => ⟨_, rfl, z_most hz hs0 (fun _ => ⟨rfl, hI⟩) (fun r => absurd c r)⟩) (fun c s M1 hs f1 f2 => ⟨_, rfl, ?_⟩)
  have fr : frE M M1 := fun a ha => f1 a (by omega)
  have hI1 := INV_rd hI f1 f2
  refine z_most (s := s) hI1.1 (fun q hq => by rw [spW_fr fr, bK_fr fr, bV_fr fr]; rw [bK_fr fr] at hq; exact hs q hq) (fun r => absurd (by rw [fr 15 (by decide), fr 3 (by decide)] at r; exact r) c) (fun _ M2 g => ⟨?_, INV_rdF hI1 g⟩)
  have e : (fun i => dbt M1 (arF M1 s i) (arB M1 s (bK M1) (bK M1 - i - 1)) (bV M1) (s i) (M1 3 2).toNat) = fun i => dbt M (arF M s i) (arB M s (bK M) (bK M - i - 1)) (bV M) (s i) (M 3 2).toNat := by
    funext i
    rw [arF_fr fr, arB_fr fr, dbt_fr fr, bK_fr fr, bV_fr fr, fr 3 (by decide)]
  rw [e, bK_fr fr]
theorem zR_same {M M' : xM} (h : ∀ a, (3 ≤ a ∧ a ≤ 17) ∨ a = 23 ∨ a = 24 ∨ (65 ≤ a ∧ a ≤ 75) → M' a = M a) (h2 : M' 2 6 = M 2 6) (h0 : M' 64 0 = M 64 0) (h3 : M' 64 3 = M 64 3) (h6 : M' 64 6 = M 64 6) (h13 : M' 64 13 = M 64 13) (hz : zR M) : zR M' := by
  obtain ⟨⟨a1, a2, a3, a4⟩, b1, b2⟩ := hz
  refine ⟨⟨zPre_same (fun a ha => h a (by omega)) h2 h0 h3 h6 a1, gvOk_same (fun a ha => h a (by omega)) a2, ?_, ?_⟩, ?_, ?_⟩
  · rw [h 3 (by omega), h 74 (by omega), h 15 (by omega)]
    exact a3
  · rw [h 3 (by omega), h 15 (by omega)]
    exact fun w hw hc => tabZ_same (fun a ha => h a (by omega)) (a4 w hw hc)
  · unfold relH
    rw [h 23 (by omega), h 24 (by omega), h 75 (by omega), h13]
    exact b1
  · unfold earOk
    rw [h 23 (by omega), h 24 (by omega)]
    exact b2
theorem k_read {M : xM} (hI : INV M) : kc 7 6 m_X_read m_M_read [] M := by
  have hz := hI.1
  have hrd := hz.rd
  refine p_read hrd (fun c => ⟨_, rfl, z_read hz (fun _ => ⟨rfl, hI⟩) (fun r => absurd c r)⟩) (fun c M1 f1 e3 f2 f26 => ⟨_, rfl, ?_⟩)
  have fr : frE M M1 := fun a ha => f1 a (by omega)
  have hz1 : zR M1 := zR_same (fun a ha => f1 a (by omega)) (by rw [f1 2 (by omega)]) (by rw [f1 64 (by omega)]) (by rw [f1 64 (by omega)]) (by rw [f1 64 (by omega)]) (by rw [f1 64 (by omega)]) hz
  have hbK := bK_le M
  have hv := bV_rg hrd
  have w10 := hrd.2.2.2
  refine z_read hz1 (fun r => absurd (by rw [fr 15 (by decide), fr 3 (by decide)] at r; exact r) c) (fun _ M2 g1 g2 g15 g76 => ⟨by rw [bV_fr fr], ?_⟩)
  rw [bK_fr fr] at g15 g76
  have s64 : ∀ j, j ≠ 15 → j ≠ 26 → M2 64 j = M 64 j := fun j j1 j2 => by rw [g2 j j1 j2, f1 64 (by omega)]
  have s2 : ∀ a, a < 25 ∨ 44 < a ∧ a < 64 ∨ 64 < a ∧ a < 76 ∨ 76 < a ∧ a < 83 → M2 a = M a := fun a ha => by rw [g1 a (by omega), f1 a (by omega)]
  refine ⟨zR_same (fun a ha => s2 a (by omega)) (by rw [s2 2 (by omega)]) (s64 0 (by decide) (by decide)) (s64 3 (by decide) (by decide)) (s64 6 (by decide) (by decide)) (s64 13 (by decide) (by decide)) hz, ?_, by rw [s2 18 (by omega)]; exact hI.2.2.1, hill_same (fun a ha => s2 a (by omega)) hI.2.2.2.1 hI.2.2.2.2.1 hI.2.2.2.2.2⟩
  unfold relL
  rw [g15, g1 25 (by omega), e3, g1 26 (by omega)]
  refine ⟨rfl, by omega, by omega, fun i hi => ?_⟩
  have hib : i < bK M := by omega
  have hw := (sp_word hrd (show bV M < 1000000 by omega) rfl hib).2
  rw [g76 i hib, f26 i hib, spW_fr fr, bV_fr fr]
  exact ⟨rfl, by omega, by omega⟩
theorem hdT_congr {b b' : Nat → xB → xB} (h : ∀ t B, t < 6 → b t B = b' t B) : ∀ m B, hdT b m B = hdT b' m B
  | 0, _ => rfl
  | m + 1, B => by rw [hdT, hdT, h _ _ (by omega), hdT_congr h m]
theorem hdfs_congr {c c' h h' : Nat → Nat → Int} {d : Nat} (hc : ∀ f t, f < 6 → c f t = c' f t) (hh : ∀ f t, f < 6 → h f t = h' f t) : ∀ (f : Nat) (p : Nat → Nat) (u : Nat) (ch hr : Int) (B : xB), 1 ≤ u → (∀ i, i < u → p i < 6) → hdfs c h d f p u ch hr B = hdfs c' h' d f p u ch hr B
  | 0, _, _, _, _, _, _, _ => rfl
  | f + 1, p, u, ch, hr, B, hu, hp => by
    rw [hdfs, hdfs]
    refine hdT_congr (fun t B ht => ?_) 6 B
    have hp' : ∀ i, i < u + 1 → xup p u t i < 6 := fun i hi => by
      by_cases q : i = u
      · rw [q, xup_at]; exact ht
      · rw [xup_ne q]; exact hp i (by omega)
    rw [hc _ t (hp (u - 1) (by omega)), hh _ t (hp (u - 1) (by omega)), hdfs_congr hc hh f _ (u + 1) _ _ _ (by omega) hp']
theorem hBest_congr {c c' h h' : Nat → Nat → Int} {s d : Nat} (hc : ∀ f t, f < 6 → c f t = c' f t) (hh : ∀ f t, f < 6 → h f t = h' f t) (hs : s < 6) : hBest c h s d = hBest c' h' s d := hdfs_congr hc hh 5 _ 1 _ _ _ (Nat.le_refl _) (fun _ _ => hs)
theorem enR_congr {c c' h h' : Nat → Nat → Int} {s d : Nat} {cc : Int} (hch : chOk c' h') (hc : ∀ f t, f < 6 → c f t = c' f t) (hh : ∀ f t, f < 6 → h f t = h' f t) (hs : s < 6) : enR c h s d cc = enR c' h' s d cc := by
  unfold enR
  rw [hBest_congr hc hh hs]
  obtain ⟨b1, b2, b3, b4, b5, b6⟩ := hBest_ok (s := s) (d := d) hch hs
  by_cases q : (hBest c' h' s d).1 = 0
  · rw [b6 q]
    rfl
  · obtain ⟨b7, b8, b9⟩ := b5 (by omega)
    rw [thS_congr hc (fun i hi => b9 i (by omega))]
theorem xI_pair {s d : Int} (h : isPair s d) : ∃ a b : Nat, s = (a : Int) ∧ d = (b : Int) ∧ a < 6 ∧ b < 6 ∧ a ≠ b := by
  obtain ⟨h1, h2, h3, h4, h5⟩ := h
  exact ⟨s.toNat, d.toNat, by omega, by omega, by omega, by omega, by omega⟩
theorem INV_hl {M M1 : xM} (hI : INV M) (f : hlFr M M1) : INV M1 := INV_same ⟨fun a ha => f a (by omega) (by omega), by rw [f 2 (by decide) (by omega)], by rw [f 18 (by decide) (by omega)]; exact hI.2.2.1, by rw [f 25 (by decide) (by omega)], by rw [f 64 (by decide) (by omega)], by rw [f 64 (by decide) (by omega)], by rw [f 64 (by decide) (by omega)], by rw [f 64 (by decide) (by omega)], by rw [f 64 (by decide) (by omega)]⟩ hI
theorem INV_en {M M2 : xM} (hI : INV M) (f : enFr M M2) : INV M2 := INV_same ⟨fun a ha => f.1 a (by omega), by rw [f.1 2 (by omega)], by rw [f.1 18 (by omega)]; exact hI.2.2.1, by rw [f.1 25 (by omega)], f.2 0 (by decide) (by decide) (by decide), f.2 3 (by decide) (by decide) (by decide), f.2 6 (by decide) (by decide) (by decide), f.2 13 (by decide) (by decide) (by decide), f.2 15 (by decide) (by decide) (by decide)⟩ hI
theorem enFr_lk {M M2 : xM} (f : lkFr M M2) : enFr M M2 := ⟨fun a ha => f.1 a (by omega), f.2⟩
theorem cM_hl {M M1 : xM} (f : hlFr M M1) : ∀ a b : Nat, a < 6 → cM M1 a b = cM M a b := fun a b ha => by
  unfold cM
  rw [f (47 + a) (by omega) (by omega)]
theorem hM_hl {M M1 : xM} (f : hlFr M M1) : ∀ a b : Nat, a < 6 → hM M1 a b = hM M a b := fun a b ha => by
  unfold hM
  rw [f (54 + a) (by omega) (by omega)]
theorem k_way {M : xM} (hI : INV M) {s d : Int} (hs : xrg s) (hd : xrg d) : kc 13 4 m_X_way m_M_way [xI s, xI d] M := by
  by_cases hp : isPair s d
  · obtain ⟨a, b, rfl, rfl, ha, hb, hab⟩ := xI_pair hp
    refine p_way hI.2.2.2.1 ha hb hab (fun M1 f q => ⟨_, rfl, ?_⟩) (fun M1 f q => ⟨_, rfl, ?_⟩)
    all_goals
      have hI1 := INV_hl hI f
      have e := hBest_congr (s := a) (d := b) (cM_hl f) (hM_hl f) ha
      refine z_way hI1.2.2.2.1 hI1.2.2.2.2.1 ha hb hab (fun M2 g r => ⟨?_, INV_en hI1 (enFr_lk g)⟩) (fun M2 g r => ⟨?_, INV_en hI1 (enFr_lk g)⟩)
      · rw [e] at r ⊢
        try (first | rfl | omega)
      · rw [e] at r
        try (first | rfl | omega)
  · exact p_wayN hs hd hp ⟨_, rfl, z_wayN hs hd hp ⟨rfl, hI⟩⟩
theorem k_age {M : xM} (hI : INV M) {s d : Int} (hs : xrg s) (hd : xrg d) : kc 13 4 m_X_age m_M_age [xI s, xI d] M := by
  by_cases hp : isPair s d
  · obtain ⟨a, b, rfl, rfl, ha, hb, hab⟩ := xI_pair hp
    refine p_age hI.2.2.2.1 ha hb hab (fun M1 f q => ⟨_, rfl, ?_⟩) (fun M1 f q => ⟨_, rfl, ?_⟩)
    all_goals
      have hI1 := INV_hl hI f
      have e := hBest_congr (s := a) (d := b) (cM_hl f) (hM_hl f) ha
      refine z_age hI1.2.2.2.1 hI1.2.2.2.2.1 ha hb hab (fun M2 g r => ⟨?_, INV_en hI1 (enFr_lk g)⟩) (fun M2 g r => ⟨?_, INV_en hI1 (enFr_lk g)⟩)
      · rw [e] at r ⊢
        try (first | rfl | omega)
      · rw [e] at r
        try (first | rfl | omega)
  · exact p_ageN hs hd hp ⟨_, rfl, z_ageN hs hd hp ⟨rfl, hI⟩⟩
theorem k_wayAt {M : xM} (hI : INV M) {s d i : Int} (hs : xrg s) (hd : xrg d) (hi : xrg i) : kc 13 4 m_X_wayAt m_M_wayAt [xI s, xI d, xI i] M := by
  by_cases hp : isPair s d
  · obtain ⟨a, b, rfl, rfl, ha, hb, hab⟩ := xI_pair hp
    refine p_wayAt hI.2.2.2.1 ha hb hab hi (fun M1 f q q2 q3 => ⟨_, rfl, ?_⟩) (fun M1 f q => ⟨_, rfl, ?_⟩)
    all_goals
      have hI1 := INV_hl hI f
      have e := hBest_congr (s := a) (d := b) (cM_hl f) (hM_hl f) ha
      refine z_wayAt hI1.2.2.2.1 hI1.2.2.2.2.1 ha hb hab hi (fun M2 g r r2 r3 => ⟨?_, INV_en hI1 (enFr_lk g)⟩) (fun M2 g r => ⟨?_, INV_en hI1 (enFr_lk g)⟩)
      · rw [e] at r r3 ⊢
        try (first | rfl | omega)
      · rw [e] at r
        try (first | rfl | omega)
  · exact p_wayAtN hs hd hp ⟨_, rfl, z_wayAtN hs hd hp ⟨rfl, hI⟩⟩
theorem k_enough {M : xM} (hI : INV M) {s d c : Int} (hs : xrg s) (hd : xrg d) (hc : xrg c) : kc 15 4 m_X_enough m_M_enough [xI s, xI d, xI c] M := by
  by_cases hp : isPair s d ∧ 1 ≤ c ∧ c ≤ 1000000000
  · obtain ⟨a, b, rfl, rfl, ha, hb, hab⟩ := xI_pair hp.1
    refine p_enough hI.2.2.2.1 ha hb hab hp.2 (fun M1 f q q2 => ⟨_, rfl, ?_⟩) (fun M1 f q => ⟨_, rfl, ?_⟩)
    all_goals
      have hI1 := INV_hl hI f
      have e := hBest_congr (s := a) (d := b) (cM_hl f) (hM_hl f) ha
      have e' := enR_congr (s := a) (d := b) (cc := c) hI.2.2.2.1.ch (cM_hl f) (hM_hl f) ha
      refine z_enough hI1.2.2.2.1 hI1.2.2.2.2.1 hI1.2.2.2.2.2 ha hb hab hp.2 (fun M2 g r r2 => ⟨?_, INV_en hI1 g⟩) (fun M2 g r => ⟨?_, INV_en hI1 g⟩)
      · rw [e] at r
        rw [e'] at r2 ⊢
        try (first | rfl | omega)
      · rw [e, e'] at r
        try (first | rfl | omega)
  · exact p_enoughN hs hd hc hp ⟨_, rfl, z_enoughN hs hd hc hp ⟨rfl, hI⟩⟩
theorem k_times {M : xM} (hI : INV M) {s d c i : Int} (hs : xrg s) (hd : xrg d) (hc : xrg c) (hi : xrg i) : kc 15 4 m_X_times m_M_times [xI s, xI d, xI c, xI i] M := by
  by_cases hp : isPair s d ∧ 1 ≤ c ∧ c ≤ 1000000000
  · obtain ⟨a, b, rfl, rfl, ha, hb, hab⟩ := xI_pair hp.1
    refine p_times hI.2.2.2.1 ha hb hab hp.2 hi (fun M1 f q q2 q3 q4 => ⟨_, rfl, ?_⟩) (fun M1 f q => ⟨_, rfl, ?_⟩)
    all_goals
      have hI1 := INV_hl hI f
      have e := hBest_congr (s := a) (d := b) (cM_hl f) (hM_hl f) ha
      have e' := enR_congr (s := a) (d := b) (cc := c) hI.2.2.2.1.ch (cM_hl f) (hM_hl f) ha
      refine z_times hI1.2.2.2.1 hI1.2.2.2.2.1 hI1.2.2.2.2.2 ha hb hab hp.2 hi (fun M2 g r r2 r3 r4 => ⟨?_, INV_en hI1 g⟩) (fun M2 g r => ⟨?_, INV_en hI1 g⟩)
      · rw [e] at r r4
        rw [e'] at r2 ⊢
        try (first | rfl | omega)
      · rw [e, e'] at r
        try (first | rfl | omega)
  · exact p_timesN hs hd hc hp ⟨_, rfl, z_timesN hs hd hc hp ⟨rfl, hI⟩⟩
theorem k_hill {M : xM} (hI : INV M) {s d c g : Int} (hs : xrg s) (hd : xrg d) (hc : xrg c) (hg : xrg g) : kc 4 3 m_X_hill m_M_hill [xI s, xI d, xI c, xI g] M := by
  refine p_hill hs hd hc hg (fun q => ⟨_, rfl, z_hill hs hd hc hg (fun _ => ⟨rfl, hI⟩) (fun r => absurd r q)⟩) (fun q => ⟨_, rfl, z_hill hs hd hc hg (fun r => absurd q r) (fun _ => ⟨rfl, ?_⟩)⟩)
  obtain ⟨q1, q2, q3, q4, q5, q6, q7, q8, q9⟩ := q
  obtain ⟨a, rfl⟩ := Int.eq_ofNat_of_zero_le q1
  obtain ⟨b, rfl⟩ := Int.eq_ofNat_of_zero_le q3
  rw [Int.toNat_natCast, Int.toNat_natCast, show (6 * (a : Int) + (b : Int)).toNat = 6 * a + b by omega]
  generalize hM1 : xup (xup M (47 + a) (xup (M (47 + a)) b c)) (54 + a) (xup (M (54 + a)) b g) = M1
  have h47 : M1 (47 + a) = xup (M (47 + a)) b c := by rw [← hM1, xup_ne (by omega), xup_at]
  have h54 : M1 (54 + a) = xup (M (54 + a)) b g := by rw [← hM1, xup_at]
  have hr : ∀ x, x ≠ 47 + a → x ≠ 54 + a → M1 x = M x := fun x x1 x2 => by rw [← hM1, xup_ne x2, xup_ne x1]
  clear hM1
  have e77 : M1 77 = M 77 := hr 77 (by omega) (by omega)
  have e78 : M1 78 = M 78 := hr 78 (by omega) (by omega)
  rw [e77, e78]
  generalize hM2 : xup (xup M1 77 (xup (M 77) (6 * a + b) c)) 78 (xup (M 78) (6 * a + b) g) = M2
  have g77 : M2 77 = xup (M 77) (6 * a + b) c := by rw [← hM2, xup_ne (by decide), xup_at]
  have g78 : M2 78 = xup (M 78) (6 * a + b) g := by rw [← hM2, xup_at]
  have g1 : ∀ x, x ≠ 77 → x ≠ 78 → M2 x = M1 x := fun x x1 x2 => by rw [← hM2, xup_ne x2, xup_ne x1]
  clear hM2
  obtain ⟨a1, a2, a3, b1, b2, b3⟩ := hI
  have gg : ∀ x, x < 47 ∨ (59 < x ∧ x < 77) → M2 x = M x := fun x hx => by rw [g1 x (by omega) (by omega), hr x (by omega) (by omega)]
  have c47 : ∀ f : Nat, f < 6 → M2 (47 + f) = if f = a then xup (M (47 + a)) b c else M (47 + f) := fun f hf => by
    rw [g1 _ (by omega) (by omega)]
    by_cases q : f = a
    · rw [if_pos q, q, h47]
    · rw [if_neg q, hr _ (by omega) (by omega)]
  have c54 : ∀ f : Nat, f < 6 → M2 (54 + f) = if f = a then xup (M (54 + a)) b g else M (54 + f) := fun f hf => by
    rw [g1 _ (by omega) (by omega)]
    by_cases q : f = a
    · rw [if_pos q, q, h54]
    · rw [if_neg q, hr _ (by omega) (by omega)]
  refine ⟨zR_same (fun x hx => gg x (by omega)) (by rw [gg 2 (by omega)]) (by rw [gg 64 (by omega)]) (by rw [gg 64 (by omega)]) (by rw [gg 64 (by omega)]) (by rw [gg 64 (by omega)]) a1, ?_, by rw [gg 18 (by omega)]; exact a3, fun f t hf ht => ?_, fun f t hf ht => ?_, fun f hf => ?_⟩
  · unfold relL
    rw [gg 25 (by omega), gg 64 (by omega), gg 76 (by omega), gg 26 (by omega)]
    exact a2
  · rw [c47 f hf, c54 f hf]
    obtain ⟨y1, y2, y3, y4⟩ := b1 f t hf ht
    by_cases q : f = a
    · rw [if_pos q, if_pos q]
      by_cases q2 : t = b
      · rw [q2, xup_at, xup_at]; exact ⟨q6, q7, q8, q9⟩
      · rw [xup_ne q2, xup_ne q2, ← q]; exact ⟨y1, y2, y3, y4⟩
    · rw [if_neg q, if_neg q]; exact ⟨y1, y2, y3, y4⟩
  · unfold cM hM
    obtain ⟨y1, y2⟩ := b2 f t hf ht
    unfold cM at y1
    unfold hM at y2
    rw [c47 f hf, c54 f hf, g77, g78]
    by_cases q : f = a ∧ t = b
    · obtain ⟨rfl, rfl⟩ := q
      rw [if_pos rfl, if_pos rfl, xup_at, xup_at, xup_at, xup_at]
      exact ⟨rfl, rfl⟩
    · rw [xup_ne (show 6 * f + t ≠ 6 * a + b by omega), xup_ne (show 6 * f + t ≠ 6 * a + b by omega)]
      by_cases q2 : f = a
      · rw [if_pos q2, if_pos q2, xup_ne (show t ≠ b from fun r => q ⟨q2, r⟩), xup_ne (show t ≠ b from fun r => q ⟨q2, r⟩), ← q2]
        exact ⟨y1, y2⟩
      · rw [if_neg q2, if_neg q2]
        exact ⟨y1, y2⟩
  · unfold cM
    have y1 := b3 f hf
    unfold cM at y1
    rw [c47 f hf]
    by_cases q : f = a
    · rw [if_pos q, xup_ne (show f ≠ b by omega), ← q]
      exact y1
    · rw [if_neg q]
      exact y1
