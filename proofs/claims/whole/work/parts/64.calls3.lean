/-! calls that read; hills -/
theorem fstW_fr {M M' : xM} (h : frE M M') (f g : Nat → Int) (v : Int) : ∀ m w : Nat, fstW M' f g v m w = fstW M f g v m w
  | 0, _ => rfl
  | m + 1, w => by rw [fstW, fstW, wF_fr h, h 15 (by decide), h 23 (by decide), fstW_fr h f g v m (w + 1)]
theorem spU_fr {M M' : xM} (h : frE M M') (v : Int) (k : Nat) : ∀ i, spU M' v k i = spU M v k i
  | 0 => rfl
  | i + 1 => by rw [spU, spU, spU_fr h v k i, rRow_fr h, fstW_fr h, wF_fr h, h 3 (by decide)]
theorem spW_fr {M M' : xM} (h : frE M M') (v : Int) (k i : Nat) : spW M' v k i = spW M v k i := by
  unfold spW
  rw [spU_fr h, rRow_fr h, fstW_fr h, h 3 (by decide)]
theorem bK_fr {M M' : xM} (h : frE M M') : bK M' = bK M := by
  unfold bK
  congr 1
  funext k
  rw [rRow_fr h]
theorem bV_fr {M M' : xM} (h : frE M M') : bV M' = bV M := by
  unfold bV
  rw [bK_fr h, rRow_fr h]
/-- the class has read -/
theorem INV_rd {M M1 : xM} (hI : INV M) (f1 : ∀ a, a < 25 ∨ a = 26 ∨ a = 28 ∨ 44 < a → M1 a = M a) (f2 : ∀ j, j ≠ 5 → j ≠ 6 → M1 25 j = M 25 j) : INV M1 := INV_same ⟨fun a ha => f1 a (by omega), by rw [f1 2 (by omega)], by rw [f1 18 (by omega)]; exact hI.2.2.1, f2 3 (by decide) (by decide), by rw [f1 64 (by omega)], by rw [f1 64 (by omega)], by rw [f1 64 (by omega)], by rw [f1 64 (by omega)], by rw [f1 64 (by omega)]⟩ hI
/-- the reference has read -/
theorem INV_rdF {M M2 : xM} (hI : INV M) (f : rdF M M2) : INV M2 := INV_same ⟨fun a ha => f.1 a (by omega), by rw [f.1 2 (by omega)], by rw [f.1 18 (by omega)]; exact hI.2.2.1, by rw [f.1 25 (by omega)], f.2 0 (by decide), f.2 3 (by decide), f.2 6 (by decide), f.2 13 (by decide), f.2 15 (by decide)⟩ hI
theorem k_doubt {M : xM} (hI : INV M) {i : Int} (hi : xrg i) : kc 7 6 m_X_doubt m_M_doubt [xI i] M := by
  have hz := hI.1
  have hs0 : ∀ q, q < bK M → (fun q => (spW M (bV M) (bK M) q : Int)) q = (spW M (bV M) (bK M) q : Int) := fun _ _ => rfl
  refine p_doubt hz.rd hi (fun q => ⟨_, rfl, z_doubt hz hs0 hi (fun _ => ⟨rfl, hI⟩) (fun r => by omega) (fun r => by omega) (fun _ n e => by omega)⟩) (fun q c => ⟨_, rfl, z_doubt hz hs0 hi (fun r => by omega) (fun _ _ => ⟨rfl, hI⟩) (fun _ r => absurd c r) (fun r => absurd c r)⟩) (fun q c r M1 f1 f2 => ⟨_, rfl, ?_⟩) (fun c n s M1 e hn hs f1 f2 => ⟨_, rfl, ?_⟩)
  · have fr : frE M M1 := fun a ha => f1 a (by omega)
    have hI1 := INV_rd hI f1 f2
    refine z_doubt (s := fun q => (spW M1 (bV M1) (bK M1) q : Int)) hI1.1 (fun _ _ => rfl) hi (fun r => by omega) (fun _ r => absurd (by rw [fr 15 (by decide), fr 3 (by decide)] at r; exact r) c) (fun _ _ _ M2 g => ⟨rfl, INV_rdF hI1 g⟩) (fun _ n e hn => by rw [bK_fr fr] at hn; omega)
  · have fr : frE M M1 := fun a ha => f1 a (by omega)
    have hI1 := INV_rd hI f1 f2
    refine z_doubt (s := s) hI1.1 (fun q hq => by rw [spW_fr fr, bK_fr fr, bV_fr fr]; rw [bK_fr fr] at hq; exact hs q hq) hi (fun r => by omega) (fun _ r => absurd (by rw [fr 15 (by decide), fr 3 (by decide)] at r; exact r) c) (fun _ _ r => by rw [bK_fr fr] at r; omega) (fun _ n' e' hn' M2 g => ⟨?_, INV_rdF hI1 g⟩)
    obtain rfl : n' = n := by omega
    rw [arF_fr fr, arB_fr fr, dbt_fr fr, bK_fr fr, bV_fr fr, fr 3 (by decide)]
theorem k_most {M : xM} (hI : INV M) : kc 7 6 m_X_most m_M_most [] M := by
  have hz := hI.1
  have hs0 : ∀ q, q < bK M → (fun q => (spW M (bV M) (bK M) q : Int)) q = (spW M (bV M) (bK M) q : Int) := fun _ _ => rfl
  refine p_most hz.rd (fun c => ⟨_, rfl, z_most hz hs0 (fun _ => ⟨rfl, hI⟩) (fun r => absurd c r)⟩) (fun c s M1 hs f1 f2 => ⟨_, rfl, ?_⟩)
  have fr : frE M M1 := fun a ha => f1 a (by omega)
  have hI1 := INV_rd hI f1 f2
  refine z_most (s := s) hI1.1 (fun q hq => by rw [spW_fr fr, bK_fr fr, bV_fr fr]; rw [bK_fr fr] at hq; exact hs q hq) (fun r => absurd (by rw [fr 15 (by decide), fr 3 (by decide)] at r; exact r) c) (fun _ M2 g => ⟨?_, INV_rdF hI1 g⟩)
  have e : (fun i => dbt M1 (arF M1 s i) (arB M1 s (bK M1) (bK M1 - i - 1)) (bV M1) (s i) (M1 3 2).toNat) = fun i => dbt M (arF M s i) (arB M s (bK M) (bK M - i - 1)) (bV M) (s i) (M 3 2).toNat := by
    funext i
    rw [arF_fr fr, arB_fr fr, dbt_fr fr, bK_fr fr, bV_fr fr, fr 3 (by decide)]
  rw [e, bK_fr fr]
theorem k_read {M : xM} (hI : INV M) : kc 7 6 m_X_read m_M_read [] M := by
  have hz := hI.1
  have hrd := hz.rd
  refine p_read hrd (fun c => ⟨_, rfl, z_read hz (fun _ => ⟨rfl, hI⟩) (fun r => absurd c r)⟩) (fun c M1 f1 f3 f2 f26 => ⟨_, rfl, ?_⟩)
  have fr : frE M M1 := fun a ha => f1 a (by omega)
  have hz1 : zR M1 := zR_fr ⟨fun a ha => ?_, fun j _ => by rw [f1 64 (by omega)]⟩ hz
  · sorry
  · sorry
theorem xI_pair {s d : Int} (h : isPair s d) : ∃ a b : Nat, s = (a : Int) ∧ d = (b : Int) ∧ a < 6 ∧ b < 6 ∧ a ≠ b := by
  obtain ⟨h1, h2, h3, h4, h5⟩ := h
  exact ⟨s.toNat, d.toNat, by omega, by omega, by omega, by omega, by omega⟩
theorem INV_hl {M M1 : xM} (hI : INV M) (f : hlFr M M1) : INV M1 := INV_same ⟨fun a ha => f a (by omega) (by omega), by rw [f 2 (by decide) (by omega)], by rw [f 18 (by decide) (by omega)]; exact hI.2.2.1, by rw [f 25 (by decide) (by omega)], by rw [f 64 (by decide) (by omega)], by rw [f 64 (by decide) (by omega)], by rw [f 64 (by decide) (by omega)], by rw [f 64 (by decide) (by omega)], by rw [f 64 (by decide) (by omega)]⟩ hI
theorem INV_en {M M2 : xM} (hI : INV M) (f : enFr M M2) : INV M2 := INV_same ⟨fun a ha => f.1 a (by omega), by rw [f.1 2 (by omega)], by rw [f.1 18 (by omega)]; exact hI.2.2.1, by rw [f.1 25 (by omega)], f.2 0 (by decide) (by decide) (by decide), f.2 3 (by decide) (by decide) (by decide), f.2 6 (by decide) (by decide) (by decide), f.2 13 (by decide) (by decide) (by decide), f.2 15 (by decide) (by decide) (by decide)⟩ hI
theorem enFr_lk {M M2 : xM} (f : lkFr M M2) : enFr M M2 := ⟨fun a ha => f.1 a (by omega), f.2⟩
theorem cM_hl {M M1 : xM} (f : hlFr M M1) : ∀ a b : Nat, a < 6 → cM M1 a b = cM M a b := fun a b ha => by
  unfold cM
  rw [f (47 + a) (by omega) (by omega)]
