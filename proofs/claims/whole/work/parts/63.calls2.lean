/-! calls that change what is heard, and what is chosen -/
theorem INV_ear {M M2 : xM} (hI : INV M) (hh : relH M2) (he : earOk M2) (h : ∀ a, a ≠ 23 → a ≠ 24 → a ≠ 64 → a ≠ 75 → M2 a = M a) (h64 : ∀ j, j ≠ 13 → M2 64 j = M 64 j) : INV M2 := by
  obtain ⟨⟨⟨a1, a2, a3, a4⟩, b1, b2⟩, c, d, e1, e2, e3⟩ := hI
  refine ⟨⟨⟨zPre_same (fun a ha => h a (by omega) (by omega) (by omega) (by omega)) (by rw [h 2 (by decide) (by decide) (by decide) (by decide)]) (h64 0 (by decide)) (h64 3 (by decide)) (h64 6 (by decide)) a1, gvOk_same (fun a ha => h a (by omega) (by omega) (by omega) (by omega)) a2, ?_, ?_⟩, hh, he⟩, ?_, by rw [h 18 (by decide) (by decide) (by decide) (by decide)]; exact d, hill_same (fun a ha => h a (by omega) (by omega) (by omega) (by omega)) e1 e2 e3⟩
  · rw [h 3 (by decide) (by decide) (by decide) (by decide), h 74 (by decide) (by decide) (by decide) (by decide), h 15 (by decide) (by decide) (by decide) (by decide)]
    exact a3
  · rw [h 3 (by decide) (by decide) (by decide) (by decide), h 15 (by decide) (by decide) (by decide) (by decide)]
    exact fun w hw hc => tabZ_same (fun a ha => h a (by omega) (by omega) (by omega) (by omega)) (a4 w hw hc)
  · unfold relL
    rw [h 25 (by decide) (by decide) (by decide) (by decide), h64 15 (by decide), h 76 (by decide) (by decide) (by decide) (by decide), h 26 (by decide) (by decide) (by decide) (by decide)]
    exact c
theorem k_hush {M : xM} (hI : INV M) : kc 2 1 m_X_hush m_M_hush [] M := by
  have hh := hI.1.2.1
  have he := hI.1.2.2
  refine p_hush ⟨_, rfl, z_hush ⟨?_, ?_⟩⟩
  · rw [xup_ne (by decide), hh.1]
  · refine INV_ear hI ?_ ?_ (fun a a1 _ a3 _ => by rw [xup_ne a3, xup_ne a1]) (fun j hj => by rw [xup_at, xup_ne hj, xup_ne (by decide)])
    · unfold relH
      rw [xup_at, xup_at, xup_ne (show (23 : Nat) ≠ 64 by decide), xup_at, xup_at]
      exact ⟨rfl, fun j hj => by omega⟩
    · unfold earOk
      rw [xup_ne (show (23 : Nat) ≠ 64 by decide), xup_at, xup_at, xup_ne (show (24 : Nat) ≠ 64 by decide), xup_ne (show (24 : Nat) ≠ 23 by decide)]
      exact ⟨by decide, by decide, he.2.2⟩
theorem k_hear {M : xM} (hI : INV M) {v : Int} (hv : xrg v) : kc 2 2 m_X_hear m_M_hear [xI v] M := by
  have hh := hI.1.2.1
  obtain ⟨n0, n60, nb⟩ := hI.1.2.2
  have e13 := hh.1
  refine p_hear ⟨n0, n60⟩ hv (fun q => ⟨_, rfl, z_hear (by rw [e13]; exact ⟨n0, n60⟩) hv (fun _ => ⟨rfl, hI⟩) (fun a b => by omega) (fun a b => by omega)⟩) (fun q1 q2 q3 => ⟨_, rfl, z_hear (by rw [e13]; exact ⟨n0, n60⟩) hv (fun a => by omega) (fun _ _ _ => ⟨rfl, hI⟩) (fun a b c => by rw [e13] at c; omega)⟩) (fun q1 q2 q3 => ⟨_, rfl, ?_⟩)
  obtain ⟨n, hn⟩ := Int.eq_ofNat_of_zero_le n0
  have f64 : earAdd M v 64 = M 64 := by unfold earAdd; rw [xup_ne (by decide), xup_ne (by decide)]
  have f75 : earAdd M v 75 = M 75 := by unfold earAdd; rw [xup_ne (by decide), xup_ne (by decide)]
  refine z_hear (by rw [f64, e13]; exact ⟨n0, n60⟩) hv (fun a => by omega) (fun a b c => by rw [f64, e13] at c; omega) (fun _ _ _ => ⟨by rw [f64, e13], ?_⟩)
  have en : (M 23 1).toNat = n := by omega
  have g23 : zHear (earAdd M v) v 23 = xup (M 23) 1 (M 23 1 + 1) := by unfold zHear earAdd; rw [xup_ne (by decide), xup_ne (by decide), xup_at]
  have g24 : zHear (earAdd M v) v 24 = xup (M 24) n v := by unfold zHear earAdd; rw [xup_ne (by decide), xup_ne (by decide), xup_ne (by decide), xup_at, en]
  have g64 : zHear (earAdd M v) v 64 = xup (M 64) 13 (M 64 13 + 1) := by unfold zHear; rw [xup_at, f64]
  have g75 : zHear (earAdd M v) v 75 = xup (M 75) n v := by unfold zHear; rw [xup_ne (by decide), xup_at, f75, f64, e13, en]
  have gr : ∀ a, a ≠ 23 → a ≠ 24 → a ≠ 64 → a ≠ 75 → zHear (earAdd M v) v a = M a := fun a a1 a2 a3 a4 => by unfold zHear earAdd; rw [xup_ne a3, xup_ne a4, xup_ne a1, xup_ne a2]
  refine INV_ear hI ?_ ?_ gr (fun j hj => by rw [g64, xup_ne hj])
  · unfold relH
    rw [g23, g24, g64, g75, xup_at, xup_at, e13]
    refine ⟨rfl, fun j hj => ?_⟩
    by_cases c : j = n
    · rw [c, xup_at, xup_at]
    · rw [xup_ne c, xup_ne c]; exact hh.2 j (by omega)
  · unfold earOk
    rw [g23, g24, xup_at]
    refine ⟨by omega, by omega, fun j => ?_⟩
    by_cases c : j = n
    · rw [c, xup_at]; exact ⟨q1, q2⟩
    · rw [xup_ne c]; exact nb j
theorem k_slip {M : xM} (hI : INV M) {i v : Int} (hi : xrg i) (hv : xrg v) : kc 2 2 m_X_slip m_M_slip [xI i, xI v] M := by
  have hh := hI.1.2.1
  obtain ⟨n0, n60, nb⟩ := hI.1.2.2
  have e13 := hh.1
  refine p_slip ⟨n0, n60⟩ hi hv (fun q => ⟨_, rfl, z_slip (by rw [e13]; exact ⟨n0, n60⟩) hi hv (fun _ => ⟨rfl, hI⟩) (fun a b c => by rw [e13] at b; omega) (fun a b c => by rw [e13] at b; omega)⟩) (fun q1 q2 q3 => ⟨_, rfl, ?_⟩) (fun q1 q2 q3 q4 => ⟨_, rfl, ?_⟩)
  · obtain ⟨k, rfl⟩ := Int.eq_ofNat_of_zero_le q1
    rw [Int.toNat_natCast]
    generalize hM1 : xup (xup M 24 (shf (M 24) k (M 23 1 - 1).toNat)) 23 (xup (M 23) 1 (M 23 1 - 1)) = M1
    have f64 : M1 64 = M 64 := by rw [← hM1, xup_ne (by decide), xup_ne (by decide)]
    have f75 : M1 75 = M 75 := by rw [← hM1, xup_ne (by decide), xup_ne (by decide)]
    have f23 : M1 23 = xup (M 23) 1 (M 23 1 - 1) := by rw [← hM1, xup_at]
    have f24 : M1 24 = shf (M 24) k (M 23 1 - 1).toNat := by rw [← hM1, xup_ne (by decide), xup_at]
    have fr : ∀ a, a ≠ 23 → a ≠ 24 → M1 a = M a := fun a a1 a2 => by rw [← hM1, xup_ne a1, xup_ne a2]
    refine z_slip (by rw [f64, e13]; exact ⟨n0, n60⟩) hi hv (fun a => by rw [f64, e13] at a; omega) (fun _ _ _ => ⟨?_, ?_⟩) (fun a b c d => by omega)
    · rw [Int.toNat_natCast, f75, hh.2 k (by omega)]
    · rw [Int.toNat_natCast, f64, f75, e13]
      refine INV_ear hI ?_ ?_ (fun a a1 a2 a3 a4 => by rw [xup_ne a4, xup_ne a3]; exact fr a a1 a2) (fun j hj => by rw [xup_ne (by decide), xup_at, xup_ne hj])
      · unfold relH
        rw [xup_ne (show (64 : Nat) ≠ 75 by decide), xup_at, xup_at, xup_at, xup_ne (show (23 : Nat) ≠ 75 by decide), xup_ne (show (23 : Nat) ≠ 64 by decide), xup_ne (show (24 : Nat) ≠ 75 by decide), xup_ne (show (24 : Nat) ≠ 64 by decide), f23, f24, xup_at]
        refine ⟨rfl, fun j hj => ?_⟩
        simp only [shf]
        split
        · exact hh.2 (j + 1) (by omega)
        · exact hh.2 j (by omega)
      · unfold earOk
        rw [xup_ne (show (23 : Nat) ≠ 75 by decide), xup_ne (show (23 : Nat) ≠ 64 by decide), xup_ne (show (24 : Nat) ≠ 75 by decide), xup_ne (show (24 : Nat) ≠ 64 by decide), f23, f24, xup_at]
        refine ⟨by omega, by omega, fun j => ?_⟩
        simp only [shf]
        split
        · exact nb _
        · exact nb _
  · obtain ⟨k, rfl⟩ := Int.eq_ofNat_of_zero_le q1
    rw [Int.toNat_natCast]
    refine z_slip (by rw [xup_ne (by decide), e13]; exact ⟨n0, n60⟩) hi hv (fun a => by rw [xup_ne (by decide), e13] at a; omega) (fun a b c => by omega) (fun _ _ _ _ => ⟨?_, ?_⟩)
    · rw [Int.toNat_natCast, xup_ne (by decide), hh.2 k (by omega)]
    · rw [Int.toNat_natCast, xup_ne (show (75 : Nat) ≠ 24 by decide)]
      refine INV_ear hI ?_ ?_ (fun a a1 a2 a3 a4 => by rw [xup_ne a4, xup_ne a2]) (fun j hj => by rw [xup_ne (by decide), xup_ne (by decide)])
      · unfold relH
        rw [xup_ne (show (64 : Nat) ≠ 75 by decide), xup_ne (show (64 : Nat) ≠ 24 by decide), xup_ne (show (23 : Nat) ≠ 75 by decide), xup_ne (show (23 : Nat) ≠ 24 by decide), xup_at, xup_ne (show (24 : Nat) ≠ 75 by decide), xup_at]
        refine ⟨e13, fun j hj => ?_⟩
        by_cases c : j = k
        · rw [c, xup_at, xup_at]
        · rw [xup_ne c, xup_ne c]; exact hh.2 j hj
      · unfold earOk
        rw [xup_ne (show (23 : Nat) ≠ 75 by decide), xup_ne (show (23 : Nat) ≠ 24 by decide), xup_ne (show (24 : Nat) ≠ 75 by decide), xup_at]
        refine ⟨n0, n60, fun j => ?_⟩
        by_cases c : j = k
        · rw [c, xup_at]; exact ⟨q3, q4⟩
        · rw [xup_ne c]; exact nb j
theorem k_drum {M : xM} (hI : INV M) {w : Int} (hw : xrg w) : kc 3 3 m_X_drum m_M_drum [xI w] M := by
  have hh := hI.1.2.1
  obtain ⟨n0, n60, nb⟩ := hI.1.2.2
  have e13 := hh.1
  have hn13 : 0 ≤ M 64 13 ∧ M 64 13 ≤ 60 := by rw [e13]; exact ⟨n0, n60⟩
  have hp := hI.ph
  refine p_drum hp hI.rd.2.2 ⟨n0, n60⟩ hw (fun q => ⟨_, rfl, z_drum hI.1.1 hn13 hw (fun _ => ⟨rfl, hI⟩) (fun a b c => by omega) (fun a b c => by omega) (fun a b c => by omega)⟩) (fun a b c => ⟨_, rfl, z_drum hI.1.1 hn13 hw (fun q => by omega) (fun _ _ _ => ⟨rfl, hI⟩) (fun _ _ q => absurd c q) (fun _ _ q => absurd c q)⟩) (fun a b c d => ⟨_, rfl, z_drum hI.1.1 hn13 hw (fun q => by omega) (fun _ _ q => absurd q c) (fun _ _ _ _ => ⟨rfl, hI⟩) (fun _ _ _ q => by rw [e13] at q; omega)⟩) (fun a b c d => ⟨_, rfl, ?_⟩)
  obtain ⟨k, rfl⟩ := Int.eq_ofNat_of_zero_le a
  rw [Int.toNat_natCast] at c d ⊢
  have w10 := hI.rd.2.2.2
  obtain ⟨s0, s1, s2, s3⟩ := (hp k (by omega)).2.2 c
  obtain ⟨s, es⟩ := Int.eq_ofNat_of_zero_le s1
  obtain ⟨u, eu⟩ := Int.eq_ofNat_of_zero_le n0
  have hb := btOf_rg (M 16 k) (M 17 k)
  obtain ⟨d1, d2, d3, d4⟩ := drumM_at M (btOf (M 16 k) (M 17 k)) n0 (M 16 k).toNat
  generalize hM1 : drumM M (btOf (M 16 k) (M 17 k)) (M 16 k).toNat = M1 at *
  have f64 : M1 64 = M 64 := d1 64 (by decide) (by decide)
  have f75 : M1 75 = M 75 := d1 75 (by decide) (by decide)
  have f16 : M1 16 = M 16 := d1 16 (by decide) (by decide)
  have f17 : M1 17 = M 17 := d1 17 (by decide) (by decide)
  have f3 : M1 3 = M 3 := d1 3 (by decide) (by decide)
  have f15 : M1 15 = M 15 := d1 15 (by decide) (by decide)
  have hz1 : zG M1 := zG_fr (fun a ha => d1 a (by omega) (by omega)) (by rw [f64]) (by rw [f64]) (by rw [f64]) hI.1.1
  refine z_drum hz1 (by rw [f64]; exact hn13) hw (fun q => by rw [f3] at q; omega) (fun _ _ q => absurd (by rw [f15, Int.toNat_natCast] at q; exact q) c) (fun _ _ _ q => by rw [f64, f16, e13, Int.toNat_natCast] at q; omega) (fun _ _ _ _ => ⟨by rw [f64, f16, e13, Int.toNat_natCast], ?_⟩)
  rw [Int.toNat_natCast, f16, f17, f64]
  generalize btOf (M 16 k) (M 17 k) = β at *
  rw [es, Int.toNat_natCast] at d3 d4
  rw [es, Int.toNat_natCast]
  have z75 : zBts M1 β s 75 = fun j => if u ≤ j ∧ j < u + s then β (j - u) else M 75 j := by
    unfold zBts
    rw [xup_at, f64, f75, e13, eu, Int.toNat_natCast]
  have zr : ∀ a, a ≠ 75 → zBts M1 β s a = M1 a := fun a ha => by unfold zBts; rw [xup_ne ha]
  rw [eu, Int.toNat_natCast] at d4
  refine INV_ear hI ?_ ?_ (fun a a1 a2 a3 a4 => by rw [xup_ne a3, zr a a4]; exact d1 a a1 a2) (fun j hj => by rw [xup_at, xup_ne hj])
  · unfold relH
    rw [xup_at, xup_at, xup_ne (show (23 : Nat) ≠ 64 by decide), zr 23 (by decide), d3, xup_ne (show (75 : Nat) ≠ 64 by decide), z75, xup_ne (show (24 : Nat) ≠ 64 by decide), zr 24 (by decide)]
    refine ⟨by rw [e13], fun j hj => ?_⟩
    rw [d4 j]
    show (if u ≤ j ∧ j < u + s then β (j - u) else M 75 j) = _
    split
    · rfl
    · exact hh.2 j (by omega)
  · unfold earOk
    rw [xup_ne (show (23 : Nat) ≠ 64 by decide), zr 23 (by decide), d3, xup_ne (show (24 : Nat) ≠ 64 by decide), zr 24 (by decide)]
    refine ⟨by omega, by omega, fun j => ?_⟩
    rw [d4 j]
    split
    · have := hb (j - u)
      omega
    · exact nb j
/-- after the choosing -/
theorem INV_ch {M M1 M2 : xM} (hI : INV M) (h1 : ∀ a, a ≠ 2 → (a < 15 ∨ 22 < a) → M1 a = M a) (h2 : M1 2 6 = M 2 6) (h18 : 0 ≤ M1 18 2 ∧ M1 18 2 ≤ 10) (hg : gvOk M1) (h : ∀ a, a < 69 ∨ 74 < a ∧ a < 79 → M2 a = M1 a) (ht : tabZ M2) (hc : ∀ w : Nat, (w : Int) < M 3 2 → M2 74 w = M1 15 w) : INV M2 := by
  obtain ⟨⟨⟨a1, a2, a3, a4⟩, b1, b2⟩, c, d, e1, e2, e3⟩ := hI
  have g : ∀ a, a ≠ 2 → (a < 15 ∨ 22 < a ∧ a < 69 ∨ 74 < a ∧ a < 79) → M2 a = M a := fun a a1 a2 => by rw [h a (by omega)]; exact h1 a a1 (by omega)
  refine ⟨⟨⟨zPre_same (fun a ha => g a (by omega) (by omega)) (by rw [h 2 (by omega)]; exact h2) (by rw [g 64 (by decide) (by omega)]) (by rw [g 64 (by decide) (by omega)]) (by rw [g 64 (by decide) (by omega)]) a1, gvOk_same (fun a ha => h a (by omega)) hg, ?_, fun _ _ _ => ht⟩, ?_, ?_⟩, ?_, by rw [h 18 (by omega)]; exact h18, hill_same (fun a ha => g a (by omega) (by omega)) e1 e2 e3⟩
  · rw [g 3 (by decide) (by omega), h 15 (by omega)]
    exact hc
  · unfold relH
    rw [g 23 (by decide) (by omega), g 24 (by decide) (by omega), g 75 (by decide) (by omega), g 64 (by decide) (by omega)]
    exact b1
  · unfold earOk
    rw [g 23 (by decide) (by omega), g 24 (by decide) (by omega)]
    exact b2
  · unfold relL
    rw [g 25 (by decide) (by omega), g 64 (by decide) (by omega), g 76 (by decide) (by omega), g 26 (by decide) (by omega)]
    exact c
theorem k_choose {M : xM} (hI : INV M) : kc 7 5 m_X_choose m_M_choose [] M := by
  have hz := hI.1.1.1
  refine p_choose hz.1 hI.tb hI.2.2.1 hz.2.2.2.2 (fun M1 hT => ⟨_, rfl, ?_⟩)
  obtain ⟨t1, t2, t3, t4, t5, -⟩ := hT
  have w0 := hI.rd.2.2.1
  have w10 := hI.rd.2.2.2
  have hz1 : zPre M1 := zPre_same (fun a ha => t1 a (by omega)) (by rw [t1 2 (by omega)]) (by rw [t1 64 (by omega)]) (by rw [t1 64 (by omega)]) (by rw [t1 64 (by omega)]) hz
  refine z_choose hz1 (fun M2 f1 f2 f3 f4 => ?_)
  have e3 : M1 3 = M 3 := t1 3 (by omega)
  rw [e3, t1 10 (by omega), t1 2 (by omega), pS_of' (t1 4 (by omega)) (t1 11 (by omega)), pN_of' (t1 5 (by omega)) (t1 11 (by omega)) (t1 12 (by omega))] at f3
  have hs := isCh_one f3 t3
  refine ⟨by rw [e3, cntP_congr hs], ?_⟩
  have hc := cntP_rg (M1 15) (M 3 2).toNat
  exact INV_ch hI (fun a _ ha => t1 a (by omega)) (by rw [t1 2 (by omega)]) (by omega) t4 (fun a ha => f1 a (by omega)) f2 (fun w hw => hs w (by omega))
theorem lsM_0 {M : xM} (h : M 3 2 = 0) : (lsM M).1 = 0 ∧ (lsM M).2.1 = 0 := by
  unfold lsM lsR
  rw [h]
  exact ⟨rfl, rfl⟩
theorem lsM_of {M M1 : xM} (h3 : M1 3 = M 3) (h4 : M1 4 = M 4) (h5 : M1 5 = M 5) (h10 : M1 10 = M 10) (h11 : M1 11 = M 11) (h12 : M1 12 = M 12) (h2 : M1 2 6 = M 2 6) : lsM M1 = lsM M := by
  unfold lsM
  rw [h3, h10, h2, pS_of' h4 h11, pN_of' h5 h11 h12]
theorem k_least {M : xM} (hI : INV M) : kc 21 5 m_X_least m_M_least [] M := by
  have hz := hI.1.1.1
  have w0 := hI.rd.2.2.1
  have w10 := hI.rd.2.2.2
  have l0 := lsM_0 (M := M)
  have zp : ∀ M1 : xM, (∀ a, a ≠ 2 → (a < 15 ∨ 22 < a) → M1 a = M a) → M1 2 6 = M 2 6 → zPre M1 ∧ lsM M1 = lsM M := fun M1 t1 t2 => ⟨zPre_same (fun a ha => t1 a (by omega) (by omega)) t2 (by rw [t1 64 (by decide) (by omega)]) (by rw [t1 64 (by decide) (by omega)]) (by rw [t1 64 (by decide) (by omega)]) hz, lsM_of (t1 3 (by decide) (by omega)) (t1 4 (by decide) (by omega)) (t1 5 (by decide) (by omega)) (t1 10 (by decide) (by omega)) (t1 11 (by decide) (by omega)) (t1 12 (by decide) (by omega)) t2⟩
  have keep : ∀ M1 M2 : xM, (∀ a, a ≠ 2 → (a < 18 ∨ 22 < a) → M1 a = M a) → M1 2 6 = M 2 6 → M1 18 2 = 0 → (∀ a, a < 69 ∨ 73 < a ∧ a < 79 ∨ 82 < a → M2 a = M1 a) → tabZ M2 → INV M2 := fun M1 M2 t1 t2 t3 f1 f2 => INV_ch hI (fun a h1 h2 => t1 a h1 (by omega)) t2 (by omega) (gvOk_same (fun a ha => t1 a (by omega) (by omega)) hI.1.1.2.1) (fun a ha => f1 a (by omega)) f2 (fun w hw => by rw [f1 74 (by omega), t1 74 (by decide) (by omega), t1 15 (by decide) (by omega)]; exact hI.1.1.2.2.1 w hw)
  refine p_least ⟨hz.1, hI.tb, hz.2.2.2.2⟩ hI.1.1.2.1 hI.2.2.1 (fun M1 f1 f2 f3 => ⟨_, rfl, ?_⟩) (fun M1 f1 f2 f3 f4 => ⟨_, rfl, ?_⟩) (fun M1 f1 f2 f3 f4 f5 f6 f7 f8 => ⟨_, rfl, ?_⟩)
  · have t2 := f1.2 6 (by decide) (by decide)
    obtain ⟨z1, el⟩ := zp M1 (fun a h1 h2 => f1.1 a h1 (by omega)) t2
    have e3 : M1 3 = M 3 := f1.1 3 (by decide) (by omega)
    refine z_least z1 (fun q => ?_) (fun _ q M2 g1 g2 => ⟨rfl, keep M1 M2 f1.1 t2 f2 g1 g2⟩) (fun _ q => by rw [el] at q; omega) (fun _ q => by rw [el] at q; omega)
    rw [e3] at q
    have := l0 q
    omega
  · have t2 := f1.2 6 (by decide) (by decide)
    obtain ⟨z1, el⟩ := zp M1 (fun a h1 h2 => f1.1 a h1 (by omega)) t2
    have e3 : M1 3 = M 3 := f1.1 3 (by decide) (by omega)
    refine z_least z1 (fun q => ?_) (fun _ q => by rw [el] at q; omega) (fun _ q r M2 g1 g2 => ⟨rfl, keep M1 M2 f1.1 t2 f2 g1 g2⟩) (fun _ q r => by rw [el] at r; omega)
    rw [e3] at q
    have := l0 q
    omega
  · have t2 := f2 6 (by decide) (by decide)
    obtain ⟨z1, el⟩ := zp M1 f1 t2
    have e3 : M1 3 = M 3 := f1 3 (by decide) (by omega)
    refine z_least z1 (fun q => ⟨?_, ?_⟩) (fun _ q => by rw [el] at q; omega) (fun _ q r => by rw [el] at r; omega) (fun _ q r M2 g1 g2 g3 g4 => ⟨by rw [el], ?_⟩)
    · rw [e3] at q
      rw [(l0 q).1]
    · rw [e3] at q
      exact INV_ch hI f1 t2 (by omega) f8 (fun _ _ => rfl) (fun w hw => absurd hw (by rw [e3, q]; omega)) (fun w hw => absurd hw (by rw [q]; omega))
    · rw [el, e3] at g3
      rw [e3] at g4
      refine INV_ch hI f1 t2 (by omega) f8 (fun a ha => g1 a (by omega)) g2 (fun w hw => ?_)
      rw [g3 w (by omega), f6 w (by omega)]
