/-! calls that change words, endings, the bound -/
theorem INV_gone {M M2 : xM} (hI : INV M) (hz : zPre M2) (h15 : ∀ w, w < 10 → M2 15 w = -1) (h74 : ∀ w, w < 10 → M2 74 w = -1) (h18 : M2 18 = M 18) (h : ∀ a, a = 23 ∨ a = 24 ∨ a = 26 ∨ (47 ≤ a ∧ a ≤ 59) ∨ (75 ≤ a ∧ a ≤ 78) → M2 a = M a) (h25 : M2 25 = M 25) (h13 : M2 64 13 = M 64 13) (h15' : M2 64 15 = M 64 15) : INV M2 := by
  obtain ⟨⟨⟨a1, a2, a3, a4⟩, b1, b2⟩, c, d, e1, e2, e3⟩ := hI
  have w10 := hz.1.2.1
  refine ⟨⟨⟨hz, fun w hw => Or.inl (h15 w hw), fun w hw => ?_, fun w hw hc => absurd (h15 w (by omega)) hc⟩, ?_, ?_⟩, ?_, by rw [h18]; exact d, hill_same (fun a ha => h a (by omega)) e1 e2 e3⟩
  · rw [h15 w (by omega), h74 w (by omega)]
  · unfold relH
    rw [h 23 (by omega), h 24 (by omega), h 75 (by omega), h13]
    exact b1
  · unfold earOk
    rw [h 23 (by omega), h 24 (by omega)]
    exact b2
  · unfold relL
    rw [h25, h15', h 76 (by omega), h 26 (by omega)]
    exact c
theorem xfill_at {f : Nat → Int} {n : Nat} {v : Int} {j : Nat} (h : j < n) : xfill f n v j = v := by
  unfold xfill
  rw [if_pos h]
theorem pow_rg {n b : Int} (h : isRow n b) : 1 ≤ n ∧ n ≤ 6 ∧ 0 ≤ b ∧ b < 2 ^ n.toNat := h
theorem k_word {M : xM} (hI : INV M) {n b : Int} (hn : xrg n) (hb : xrg b) : kc 6 3 m_X_word m_M_word [xI n, xI b] M := by
  have hw := hI.rd.2.2
  have hr := hI.1.1.1.2.2.2.1
  refine p_word hn hb hw (fun q => ⟨_, rfl, z_word hn hb (by rw [hr.1]; exact hw) (fun _ => ⟨rfl, hI⟩) (fun r => absurd r q) (fun r => absurd r q)⟩) (fun q e => ⟨_, rfl, z_word hn hb (by rw [hr.1]; exact hw) (fun r => absurd q r) (fun _ _ => ⟨rfl, hI⟩) (fun _ r => by rw [hr.1] at r; omega)⟩) (fun q e => ⟨_, rfl, ?_⟩)
  have f64 : goneM (rAdd_W M n b) 64 = M 64 := by unfold goneM rAdd_W; rw [xup_ne (by decide), xup_ne (by decide), xup_ne (by decide), xup_ne (by decide)]
  refine z_word hn hb (by rw [f64, hr.1]; exact hw) (fun r => absurd q r) (fun _ r => by rw [f64, hr.1] at r; omega) (fun _ _ => ⟨by rw [f64, hr.1], ?_⟩)
  obtain ⟨k, hk⟩ := Int.eq_ofNat_of_zero_le hw.1
  have hkn : (M 3 2).toNat = k := by omega
  have hkz : (M 64 0).toNat = k := by rw [hr.1]; exact hkn
  generalize hM2 : goneZ (zAddW (goneM (rAdd_W M n b)) n b) = M2
  have g3 : M2 3 = xup (M 3) 2 (M 3 2 + 1) := by rw [← hM2]; unfold goneZ zAddW goneM rAdd_W; rw [xup_ne (by decide), xup_ne (by decide), xup_ne (by decide), xup_ne (by decide), xup_ne (by decide), xup_at]
  have g4 : M2 4 = xup (M 4) k n := by rw [← hM2, ← hkn]; unfold goneZ zAddW goneM rAdd_W; rw [xup_ne (by decide), xup_ne (by decide), xup_ne (by decide), xup_ne (by decide), xup_ne (by decide), xup_ne (by decide), xup_ne (by decide), xup_at]
  have g5 : M2 5 = xup (M 5) k b := by rw [← hM2, ← hkn]; unfold goneZ zAddW goneM rAdd_W; rw [xup_ne (by decide), xup_ne (by decide), xup_ne (by decide), xup_ne (by decide), xup_ne (by decide), xup_ne (by decide), xup_at]
  have g15 : M2 15 = xfill (M 15) 10 (-1) := by rw [← hM2]; unfold goneZ zAddW goneM rAdd_W; rw [xup_ne (by decide), xup_ne (by decide), xup_ne (by decide), xup_ne (by decide), xup_at, xup_ne (by decide), xup_ne (by decide), xup_ne (by decide)]
  have g64 : M2 64 = xup (M 64) 0 (M 64 0 + 1) := by rw [← hM2]; unfold goneZ zAddW; rw [xup_ne (by decide), xup_at, f64]
  have g65 : M2 65 = xup (M 65) k n := by rw [← hM2]; unfold goneZ zAddW; rw [f64, hkz, xup_ne (by decide), xup_ne (by decide), xup_ne (by decide), xup_at]; unfold goneM rAdd_W; rw [xup_ne (by decide), xup_ne (by decide), xup_ne (by decide), xup_ne (by decide)]
  have g66 : M2 66 = xup (M 66) k b := by rw [← hM2]; unfold goneZ zAddW; rw [f64, hkz, xup_ne (by decide), xup_ne (by decide), xup_at]; unfold goneM rAdd_W; rw [xup_ne (by decide), xup_ne (by decide), xup_ne (by decide), xup_ne (by decide)]
  have g74 : ∀ w, w < 10 → M2 74 w = -1 := fun w hw => by rw [← hM2]; unfold goneZ; rw [xup_at, xfill_at hw]
  have gr : ∀ a, a ≠ 3 → a ≠ 4 → a ≠ 5 → a ≠ 15 → a ≠ 64 → a ≠ 65 → a ≠ 66 → a ≠ 74 → M2 a = M a := fun a a1 a2 a3 a4 a5 a6 a7 a8 => by rw [← hM2]; unfold goneZ zAddW goneM rAdd_W; rw [xup_ne a8, xup_ne a5, xup_ne a7, xup_ne a6, xup_ne a4, xup_ne a1, xup_ne a3, xup_ne a2]
  clear hM2
  obtain ⟨z1, z2, z3, z4, z5⟩ := hI.1.1.1
  obtain ⟨r1, r2, r3, r4⟩ := q
  refine INV_gone hI ⟨?_, ?_, ?_, ?_, ?_⟩ (fun w hw => by rw [g15, xfill_at hw]) g74 (gr 18 (by decide) (by decide) (by decide) (by decide) (by decide) (by decide) (by decide) (by decide)) (fun a ha => gr a (by omega) (by omega) (by omega) (by omega) (by omega) (by omega) (by omega) (by omega)) (gr 25 (by decide) (by decide) (by decide) (by decide) (by decide) (by decide) (by decide) (by decide)) (by rw [g64, xup_ne (by decide)]) (by rw [g64, xup_ne (by decide)])
  · unfold wOk
    rw [g3, g4, g5, xup_at]
    refine ⟨by omega, by omega, fun i hi => ?_⟩
    by_cases c : i = k
    · rw [c, xup_at, xup_at]; exact ⟨r1, r2, r3, r4⟩
    · rw [xup_ne c, xup_ne c]; exact z1.2.2 i (by omega)
  · unfold eOk
    rw [gr 6 (by decide) (by decide) (by decide) (by decide) (by decide) (by decide) (by decide) (by decide), gr 7 (by decide) (by decide) (by decide) (by decide) (by decide) (by decide) (by decide) (by decide), gr 8 (by decide) (by decide) (by decide) (by decide) (by decide) (by decide) (by decide) (by decide)]
    exact z2
  · have eT : TLs M2 = TLs M := by
      unfold TLs
      rw [gr 6 (by decide) (by decide) (by decide) (by decide) (by decide) (by decide) (by decide) (by decide), gr 7 (by decide) (by decide) (by decide) (by decide) (by decide) (by decide) (by decide) (by decide)]
    unfold tlOk
    rw [eT, gr 7 (by decide) (by decide) (by decide) (by decide) (by decide) (by decide) (by decide) (by decide), gr 8 (by decide) (by decide) (by decide) (by decide) (by decide) (by decide) (by decide) (by decide), gr 10 (by decide) (by decide) (by decide) (by decide) (by decide) (by decide) (by decide) (by decide), gr 11 (by decide) (by decide) (by decide) (by decide) (by decide) (by decide) (by decide) (by decide), gr 12 (by decide) (by decide) (by decide) (by decide) (by decide) (by decide) (by decide) (by decide), gr 13 (by decide) (by decide) (by decide) (by decide) (by decide) (by decide) (by decide) (by decide), gr 14 (by decide) (by decide) (by decide) (by decide) (by decide) (by decide) (by decide) (by decide)]
    exact z3
  · obtain ⟨q1, q2, q3, q4, q5, q6, q7⟩ := z4
    unfold relW
    rw [g64, g3, g4, g5, g65, g66, gr 2 (by decide) (by decide) (by decide) (by decide) (by decide) (by decide) (by decide) (by decide), gr 6 (by decide) (by decide) (by decide) (by decide) (by decide) (by decide) (by decide) (by decide), gr 7 (by decide) (by decide) (by decide) (by decide) (by decide) (by decide) (by decide) (by decide), gr 8 (by decide) (by decide) (by decide) (by decide) (by decide) (by decide) (by decide) (by decide), gr 67 (by decide) (by decide) (by decide) (by decide) (by decide) (by decide) (by decide) (by decide), gr 68 (by decide) (by decide) (by decide) (by decide) (by decide) (by decide) (by decide) (by decide), xup_at, xup_at, xup_ne (by decide), xup_ne (by decide)]
    refine ⟨by omega, q2, q3, fun i hi => ?_, q5, fun w hw => ?_, q7⟩
    · by_cases c : i = k
      · rw [c, xup_at, xup_at, xup_at, xup_at]; exact ⟨rfl, rfl⟩
      · rw [xup_ne c, xup_ne c, xup_ne c, xup_ne c]; exact q4 i (by omega)
    · by_cases c : w = k
      · rw [c, xup_at]; omega
      · rw [xup_ne c]; exact q6 w hw
  · rw [gr 2 (by decide) (by decide) (by decide) (by decide) (by decide) (by decide) (by decide) (by decide)]
    exact z5
theorem k_bound {M : xM} (hI : INV M) {v : Int} (hv : xrg v) : kc 6 2 m_X_bound m_M_bound [xI v] M := by
  have hr := hI.1.1.1.2.2.2.1
  refine p_bound hv (fun q => ⟨_, rfl, z_bound hv (fun _ => ⟨rfl, hI⟩) (fun r s => by omega)⟩) (fun q1 q2 => ⟨_, rfl, ?_⟩)
  have f64 : goneM (xup M 2 (xup (M 2) 6 v)) 64 = M 64 := by unfold goneM; rw [xup_ne (by decide), xup_ne (by decide)]
  refine z_bound hv (fun r => by omega) (fun _ _ => ⟨by rw [f64, hr.2.2.1], ?_⟩)
  generalize hM2 : goneZ (xup (goneM (xup M 2 (xup (M 2) 6 v))) 64 (xup (goneM (xup M 2 (xup (M 2) 6 v)) 64) 6 v)) = M2
  have g2 : M2 2 = xup (M 2) 6 v := by rw [← hM2]; unfold goneZ goneM; rw [xup_ne (by decide), xup_ne (by decide), xup_ne (by decide), xup_at]
  have g15 : ∀ w, w < 10 → M2 15 w = -1 := fun w hw => by rw [← hM2]; unfold goneZ goneM; rw [xup_ne (by decide), xup_ne (by decide), xup_at, xfill_at hw]
  have g64 : M2 64 = xup (M 64) 6 v := by rw [← hM2, f64]; unfold goneZ; rw [xup_ne (by decide), xup_at]
  have g74 : ∀ w, w < 10 → M2 74 w = -1 := fun w hw => by rw [← hM2]; unfold goneZ; rw [xup_at, xfill_at hw]
  have gr : ∀ a, a ≠ 2 → a ≠ 15 → a ≠ 64 → a ≠ 74 → M2 a = M a := fun a a1 a2 a3 a4 => by rw [← hM2]; unfold goneZ goneM; rw [xup_ne a4, xup_ne a3, xup_ne a2, xup_ne a1]
  clear hM2
  obtain ⟨z1, z2, z3, z4, z5⟩ := hI.1.1.1
  refine INV_gone hI ⟨?_, ?_, ?_, ?_, ?_⟩ g15 g74 (gr 18 (by decide) (by decide) (by decide) (by decide)) (fun a ha => gr a (by omega) (by omega) (by omega) (by omega)) (gr 25 (by decide) (by decide) (by decide) (by decide)) (by rw [g64, xup_ne (by decide)]) (by rw [g64, xup_ne (by decide)])
  · unfold wOk
    rw [gr 3 (by decide) (by decide) (by decide) (by decide), gr 4 (by decide) (by decide) (by decide) (by decide), gr 5 (by decide) (by decide) (by decide) (by decide)]
    exact z1
  · unfold eOk
    rw [gr 6 (by decide) (by decide) (by decide) (by decide), gr 7 (by decide) (by decide) (by decide) (by decide), gr 8 (by decide) (by decide) (by decide) (by decide)]
    exact z2
  · have eT : TLs M2 = TLs M := by
      unfold TLs
      rw [gr 6 (by decide) (by decide) (by decide) (by decide), gr 7 (by decide) (by decide) (by decide) (by decide)]
    unfold tlOk
    rw [eT, gr 7 (by decide) (by decide) (by decide) (by decide), gr 8 (by decide) (by decide) (by decide) (by decide), gr 10 (by decide) (by decide) (by decide) (by decide), gr 11 (by decide) (by decide) (by decide) (by decide), gr 12 (by decide) (by decide) (by decide) (by decide), gr 13 (by decide) (by decide) (by decide) (by decide), gr 14 (by decide) (by decide) (by decide) (by decide)]
    exact z3
  · obtain ⟨q1, q2, q3, q4, q5, q6, q7⟩ := z4
    unfold relW
    rw [g64, g2, gr 3 (by decide) (by decide) (by decide) (by decide), gr 4 (by decide) (by decide) (by decide) (by decide), gr 5 (by decide) (by decide) (by decide) (by decide), gr 6 (by decide) (by decide) (by decide) (by decide), gr 7 (by decide) (by decide) (by decide) (by decide), gr 8 (by decide) (by decide) (by decide) (by decide), gr 65 (by decide) (by decide) (by decide) (by decide), gr 66 (by decide) (by decide) (by decide) (by decide), gr 67 (by decide) (by decide) (by decide) (by decide), gr 68 (by decide) (by decide) (by decide) (by decide), xup_at, xup_at, xup_ne (by decide), xup_ne (by decide)]
    exact ⟨q1, q2, rfl, q4, q5, q6, q7⟩
  · rw [g2, xup_at]
    exact ⟨q1, q2⟩
theorem tls_0 (es : Nat → Int) (n : Nat) : ∀ z, (tls es n z)[0]? = some (0, 0, 0)
  | 0 => rfl
  | z + 1 => by
    have h := tls_0 es n z
    have hl := (List.getElem?_eq_some_iff.mp h).1
    rw [tls, List.append_assoc, List.getElem?_append_left hl]
    exact h
theorem tl0_of {M : xM} (he : eOk M) (hl : tlOk M) : tl0 M := by
  have h31 := TLs_len M he.2.1
  have hb := tbOk_tl he hl
  obtain ⟨a, b, c, d⟩ := hl.2 0 _ (tls_0 _ _ 12)
  exact ⟨by have := hb.1; omega, hb.2.1, a, b, c, d⟩
theorem k_ending {M : xM} (hI : INV M) {n b : Int} (hn : xrg n) (hb : xrg b) : kc 8 3 m_X_ending m_M_ending [xI n, xI b] M := by
  have he := hI.1.1.1.2.1
  have hl := hI.1.1.1.2.2.1
  have hr := hI.1.1.1.2.2.2.1
  have e0 := he.1
  have e5 := he.2.1
  refine p_ending he (tl0_of he hl) hn hb (fun q => ⟨_, rfl, z_ending hn hb (by rw [hr.2.1]; exact ⟨e0, e5⟩) (fun _ => ⟨rfl, hI⟩) (fun r => absurd r q) (fun r => absurd r q)⟩) (fun q e => ⟨_, rfl, z_ending hn hb (by rw [hr.2.1]; exact ⟨e0, e5⟩) (fun r => absurd q r) (fun _ _ => ⟨rfl, hI⟩) (fun _ r => by rw [hr.2.1] at r; omega)⟩) (fun q e M' hT => ⟨_, rfl, ?_⟩)
  have f64 : goneM M' 64 = M 64 := by
    unfold goneM
    rw [xup_ne (by decide), hT.1 64 (by omega)]
    unfold rAdd_E
    rw [xup_ne (by decide), xup_ne (by decide), xup_ne (by decide)]
  refine z_ending hn hb (by rw [f64, hr.2.1]; exact ⟨e0, e5⟩) (fun r => absurd q r) (fun _ r => by rw [f64, hr.2.1] at r; omega) (fun _ _ => ⟨by rw [f64, hr.2.1], ?_⟩)
  obtain ⟨k, hk⟩ := Int.eq_ofNat_of_zero_le e0
  have hkn : (M 6 2).toNat = k := by omega
  have hkz : (M 64 3).toNat = k := by rw [hr.2.1]; exact hkn
  have r6 : rAdd_E M n b 6 = xup (M 6) 2 (M 6 2 + 1) := by unfold rAdd_E; rw [xup_at]
  have r7 : rAdd_E M n b 7 = xup (M 7) k n := by unfold rAdd_E; rw [xup_ne (by decide), xup_ne (by decide), xup_at, hkn]
  have r8 : rAdd_E M n b 8 = xup (M 8) k b := by unfold rAdd_E; rw [xup_ne (by decide), xup_at, hkn]
  have rr : ∀ a, a ≠ 6 → a ≠ 7 → a ≠ 8 → rAdd_E M n b a = M a := fun a a1 a2 a3 => by unfold rAdd_E; rw [xup_ne a1, xup_ne a3, xup_ne a2]
  obtain ⟨t1, t2, t3⟩ := hT
  generalize hM2 : goneZ (zAddE (goneM M') n b) = M2
  have gM' : ∀ a, a ≠ 15 → a ≠ 64 → a ≠ 67 → a ≠ 68 → a ≠ 74 → M2 a = M' a := fun a a1 a2 a3 a4 a5 => by rw [← hM2]; unfold goneZ zAddE goneM; rw [xup_ne a5, xup_ne a2, xup_ne a4, xup_ne a3, xup_ne a1]
  have g15 : ∀ w, w < 10 → M2 15 w = -1 := fun w hw => by rw [← hM2]; unfold goneZ zAddE goneM; rw [xup_ne (by decide), xup_ne (by decide), xup_ne (by decide), xup_ne (by decide), xup_at, xfill_at hw]
  have g64 : M2 64 = xup (M 64) 3 (M 64 3 + 1) := by rw [← hM2]; unfold goneZ zAddE; rw [xup_ne (by decide), xup_at, f64]
  have f67 : goneM M' 67 = M 67 := by unfold goneM; rw [xup_ne (by decide), t1 67 (by omega), rr 67 (by decide) (by decide) (by decide)]
  have f68 : goneM M' 68 = M 68 := by unfold goneM; rw [xup_ne (by decide), t1 68 (by omega), rr 68 (by decide) (by decide) (by decide)]
  have g67 : M2 67 = xup (M 67) k n := by rw [← hM2]; unfold goneZ zAddE; rw [f64, hkz, xup_ne (by decide), xup_ne (by decide), xup_ne (by decide), xup_at, f67]
  have g68 : M2 68 = xup (M 68) k b := by rw [← hM2]; unfold goneZ zAddE; rw [f64, hkz, xup_ne (by decide), xup_ne (by decide), xup_at, f68]
  have g74 : ∀ w, w < 10 → M2 74 w = -1 := fun w hw => by rw [← hM2]; unfold goneZ; rw [xup_at, xfill_at hw]
  have gr : ∀ a, (a < 6 ∨ a = 9 ∨ 14 < a) → a ≠ 15 → a ≠ 64 → a ≠ 67 → a ≠ 68 → a ≠ 74 → M2 a = M a := fun a a0 a1 a2 a3 a4 a5 => by rw [gM' a a1 a2 a3 a4 a5, t1 a (by omega), rr a (by omega) (by omega) (by omega)]
  have g6 : M2 6 = xup (M 6) 2 (M 6 2 + 1) := by rw [gM' 6 (by decide) (by decide) (by decide) (by decide) (by decide), t1 6 (by omega), r6]
  have g7 : M2 7 = xup (M 7) k n := by rw [gM' 7 (by decide) (by decide) (by decide) (by decide) (by decide), t1 7 (by omega), r7]
  have g8 : M2 8 = xup (M 8) k b := by rw [gM' 8 (by decide) (by decide) (by decide) (by decide) (by decide), t1 8 (by omega), r8]
  clear hM2
  obtain ⟨z1, z2, z3, z4, z5⟩ := hI.1.1.1
  obtain ⟨s1, s2, s3, s4⟩ := q
  refine INV_gone hI ⟨?_, ?_, ?_, ?_, ?_⟩ g15 g74 (gr 18 (by omega) (by decide) (by decide) (by decide) (by decide) (by decide)) (fun a ha => gr a (by omega) (by omega) (by omega) (by omega) (by omega) (by omega)) (gr 25 (by omega) (by decide) (by decide) (by decide) (by decide) (by decide)) (by rw [g64, xup_ne (by decide)]) (by rw [g64, xup_ne (by decide)])
  · unfold wOk
    rw [gr 3 (by omega) (by decide) (by decide) (by decide) (by decide) (by decide), gr 4 (by omega) (by decide) (by decide) (by decide) (by decide) (by decide), gr 5 (by omega) (by decide) (by decide) (by decide) (by decide) (by decide)]
    exact z1
  · unfold eOk
    rw [g6, g7, g8, xup_at]
    refine ⟨by omega, by omega, fun i hi => ?_⟩
    by_cases c : i = k
    · rw [c, xup_at, xup_at]; exact ⟨s1, s2, s3, s4⟩
    · rw [xup_ne c, xup_ne c]; exact z2.2.2 i (by omega)
  · have eT : TLs M2 = tls (rAdd_E M n b 7) (rAdd_E M n b 6 2).toNat 12 := by
      unfold TLs
      rw [g6, g7, r6, r7]
    unfold tlOk
    rw [eT, g7, g8, gM' 10 (by decide) (by decide) (by decide) (by decide) (by decide), gM' 11 (by decide) (by decide) (by decide) (by decide) (by decide), gM' 12 (by decide) (by decide) (by decide) (by decide) (by decide), gM' 13 (by decide) (by decide) (by decide) (by decide) (by decide), gM' 14 (by decide) (by decide) (by decide) (by decide) (by decide), ← r7, ← r8]
    exact ⟨t2, t3⟩
  · obtain ⟨q1, q2, q3, q4, q5, q6, q7⟩ := z4
    unfold relW
    rw [g64, g6, g7, g8, g67, g68, gr 2 (by omega) (by decide) (by decide) (by decide) (by decide) (by decide), gr 3 (by omega) (by decide) (by decide) (by decide) (by decide) (by decide), gr 4 (by omega) (by decide) (by decide) (by decide) (by decide) (by decide), gr 5 (by omega) (by decide) (by decide) (by decide) (by decide) (by decide), gr 65 (by omega) (by decide) (by decide) (by decide) (by decide) (by decide), gr 66 (by omega) (by decide) (by decide) (by decide) (by decide) (by decide), xup_at, xup_at, xup_ne (by decide), xup_ne (by decide)]
    refine ⟨q1, by omega, q3, q4, fun i hi => ?_, q6, fun i hi => ?_⟩
    · by_cases c : i = k
      · rw [c, xup_at, xup_at, xup_at, xup_at]; exact ⟨rfl, rfl⟩
      · rw [xup_ne c, xup_ne c, xup_ne c, xup_ne c]; exact q5 i (by omega)
    · by_cases c : i = k
      · rw [c, xup_at]; omega
      · rw [xup_ne c]; exact q7 i hi
  · rw [gr 2 (by omega) (by decide) (by decide) (by decide) (by decide) (by decide)]
    exact z5
