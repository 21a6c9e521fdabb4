/-! both sides alike -/
def INV (M : xM) : Prop := zR M ∧ relL M ∧ (0 ≤ M 18 2 ∧ M 18 2 ≤ 10) ∧ hillOk M ∧ relG M ∧ relD M
/-- a call: the class answers, then the reference the same, and both are alike again -/
def kc (d d' : Nat) (μ μ' : xMd) (as : List xV) (M : xM) : Prop := xm d μ (xR (some 1) :: as) M fun r M1 => ∃ z, r = some (xI z) ∧ xm d' μ' (xR (some 64) :: as) M1 fun r' M2 => r' = some (xI z) ∧ INV M2
def kcJ (d d' : Nat) (μ μ' : xMd) (as : List xV) (M : xM) : Prop := xm d μ (xR (some 1) :: as) M fun r M1 => ∃ z, r = some (xJ z) ∧ xm d' μ' (xR (some 64) :: as) M1 fun r' M2 => r' = some (xJ z) ∧ INV M2
theorem pS_of' {M M' : xM} (e4 : M' 4 = M 4) (e11 : M' 11 = M 11) : pS M' = pS M := by
  funext w t
  unfold pS
  rw [e4, e11]
theorem pN_of' {M M' : xM} (e5 : M' 5 = M 5) (e11 : M' 11 = M 11) (e12 : M' 12 = M 12) : pN M' = pN M := by
  funext w t
  unfold pN
  rw [e5, e11, e12]
/-- what may differ: the scratch of both -/
def sameI (M M' : xM) : Prop := (∀ a, (3 ≤ a ∧ a ≤ 17) ∨ a = 23 ∨ a = 24 ∨ a = 26 ∨ (47 ≤ a ∧ a ≤ 59) ∨ (65 ≤ a ∧ a ≤ 78) → M' a = M a) ∧ M' 2 6 = M 2 6 ∧ (0 ≤ M' 18 2 ∧ M' 18 2 ≤ 10) ∧ M' 25 3 = M 25 3 ∧ M' 64 0 = M 64 0 ∧ M' 64 3 = M 64 3 ∧ M' 64 6 = M 64 6 ∧ M' 64 13 = M 64 13 ∧ M' 64 15 = M 64 15
theorem zPre_same {M M' : xM} (h : ∀ a, (3 ≤ a ∧ a ≤ 14) ∨ (65 ≤ a ∧ a ≤ 68) → M' a = M a) (h2 : M' 2 6 = M 2 6) (h0 : M' 64 0 = M 64 0) (h3 : M' 64 3 = M 64 3) (h6 : M' 64 6 = M 64 6) (hz : zPre M) : zPre M' := by
  obtain ⟨a1, a2, a3, a4, a5⟩ := hz
  have eT : TLs M' = TLs M := by
    unfold TLs
    rw [h 6 (by omega), h 7 (by omega)]
  refine ⟨?_, ?_, ?_, ?_, ?_⟩
  · unfold wOk
    rw [h 3 (by omega), h 4 (by omega), h 5 (by omega)]
    exact a1
  · unfold eOk
    rw [h 6 (by omega), h 7 (by omega), h 8 (by omega)]
    exact a2
  · unfold tlOk
    rw [eT, h 7 (by omega), h 8 (by omega), h 10 (by omega), h 11 (by omega), h 12 (by omega), h 13 (by omega), h 14 (by omega)]
    exact a3
  · unfold relW
    rw [h0, h3, h6, h2, h 3 (by omega), h 4 (by omega), h 5 (by omega), h 6 (by omega), h 7 (by omega), h 8 (by omega), h 65 (by omega), h 66 (by omega), h 67 (by omega), h 68 (by omega)]
    exact a4
  · rw [h2]
    exact a5
theorem tabZ_same {M M' : xM} (h : ∀ a, (3 ≤ a ∧ a ≤ 7) ∨ (69 ≤ a ∧ a ≤ 73) → M' a = M a) (ht : tabZ M) : tabZ M' := by
  have eT : TLs M' = TLs M := by
    unfold TLs
    rw [h 6 (by omega), h 7 (by omega)]
  intro w hw
  rw [h 3 (by omega)] at hw
  rw [eT, h 4 (by omega), h 7 (by omega), h 69 (by omega)]
  refine ⟨(ht w hw).1, fun t y hy q hq => ?_⟩
  rw [h 70 (by omega), h 71 (by omega), h 72 (by omega), h 73 (by omega)]
  exact (ht w hw).2 t y hy q hq
theorem gvOk_same {M M' : xM} (h : ∀ a, 3 ≤ a ∧ a ≤ 17 → M' a = M a) (hg : gvOk M) : gvOk M' := by
  unfold gvOk
  rw [h 15 (by omega), h 3 (by omega), h 10 (by omega), h 16 (by omega), h 17 (by omega), pS_of' (h 4 (by omega)) (h 11 (by omega)), pN_of' (h 5 (by omega)) (h 11 (by omega)) (h 12 (by omega))]
  exact hg
theorem hill_same {M M' : xM} (h : ∀ a, (47 ≤ a ∧ a ≤ 59) ∨ a = 77 ∨ a = 78 → M' a = M a) (hh : hillOk M) (hg : relG M) (hD : relD M) : hillOk M' ∧ relG M' ∧ relD M' := by
  refine ⟨fun f t hf ht => ?_, fun f t hf ht => ?_, fun f hf => ?_⟩
  · rw [h (47 + f) (by omega), h (54 + f) (by omega)]
    exact hh f t hf ht
  · unfold cM hM
    rw [h (47 + f) (by omega), h (54 + f) (by omega), h 77 (by omega), h 78 (by omega)]
    exact hg f t hf ht
  · unfold cM
    rw [h (47 + f) (by omega)]
    exact hD f hf
theorem INV_same {M M' : xM} (h : sameI M M') (hI : INV M) : INV M' := by
  obtain ⟨h1, h2, h18, h25, h0, h3, h6, h13, h15⟩ := h
  obtain ⟨⟨⟨a1, a2, a3, a4⟩, b1, b2⟩, c, d, e1, e2, e3⟩ := hI
  refine ⟨⟨⟨zPre_same (fun a ha => h1 a (by omega)) h2 h0 h3 h6 a1, gvOk_same (fun a ha => h1 a (by omega)) a2, ?_, ?_⟩, ?_, ?_⟩, ?_, h18, hill_same (fun a ha => h1 a (by omega)) e1 e2 e3⟩
  · rw [h1 3 (by omega), h1 74 (by omega), h1 15 (by omega)]
    exact a3
  · rw [h1 3 (by omega), h1 15 (by omega)]
    exact fun w hw hc => tabZ_same (fun a ha => h1 a (by omega)) (a4 w hw hc)
  · unfold relH
    rw [h1 23 (by omega), h1 24 (by omega), h1 75 (by omega), h13]
    exact b1
  · unfold earOk
    rw [h1 23 (by omega), h1 24 (by omega)]
    exact b2
  · unfold relL
    rw [h25, h15, h1 76 (by omega), h1 26 (by omega)]
    exact c
theorem INV.rd {M : xM} (h : INV M) : rdOk M := h.1.rd
theorem INV.ph {M : xM} (h : INV M) : phOk M := h.1.1.ph
theorem INV.tb {M : xM} (h : INV M) : tbOk M := tbOk_tl h.1.1.1.2.1 h.1.1.1.2.2.1
/-! calls that only tell -/
theorem k_length {M : xM} (hI : INV M) {w : Int} (hw : xrg w) : kc 3 3 m_X_length m_M_length [xI w] M := by
  have hp := hI.ph
  exact p_length hp hI.rd.2.2 hw (fun a => ⟨_, rfl, z_length hI.1.1 hw (fun _ => ⟨rfl, hI⟩) (fun b c => by omega) (fun b c => by omega)⟩) (fun a b c => ⟨_, rfl, z_length hI.1.1 hw (fun q => by omega) (fun _ _ _ => ⟨rfl, hI⟩) (fun _ _ q => absurd c q)⟩) (fun a b c => ⟨_, rfl, z_length hI.1.1 hw (fun q => by omega) (fun _ _ q => absurd q c) (fun _ _ _ => ⟨rfl, hI⟩)⟩)
theorem k_beat {M : xM} (hI : INV M) {w i : Int} (hw : xrg w) (hi : xrg i) : kc 3 3 m_X_beat m_M_beat [xI w, xI i] M := by
  have hp := hI.ph
  exact p_beat hp hI.rd.2.2 hw hi (fun a => ⟨_, rfl, z_beat hI.1.1 hw hi (fun _ => ⟨rfl, hI⟩) (fun b c => by omega) (fun b c => by omega)⟩) (fun a b c => ⟨_, rfl, z_beat hI.1.1 hw hi (fun q => by omega) (fun _ _ _ => ⟨rfl, hI⟩) (fun _ _ q r s => by omega)⟩) (fun a b c d e => ⟨_, rfl, z_beat hI.1.1 hw hi (fun q => by omega) (fun _ _ q => by omega) (fun _ _ _ _ _ => ⟨rfl, hI⟩)⟩)
theorem tb_lt {M : xM} (hI : INV M) : ∀ w : Nat, (w : Int) < M 3 2 → M 15 w < M 10 2 := fun w hw => by
  have w10 := hI.rd.2.2.2
  have ht := hI.tb.1
  rcases hI.1.1.2.1 w (by omega) with q | ⟨_, t, a, b, _⟩ <;> omega
theorem k_endingAt {M : xM} (hI : INV M) {w i : Int} (hw : xrg w) (hi : xrg i) : kc 4 3 m_X_endingAt m_M_endingAt [xI w, xI i] M := by
  have hp := hI.ph
  have ht := hI.tb
  exact p_endingAt hp ⟨by have := ht.1; omega, ht.2.1⟩ hI.rd.2.2 hw hi (tb_lt hI) (fun a => ⟨_, rfl, z_endingAt hI.1.1 hw hi (fun _ => ⟨rfl, hI⟩) (fun b c => by omega) (fun b c => by omega) (fun b c => by omega)⟩) (fun a b c => ⟨_, rfl, z_endingAt hI.1.1 hw hi (fun q => by omega) (fun _ _ _ => ⟨rfl, hI⟩) (fun _ _ q r => by omega) (fun _ _ q r => by omega)⟩) (fun a b c d => ⟨_, rfl, z_endingAt hI.1.1 hw hi (fun q => by omega) (fun _ _ q => by omega) (fun _ _ _ _ => ⟨rfl, hI⟩) (fun _ _ _ q => by omega)⟩) (fun a b c d => ⟨_, rfl, z_endingAt hI.1.1 hw hi (fun q => by omega) (fun _ _ q => by omega) (fun _ _ _ q => by omega) (fun _ _ _ _ => ⟨rfl, hI⟩)⟩)
theorem k_far {M : xM} (hI : INV M) {a b : Int} (ha : xrg a) (hb : xrg b) : kc 4 3 m_X_far m_M_far [xI a, xI b] M := by
  have hp := hI.ph
  exact p_far hp hI.rd.2.2 ha hb (fun q => ⟨_, rfl, z_far hI.1.1 ha hb (fun _ => ⟨rfl, hI⟩) (fun c d e f g => by omega) (fun c d e f g => by omega)⟩) (fun c d e f g h => ⟨_, rfl, z_far hI.1.1 ha hb (fun q => by omega) (fun _ _ _ _ _ _ => ⟨rfl, hI⟩) (fun _ _ _ _ _ q r => by omega)⟩) (fun c d e f g h i => ⟨_, rfl, z_far hI.1.1 ha hb (fun q => by omega) (fun _ _ _ _ _ q => by omega) (fun _ _ _ _ _ _ _ => ⟨rfl, hI⟩)⟩)
theorem k_readAt {M : xM} (hI : INV M) {i : Int} (hi : xrg i) : kc 2 2 m_X_readAt m_M_readAt [xI i] M := by
  obtain ⟨l1, l2, l3, l4⟩ := hI.2.1
  exact p_readAt ⟨l2, l3⟩ hi (fun a b => ⟨_, rfl, z_readAt ⟨by omega, by omega⟩ hi (fun _ _ => ⟨by rw [(l4 i.toNat (by omega)).1], hI⟩) (fun q => by omega)⟩) (fun a => ⟨_, rfl, z_readAt ⟨by omega, by omega⟩ hi (fun _ _ => by omega) (fun _ => ⟨rfl, hI⟩)⟩)
theorem k_count {M : xM} (hI : INV M) {x : Int} (hx : xrg x) : kc 4 3 m_X_count m_M_count [xI x] M := p_count hI.ph hI.rd.2.2 hI.1.2.2 hx ⟨_, rfl, z_count hI.1 hI.2.1 hx ⟨rfl, hI⟩⟩
theorem k_digest {M : xM} (hI : INV M) : kcJ 5 4 m_X_digest m_M_digest [] M := by
  have ht := hI.tb
  obtain ⟨l1, l2, l3, l4⟩ := hI.2.1
  refine p_digest hI.rd.2.2 ⟨by have := ht.1; omega, ht.2.1⟩ hI.ph hI.1.1.2.1 (fun t htt => ?_) hI.1.2.2 ⟨hI.1.1.1.2.1.1, hI.1.1.1.2.1.2.1⟩ hI.1.1.1.2.2.2.2 ⟨l2, l3⟩ (fun i hi => (l4 i hi).2) hI.2.2.2.1 ⟨_, rfl, z_digest hI.1 hI.2.1 hI.2.2.2.1 hI.2.2.2.2.1 ⟨rfl, hI⟩⟩
  obtain ⟨t1, t2⟩ := hI.1.1.1.2.2.1
  have hlt : t < (TLs M).length := by omega
  obtain ⟨-, -, a3, a4⟩ := t2 t _ (List.getElem?_eq_getElem hlt)
  have e5 := hI.1.1.1.2.1.2.1
  rw [a3, a4]
  have hm : (TLs M)[t] ∈ tls (M 7) (M 6 2).toNat 12 := List.getElem_mem hlt
  rcases mem_tls.mp hm with q | ⟨i, q, h1, _⟩ | ⟨i, j, q, h1, h2, _⟩ <;> rw [q] <;> simp only [fsT, snT] <;> unfold xrg <;> omega
