/-! both sides: words, endings, tails -/
def TLs (M : xM) : List xTl := tls (M 7) (M 6 2).toNat 12
/-- the class's tails are those of its endings -/
def tlOk (M : xM) : Prop := M 10 2 = ((TLs M).length : Int) ∧ ∀ t x, (TLs M)[t]? = some x → M 11 t = szT (M 7) x ∧ M 12 t = nuT (M 7) (M 8) x ∧ M 13 t = fsT x ∧ M 14 t = snT x
/-- the reference's words, endings and bound are the class's -/
def relW (M : xM) : Prop := M 64 0 = M 3 2 ∧ M 64 3 = M 6 2 ∧ M 64 6 = M 2 6 ∧ (∀ i : Nat, (i : Int) < M 3 2 → M 65 i = M 4 i ∧ M 66 i = M 5 i) ∧ (∀ i : Nat, (i : Int) < M 6 2 → M 67 i = M 7 i ∧ M 68 i = M 8 i) ∧ (∀ w, w < 10 → 0 ≤ M 65 w ∧ M 65 w ≤ 6) ∧ esB (M 67)
/-- the reference's tables are those of its words and endings -/
def tabZ (M : xM) : Prop := ∀ w : Nat, (w : Int) < M 3 2 → M 69 w = ((TLs M).length : Int) ∧ ztb M (M 4 w) (M 7) w (TLs M) (TLs M).length
theorem sgl_congr {es es' : Nat → Int} {z : Int} : ∀ {k : Nat}, (∀ i, i < k → es i = es' i) → sgl es z k = sgl es' z k
  | 0, _ => rfl
  | k + 1, h => by rw [sgl, sgl, sgl_congr (fun i hi => h i (by omega)), h k (by omega)]
theorem prs1_congr {es es' : Nat → Int} {z : Int} {a : Nat} (ha : es a = es' a) : ∀ {k : Nat}, (∀ i, i < k → es i = es' i) → prs1 es z a k = prs1 es' z a k
  | 0, _ => rfl
  | k + 1, h => by rw [prs1, prs1, prs1_congr ha (fun i hi => h i (by omega)), h k (by omega), ha]
theorem prs_congr {es es' : Nat → Int} {z : Int} {n : Nat} (h : ∀ i, i < n → es i = es' i) : ∀ {k : Nat}, k ≤ n → prs es z n k = prs es' z n k
  | 0, _ => rfl
  | k + 1, hk => by rw [prs, prs, prs_congr h (by omega), prs1_congr (h k (by omega)) h]
theorem tls_congr {es es' : Nat → Int} {n : Nat} (h : ∀ i, i < n → es i = es' i) : ∀ z, tls es n z = tls es' n z
  | 0 => rfl
  | z + 1 => by rw [tls, tls, tls_congr h z, sgl_congr h, prs_congr h (Nat.le_refl _)]
theorem szT_congr {es es' : Nat → Int} {n : Nat} (h : ∀ i, i < n → es i = es' i) {z : Nat} {x : xTl} (hx : x ∈ tls es n z) : szT es x = szT es' x := by
  rcases mem_tls.mp hx with rfl | ⟨i, rfl, h1, h2, h3⟩ | ⟨i, j, rfl, h1, h2, h3, h4⟩
  · rfl
  · exact h i h1
  · simp only [szT]
    rw [h i h1, h j h2]
theorem TLs_len (M : xM) (h : M 6 2 ≤ 5) : (TLs M).length ≤ 31 := tls_31 _ (by omega) 12
theorem z_order' {M : xM} {Q : Option xV → xM → Prop} (hw : wOk M) (he : eOk M) (hr : relW M) (hq : ∀ M', (∀ a, a < 69 ∨ 73 < a → M' a = M a) → tabZ M' → Q none M') : xm 3 m_M_order [xR (some 64)] M Q := by
  obtain ⟨r1, r2, r3, r4, r5, r6, r7⟩ := hr
  obtain ⟨w0, w10, wb⟩ := hw
  obtain ⟨e0, e5, eb⟩ := he
  obtain ⟨n, hn⟩ := Int.eq_ofNat_of_zero_le e0
  have ee : ∀ i, i < n → M 67 i = M 7 i := fun i hi => (r5 i (by omega)).1
  refine z_order (n := n) ⟨by omega, by omega⟩ (by omega) (by omega) r6 r7 (fun i hi => by rw [ee i hi]; exact ⟨(eb i (by omega)).1, (eb i (by omega)).2.1⟩) fun M' hf ht => hq M' hf fun w hw => ?_
  have h3 : M' 3 = M 3 := hf 3 (by omega)
  have h4 : M' 4 = M 4 := hf 4 (by omega)
  have h6 : M' 6 = M 6 := hf 6 (by omega)
  have h7 : M' 7 = M 7 := hf 7 (by omega)
  have eT : TLs M' = tls (M 67) n 12 := by
    unfold TLs
    rw [h6, h7, hn, Int.toNat_natCast]
    exact (tls_congr ee 12).symm
  rw [h3] at hw
  have h5 := ht w (by omega)
  rw [eT, h4, h7]
  refine ⟨h5.1, fun t y hy q hq => ?_⟩
  have := h5.2 t y hy q hq
  rw [(r4 w hw).1, szT_congr ee (List.mem_of_getElem? hy)] at this
  exact this
/-- what the tables say of phrase t of word w -/
theorem tab_at {M : xM} (he : eOk M) (hl : tlOk M) (ht : tabZ M) {w t : Nat} (hw : (w : Int) < M 3 2) (h : (t : Int) < M 10 2) : ∃ x : xTl, (TLs M)[t]? = some x ∧ t < 31 ∧ M 70 (31 * w + t) = pS M w t ∧ M 71 (31 * w + t) = (x.1 : Int) ∧ M 72 (31 * w + t) = (x.2.1 : Int) ∧ M 73 (31 * w + t) = (x.2.2 : Int) ∧ M 11 t = szT (M 7) x ∧ M 12 t = nuT (M 7) (M 8) x ∧ M 13 t = fsT x ∧ M 14 t = snT x ∧ (x = (0, 0, 0) ∨ (∃ i, x = (1, i, 0) ∧ (i : Int) < M 6 2) ∨ ∃ i j, x = (2, i, j) ∧ (i : Int) < M 6 2 ∧ (j : Int) < M 6 2) := by
  obtain ⟨l1, l2⟩ := hl
  have h31 := TLs_len M he.2.1
  have htl : t < (TLs M).length := by omega
  have hg : (TLs M)[t]? = some (TLs M)[t] := List.getElem?_eq_getElem htl
  obtain ⟨a1, a2, a3, a4⟩ := l2 t _ hg
  obtain ⟨b1, b2, b3, b4⟩ := (ht w hw).2 t _ hg (31 * w + t) (by rw [if_pos htl])
  refine ⟨(TLs M)[t], hg, by omega, ?_, b2, b3, b4, a1, a2, a3, a4, ?_⟩
  · unfold pS
    rw [a1]
    exact b1
  · have hm : (TLs M)[t] ∈ tls (M 7) (M 6 2).toNat 12 := List.getElem_mem htl
    rcases mem_tls.mp hm with q | ⟨i, q, h1, _⟩ | ⟨i, j, q, h1, h2, _⟩
    · exact Or.inl q
    · exact Or.inr (Or.inl ⟨i, q, by omega⟩)
    · exact Or.inr (Or.inr ⟨i, j, q, by omega, by omega⟩)
/-- all that the reference's choosing rests on -/
def zOk (M : xM) : Prop := wOk M ∧ eOk M ∧ tbOk M ∧ tlOk M ∧ relW M ∧ tabZ M ∧ 1 ≤ M 2 6 ∧ M 2 6 ≤ 9
theorem tbOk_tl {M : xM} (he : eOk M) (hl : tlOk M) : tbOk M := by
  obtain ⟨e0, e5, eb⟩ := he
  obtain ⟨l1, l2⟩ := hl
  have h31 := TLs_len M e5
  have h1 : (0, 0, 0) ∈ TLs M := mem_tls.mpr (Or.inl rfl)
  have h1' := List.length_pos_of_mem h1
  refine ⟨by omega, by omega, fun t ht => ?_⟩
  have htl : t < (TLs M).length := by omega
  have hg : (TLs M)[t]? = some (TLs M)[t] := List.getElem?_eq_getElem htl
  obtain ⟨a1, a2, a3, a4⟩ := l2 t _ hg
  have hm : (TLs M)[t] ∈ tls (M 7) (M 6 2).toNat 12 := List.getElem_mem htl
  rw [a1, a2]
  rcases mem_tls.mp hm with q | ⟨i, q, h1, h2, h3⟩ | ⟨i, j, q, h1, h2, h3, h4⟩
  · rw [q]
    simp only [szT, nuT]
    decide
  · rw [q]
    simp only [szT, nuT]
    obtain ⟨b1, b2, b3, b4⟩ := eb i (by omega)
    exact ⟨by omega, by omega, b3, b4⟩
  · rw [q]
    simp only [szT, nuT]
    obtain ⟨b1, b2, b3, b4⟩ := eb i (by omega)
    obtain ⟨c1, c2, c3, c4⟩ := eb j (by omega)
    have := xmul_lt b3 b4 c3 c4
    rw [show (M 7 i + M 7 j).toNat = (M 7 i).toNat + (M 7 j).toNat by omega]
    exact ⟨by omega, by omega, this.1, this.2⟩
