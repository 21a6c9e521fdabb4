/-! sorted lists of tails -/
theorem ltK_irr {es : Nat → Int} {x : xTl} : ¬ ltK es x x := by unfold ltK; omega
theorem ltK_tr {es : Nat → Int} {x y z : xTl} (h : ltK es x y) (h2 : ltK es y z) : ltK es x z := by unfold ltK at *; omega
theorem ltK_tot {es : Nat → Int} {x y : xTl} (h : ¬ ltK es x y) (hne : x ≠ y) : ltK es y x := by
  unfold ltK at *
  obtain ⟨x1, x2, x3⟩ := x
  obtain ⟨y1, y2, y3⟩ := y
  simp only at *
  by_cases c : x1 = y1 ∧ x2 = y2 ∧ x3 = y3
  · obtain ⟨rfl, rfl, rfl⟩ := c
    exact absurd rfl hne
  · omega
abbrev srt (es : Nat → Int) (l : List xTl) : Prop := l.Pairwise (ltK es)
theorem srt_one {es : Nat → Int} : ∀ {l l' : List xTl}, srt es l → srt es l' → (∀ y, y ∈ l ↔ y ∈ l') → l = l'
  | [], [], _, _, _ => rfl
  | [], y :: r, _, _, h => absurd ((h y).mpr List.mem_cons_self) (by simp)
  | x :: r, [], _, _, h => absurd ((h x).mp List.mem_cons_self) (by simp)
  | x :: r, y :: q, h1, h2, h => by
    obtain ⟨a1, a2⟩ := List.pairwise_cons.mp h1
    obtain ⟨b1, b2⟩ := List.pairwise_cons.mp h2
    have e : x = y := by
      rcases List.mem_cons.mp ((h x).mp List.mem_cons_self) with c | c
      · exact c
      · rcases List.mem_cons.mp ((h y).mpr List.mem_cons_self) with d | d
        · exact d.symm
        · exact absurd (ltK_tr (a1 y d) (b1 x c)) ltK_irr
    subst e
    congr 1
    refine srt_one a2 b2 fun z => ⟨fun hz => ?_, fun hz => ?_⟩
    · rcases List.mem_cons.mp ((h z).mp (List.mem_cons_of_mem _ hz)) with c | c
      · subst c; exact absurd (a1 z hz) ltK_irr
      · exact c
    · rcases List.mem_cons.mp ((h z).mpr (List.mem_cons_of_mem _ hz)) with c | c
      · subst c; exact absurd (b1 z hz) ltK_irr
      · exact c
theorem mem_insAt {l : List xTl} {j : Nat} {x y : xTl} : y ∈ insAt l j x ↔ y = x ∨ y ∈ l := by
  have e : y ∈ l ↔ y ∈ l.take j ∨ y ∈ l.drop j := by
    rw [← List.mem_append, List.take_append_drop]
  unfold insAt
  rw [List.mem_append, List.mem_cons, e]
  constructor
  · rintro (h | h | h)
    · exact Or.inr (Or.inl h)
    · exact Or.inl h
    · exact Or.inr (Or.inr h)
  · rintro (h | h | h)
    · exact Or.inr (Or.inl h)
    · exact Or.inl h
    · exact Or.inr (Or.inr h)
theorem srt_insAt {es : Nat → Int} {l : List xTl} {j : Nat} {x : xTl} (hs : srt es l) (hj : j ≤ l.length) (hx : x ∉ l) (h1 : ∀ t y, l[t]? = some y → j ≤ t → ltK es x y) (h2 : ∀ y, j ≠ 0 → l[j - 1]? = some y → ¬ ltK es x y) : srt es (insAt l j x) := by
  have hs' : srt es (l.take j ++ l.drop j) := by rw [List.take_append_drop]; exact hs
  obtain ⟨p1, p2, p3⟩ := List.pairwise_append.mp hs'
  refine List.pairwise_append.mpr ⟨p1, List.pairwise_cons.mpr ⟨fun y hy => ?_, p2⟩, fun y hy z hz => ?_⟩
  · obtain ⟨t, ht⟩ := List.getElem?_of_mem hy
    rw [List.getElem?_drop] at ht
    exact h1 _ _ ht (by omega)
  · have key : ltK es y x := by
      obtain ⟨t, ht⟩ := List.getElem?_of_mem hy
      have htj : t < j := by
        have := (List.getElem?_eq_some_iff.mp ht).1
        rw [List.length_take] at this
        omega
      rw [List.getElem?_take_of_lt htj] at ht
      have hl : j - 1 < l.length := by omega
      have last : ltK es l[j - 1] x := ltK_tot (h2 l[j - 1] (by omega) (List.getElem?_eq_getElem hl)) (fun c => hx (by rw [c]; exact List.getElem_mem hl))
      by_cases c : t = j - 1
      · subst c
        rw [List.getElem?_eq_getElem hl] at ht
        cases ht
        exact last
      · have ht' : t < l.length := by omega
        rw [List.getElem?_eq_getElem ht'] at ht
        cases ht
        exact ltK_tr (List.pairwise_iff_getElem.mp hs t (j - 1) ht' hl (by omega)) last
    rcases List.mem_cons.mp hz with c | c
    · rw [c]; exact key
    · obtain ⟨t, ht⟩ := List.getElem?_of_mem c
      rw [List.getElem?_drop] at ht
      exact ltK_tr key (h1 _ _ ht (by omega))
/-- the tails of n endings that have come: single ones below s, pairs with a first one below a, of a itself those below b -/
def comeM (n a s b : Nat) (y : xTl) : Prop := y = (0, 0, 0) ∨ (∃ i, y = (1, i, 0) ∧ i < s) ∨ ∃ i j, y = (2, i, j) ∧ (i < a ∧ j < n ∨ i = a ∧ j < b)
/-- all of the n endings, of at most z beats -/
theorem mem_sgl {es : Nat → Int} {z : Int} {y : xTl} : ∀ {k : Nat}, y ∈ sgl es z k ↔ ∃ i, y = (1, i, 0) ∧ i < k ∧ es i = z
  | 0 => by simp [sgl]
  | k + 1 => by
    rw [sgl, List.mem_append, mem_sgl (k := k)]
    constructor
    · rintro (⟨i, e, h1, h2⟩ | h)
      · exact ⟨i, e, by omega, h2⟩
      · split at h
        · exact ⟨k, List.mem_singleton.mp h, by omega, by assumption⟩
        · cases h
    · rintro ⟨i, e, h1, h2⟩
      by_cases c : i = k
      · subst c
        exact Or.inr (by rw [if_pos h2]; exact List.mem_singleton.mpr e)
      · exact Or.inl ⟨i, e, by omega, h2⟩
theorem mem_prs1 {es : Nat → Int} {z : Int} {a : Nat} {y : xTl} : ∀ {k : Nat}, y ∈ prs1 es z a k ↔ ∃ j, y = (2, a, j) ∧ j < k ∧ es a + es j = z
  | 0 => by simp [prs1]
  | k + 1 => by
    rw [prs1, List.mem_append, mem_prs1 (k := k)]
    constructor
    · rintro (⟨i, e, h1, h2⟩ | h)
      · exact ⟨i, e, by omega, h2⟩
      · split at h
        · exact ⟨k, List.mem_singleton.mp h, by omega, by assumption⟩
        · cases h
    · rintro ⟨i, e, h1, h2⟩
      by_cases c : i = k
      · subst c
        exact Or.inr (by rw [if_pos h2]; exact List.mem_singleton.mpr e)
      · exact Or.inl ⟨i, e, by omega, h2⟩
theorem mem_prs {es : Nat → Int} {z : Int} {n : Nat} {y : xTl} : ∀ {k : Nat}, y ∈ prs es z n k ↔ ∃ i j, y = (2, i, j) ∧ i < k ∧ j < n ∧ es i + es j = z
  | 0 => by simp [prs]
  | k + 1 => by
    rw [prs, List.mem_append, mem_prs (k := k), mem_prs1]
    constructor
    · rintro (⟨i, j, e, h1, h2, h3⟩ | ⟨j, e, h1, h2⟩)
      · exact ⟨i, j, e, by omega, h2, h3⟩
      · exact ⟨k, j, e, by omega, h1, h2⟩
    · rintro ⟨i, j, e, h1, h2, h3⟩
      by_cases c : i = k
      · subst c
        exact Or.inr ⟨j, e, h2, h3⟩
      · exact Or.inl ⟨i, j, e, by omega, h2, h3⟩
theorem mem_tls {es : Nat → Int} {n : Nat} {y : xTl} : ∀ {z : Nat}, y ∈ tls es n z ↔ y = (0, 0, 0) ∨ (∃ i, y = (1, i, 0) ∧ i < n ∧ 1 ≤ es i ∧ es i ≤ z) ∨ ∃ i j, y = (2, i, j) ∧ i < n ∧ j < n ∧ 1 ≤ es i + es j ∧ es i + es j ≤ z
  | 0 => by
    rw [tls, List.mem_singleton]
    constructor
    · exact Or.inl
    · rintro (h | ⟨i, e, h1, h2, h3⟩ | ⟨i, j, e, h1, h2, h3, h4⟩)
      · exact h
      · omega
      · omega
  | z + 1 => by
    rw [tls, List.mem_append, List.mem_append, mem_tls (z := z), mem_sgl, mem_prs]
    constructor
    · rintro (((h | ⟨i, e, h1, h2, h3⟩ | ⟨i, j, e, h1, h2, h3, h4⟩) | ⟨i, e, h1, h2⟩) | ⟨i, j, e, h1, h2, h3⟩)
      · exact Or.inl h
      · exact Or.inr (Or.inl ⟨i, e, h1, h2, by omega⟩)
      · exact Or.inr (Or.inr ⟨i, j, e, h1, h2, h3, by omega⟩)
      · exact Or.inr (Or.inl ⟨i, e, h1, by omega, by omega⟩)
      · exact Or.inr (Or.inr ⟨i, j, e, h1, h2, by omega, by omega⟩)
    · rintro (h | ⟨i, e, h1, h2, h3⟩ | ⟨i, j, e, h1, h2, h3, h4⟩)
      · exact Or.inl (Or.inl (Or.inl h))
      · by_cases c : es i = ((z + 1 : Nat) : Int)
        · exact Or.inl (Or.inr ⟨i, e, h1, c⟩)
        · exact Or.inl (Or.inl (Or.inr (Or.inl ⟨i, e, h1, h2, by omega⟩)))
      · by_cases c : es i + es j = ((z + 1 : Nat) : Int)
        · exact Or.inr ⟨i, j, e, h1, h2, c⟩
        · exact Or.inl (Or.inl (Or.inr (Or.inr ⟨i, j, e, h1, h2, h3, by omega⟩)))
theorem srt_sgl {es : Nat → Int} {z : Int} : ∀ k, srt es (sgl es z k)
  | 0 => List.Pairwise.nil
  | k + 1 => by
    rw [sgl]
    refine List.pairwise_append.mpr ⟨srt_sgl k, by split <;> simp, fun x hx y hy => ?_⟩
    obtain ⟨i, rfl, h1, h2⟩ := mem_sgl.mp hx
    split at hy
    · rename_i hz
      rw [List.mem_singleton.mp hy]
      show es i < es k ∨ es i = es k ∧ (1 < 1 ∨ 1 = 1 ∧ (i < k ∨ i = k ∧ 0 < 0))
      omega
    · cases hy
theorem srt_prs1 {es : Nat → Int} {z : Int} {a : Nat} : ∀ k, srt es (prs1 es z a k)
  | 0 => List.Pairwise.nil
  | k + 1 => by
    rw [prs1]
    refine List.pairwise_append.mpr ⟨srt_prs1 k, by split <;> simp, fun x hx y hy => ?_⟩
    obtain ⟨i, rfl, h1, h2⟩ := mem_prs1.mp hx
    split at hy
    · rename_i hz
      rw [List.mem_singleton.mp hy]
      show es a + es i < es a + es k ∨ es a + es i = es a + es k ∧ (2 < 2 ∨ 2 = 2 ∧ (a < a ∨ a = a ∧ i < k))
      omega
    · cases hy
theorem srt_prs {es : Nat → Int} {z : Int} {n : Nat} : ∀ k, srt es (prs es z n k)
  | 0 => List.Pairwise.nil
  | k + 1 => by
    rw [prs]
    refine List.pairwise_append.mpr ⟨srt_prs k, srt_prs1 n, fun x hx y hy => ?_⟩
    obtain ⟨i, j, rfl, h1, h2, h3⟩ := mem_prs.mp hx
    obtain ⟨j', rfl, h1', h3'⟩ := mem_prs1.mp hy
    show es i + es j < es k + es j' ∨ es i + es j = es k + es j' ∧ (2 < 2 ∨ 2 = 2 ∧ (i < k ∨ i = k ∧ j < j'))
    omega
theorem srt_tls {es : Nat → Int} {n : Nat} : ∀ z, srt es (tls es n z)
  | 0 => by rw [tls]; exact List.pairwise_singleton _ _
  | z + 1 => by
    rw [tls]
    have key : ∀ x, x ∈ tls es n z → szT es x ≤ z := by
      intro x hx
      rcases mem_tls.mp hx with rfl | ⟨i, rfl, h1, h2, h3⟩ | ⟨i, j, rfl, h1, h2, h3, h4⟩ <;> simp only [szT] <;> omega
    refine List.pairwise_append.mpr ⟨List.pairwise_append.mpr ⟨srt_tls z, srt_sgl n, fun x hx y hy => ?_⟩, srt_prs n, fun x hx y hy => ?_⟩
    · have := key x hx
      obtain ⟨i, rfl, h1, h2⟩ := mem_sgl.mp hy
      left
      show szT es x < es i
      omega
    · obtain ⟨i', j', rfl, h1', h2', h3'⟩ := mem_prs.mp hy
      rcases List.mem_append.mp hx with hx | hx
      · have := key x hx
        left
        show szT es x < es i' + es j'
        omega
      · obtain ⟨i, rfl, h1, h2⟩ := mem_sgl.mp hx
        show es i < es i' + es j' ∨ es i = es i' + es j' ∧ (1 < 2 ∨ 1 = 2 ∧ (i < i' ∨ i = i' ∧ 0 < j'))
        omega
/-- when all have come -/
theorem come_tls {es : Nat → Int} {n : Nat} (he : ∀ i, i < n → 1 ≤ es i ∧ es i ≤ 6) {l : List xTl} (hs : srt es l) (hm : ∀ y, y ∈ l ↔ comeM n n n 0 y) : l = tls es n 12 := by
  refine srt_one hs (srt_tls 12) fun y => ?_
  rw [hm y, mem_tls]
  unfold comeM
  constructor
  · rintro (h | ⟨i, e, h1⟩ | ⟨i, j, e, h1⟩)
    · exact Or.inl h
    · have := he i h1
      exact Or.inr (Or.inl ⟨i, e, h1, by omega, by omega⟩)
    · have h2 : i < n ∧ j < n := by omega
      have a1 := he i h2.1
      have a2 := he j h2.2
      exact Or.inr (Or.inr ⟨i, j, e, h2.1, h2.2, by omega, by omega⟩)
  · rintro (h | ⟨i, e, h1, _⟩ | ⟨i, j, e, h1, h2, _⟩)
    · exact Or.inl h
    · exact Or.inr (Or.inl ⟨i, e, h1⟩)
    · exact Or.inr (Or.inr ⟨i, j, e, by omega⟩)
theorem comeM_s {n a : Nat} {y : xTl} : comeM n a (a + 1) 0 y ↔ y = (1, a, 0) ∨ comeM n a a 0 y := by
  unfold comeM
  constructor
  · rintro (h | ⟨i, e, h1⟩ | ⟨i, j, e, h1⟩)
    · exact Or.inr (Or.inl h)
    · by_cases c : i = a
      · exact Or.inl (by rw [e, c])
      · exact Or.inr (Or.inr (Or.inl ⟨i, e, by omega⟩))
    · exact Or.inr (Or.inr (Or.inr ⟨i, j, e, h1⟩))
  · rintro (h | h | ⟨i, e, h1⟩ | ⟨i, j, e, h1⟩)
    · exact Or.inr (Or.inl ⟨a, h, by omega⟩)
    · exact Or.inl h
    · exact Or.inr (Or.inl ⟨i, e, by omega⟩)
    · exact Or.inr (Or.inr ⟨i, j, e, h1⟩)
theorem comeM_p {n a s b : Nat} {y : xTl} : comeM n a s (b + 1) y ↔ y = (2, a, b) ∨ comeM n a s b y := by
  unfold comeM
  constructor
  · rintro (h | ⟨i, e, h1⟩ | ⟨i, j, e, h1⟩)
    · exact Or.inr (Or.inl h)
    · exact Or.inr (Or.inr (Or.inl ⟨i, e, h1⟩))
    · by_cases c : i = a ∧ j = b
      · exact Or.inl (by rw [e, c.1, c.2])
      · exact Or.inr (Or.inr (Or.inr ⟨i, j, e, by omega⟩))
  · rintro (h | h | ⟨i, e, h1⟩ | ⟨i, j, e, h1⟩)
    · exact Or.inr (Or.inr ⟨a, b, h, by omega⟩)
    · exact Or.inl h
    · exact Or.inr (Or.inl ⟨i, e, h1⟩)
    · exact Or.inr (Or.inr ⟨i, j, e, by omega⟩)
theorem comeM_a {n a : Nat} {y : xTl} : comeM n a (a + 1) n y ↔ comeM n (a + 1) (a + 1) 0 y := by
  unfold comeM
  constructor
  · rintro (h | h | ⟨i, j, e, h1⟩)
    · exact Or.inl h
    · exact Or.inr (Or.inl h)
    · exact Or.inr (Or.inr ⟨i, j, e, by omega⟩)
  · rintro (h | h | ⟨i, j, e, h1⟩)
    · exact Or.inl h
    · exact Or.inr (Or.inl h)
    · exact Or.inr (Or.inr ⟨i, j, e, by omega⟩)
theorem comeM_B {n a s b : Nat} {y : xTl} (hn : n ≤ 5) (ha : a < n ∨ b = 0) (ha5 : a ≤ 5) (hs : s ≤ n) (hb : b ≤ n) (h : comeM n a s b y) : tlB y := by
  unfold comeM at h
  unfold tlB
  rcases h with rfl | ⟨i, rfl, h1⟩ | ⟨i, j, rfl, h1⟩ <;> simp only <;> omega
theorem comeM_n1 {n a : Nat} : ¬ comeM n a a 0 (1, a, 0) := by
  unfold comeM
  rintro (h | ⟨i, e, h1⟩ | ⟨i, j, e, h1⟩)
  · simp at h
  · simp at e; omega
  · simp at e
theorem comeM_n2 {n a s b : Nat} : ¬ comeM n a s b (2, a, b) := by
  unfold comeM
  rintro (h | ⟨i, e, h1⟩ | ⟨i, j, e, h1⟩)
  · simp at h
  · simp at e
  · simp at e; omega
