/-! the reference: order -/
def zst (M M' : xM) (T : List xTl) (w : Nat) (l : List xTl) : Prop := (∀ a, a < 69 ∨ 73 < a → M' a = M a) ∧ (∀ w' : Nat, w' < w → M' 69 w' = (T.length : Int) ∧ ztb M' (M 65 w') (M 67) w' T T.length) ∧ M' 69 w = (l.length : Int) ∧ ztb M' (M 65 w) (M 67) w l l.length ∧ srt (M 67) l
theorem ztb_fr {M M' : xM} {s : Int} {es : Nat → Int} {w w' : Nat} {T : List xTl} (hT : T.length ≤ 31) (hw : w' < w) (hf : ∀ q, q < 31 * w ∨ 31 * w + 31 ≤ q → M' 70 q = M 70 q ∧ M' 71 q = M 71 q ∧ M' 72 q = M 72 q ∧ M' 73 q = M 73 q) (h : ztb M s es w' T T.length) : ztb M' s es w' T T.length := by
  intro t y hy q hq
  have hlt := (List.getElem?_eq_some_iff.mp hy).1
  have hq' : q = 31 * w' + t := by rw [hq, if_pos hlt]
  obtain ⟨a, b, c, d⟩ := hf q (by omega)
  rw [a, b, c, d]
  exact h t y hy q hq
theorem z_comeS {M M' : xM} {Q : Option xV → xM → Prop} {T l : List xTl} {w k a b : Nat} (hw : w < 10) (hT : T.length ≤ 31) (hl : l.length ≤ 30) (hx : tlB (k, a, b)) (hlB : ∀ y, y ∈ l → tlB y) (hs : 0 ≤ M 65 w ∧ M 65 w ≤ 6) (he : esB (M 67)) (h : zst M M' T w l) (hxl : (k, a, b) ∉ l) (hq : ∀ M'' l', zst M M'' T w l' → l'.length = l.length + 1 → (∀ y, y ∈ l' ↔ y = (k, a, b) ∨ y ∈ l) → Q none M'') : xm 2 m_M_come [xR (some 64), xI (w : Int), xI (k : Int), xI (a : Int), xI (b : Int)] M' Q := by
  obtain ⟨h1, h2, h3, h4, h5⟩ := h
  have e65 : M' 65 = M 65 := h1 65 (by omega)
  have e67 : M' 67 = M 67 := h1 67 (by omega)
  refine z_come hw hl hx hlB (by rw [e65]; exact hs) (by rw [e67]; exact he) h3 (by rw [e65, e67]; exact h4) fun j M'' hj c1 c2 hf htb => ?_
  rw [e67] at c1 c2
  rw [e65, e67] at htb
  have hlen : (insAt l j (k, a, b)).length = l.length + 1 := by
    unfold insAt
    rw [List.length_append, List.length_cons, List.length_take, List.length_drop]
    omega
  refine hq M'' (insAt l j (k, a, b)) ⟨fun x hx => ?_, fun w' hw' => ⟨?_, ?_⟩, ?_, ?_, srt_insAt h5 hj hxl c1 c2⟩ hlen (fun y => mem_insAt)
  · rw [hf.1 x (by omega) (by omega) (by omega) (by omega), xup_ne (by omega)]
    exact h1 x hx
  · rw [hf.1 69 (by decide) (by decide) (by decide) (by decide), xup_at, xup_ne (by omega)]
    exact (h2 w' hw').1
  · refine ztb_fr hT hw' (fun q hq => ?_) (h2 w' hw').2
    have := hf.2 q hq
    rw [xup_ne (by decide), xup_ne (by decide), xup_ne (by decide), xup_ne (by decide)] at this
    exact this
  · rw [hf.1 69 (by decide) (by decide) (by decide) (by decide), xup_at, xup_at, hlen]
  · rw [hlen]
    exact htb
set_option maxRecDepth 100000 in
set_option maxHeartbeats 2000000 in
theorem z_order {M : xM} {Q : Option xV → xM → Prop} {n : Nat} (hk : 0 ≤ M 64 0 ∧ M 64 0 ≤ 10) (hn : M 64 3 = (n : Int)) (hn5 : n ≤ 5) (hs : ∀ w, w < 10 → 0 ≤ M 65 w ∧ M 65 w ≤ 6) (he : esB (M 67)) (he1 : ∀ i, i < n → 1 ≤ M 67 i ∧ M 67 i ≤ 6) (hq : ∀ M', (∀ a, a < 69 ∨ 73 < a → M' a = M a) → (∀ w : Nat, (w : Int) < M 64 0 → M' 69 w = ((tls (M 67) n 12).length : Int) ∧ ztb M' (M 65 w) (M 67) w (tls (M 67) n 12) (tls (M 67) n 12).length) → Q none M') : xm 3 m_M_order [xR (some 64)] M Q := by
  obtain ⟨hk0, hk10⟩ := hk
  obtain ⟨nW, hW0⟩ := Int.eq_ofNat_of_zero_le hk0
  have hT : (tls (M 67) n 12).length ≤ 31 := tls_31 _ hn5 12
  have hTe : ∀ l, srt (M 67) l → (∀ y, y ∈ l ↔ comeM n n n 0 y) → l = tls (M 67) n 12 := fun l => come_tls he1
  generalize tls (M 67) n 12 = T at *
  (refine xm_of (own := "DrumTongueModel") rfl (by decide +kernel) tk_M [some (xR (some 64)), none, none, none] (Nat.le_of_ble_eq_true rfl) rfl ?_; intro D nx X C P hW)
  have outer : ∀ (m w : Nat) (M' : xM), w + m = nW → (∀ a, a < 69 ∨ 73 < a → M' a = M a) → (∀ w' : Nat, w' < w → M' 69 w' = (T.length : Int) ∧ ztb M' (M 65 w') (M 67) w' T T.length) → ∀ x2 x3, X 2 [some (xR (some 64)), some (xI (w : Int)), x2, x3] [] (M', D, nx) 0 0 := by
    intro m
    induction m with
    | zero =>
      intro w M' hw hf hd x2 x3
      have e64 : M' 64 = M 64 := hf 64 (by omega)
      have e640 : M' 64 0 = (nW : Int) := by rw [e64]; exact hW0
      refine xg hW k_M_order [2] 40 ?_
      ((repeat' (first | (with_reducible refine And.intro ?_ ?_) | (intro h0; exact absurd h0 (by decide)) | (intro _) | ((conv => whnf); (first | (with_reducible refine And.intro ?_ ?_) | (intro h0; exact absurd h0 (by decide)) | (intro _))))); (all_goals (try omega)); (all_goals (try exact xnn (by omega))); (all_goals (try exact Nat.le_of_ble_eq_true rfl)); (all_goals (try ((conv => whnf); (first | (refine hW.2.1 _ _ ?_) | (change X _ _ _ _ _ _) | (change C _ _ _ _ _ _ _))))); (all_goals (try simp only [xup_at, xup_ne, xup_up, ne_eq, Nat.reduceEqDiff, not_false_eq_true, Int.toNat_natCast, x_lcmp] at *)); (all_goals (try omega)))
      exact hq M' hf (fun w' hw' => hd w' (by omega))
    | succ m ih =>
      intro w M' hw hf hd x2 x3
      have e64 : M' 64 = M 64 := hf 64 (by omega)
      have e640 : M' 64 0 = (nW : Int) := by rw [e64]; exact hW0
      have hw10 : w < 10 := by omega
      have aloop : ∀ (ma a : Nat) (M' : xM) (l : List xTl), a + ma = n → zst M M' T w l → l.length = 1 + a * (n + 1) → (∀ y, y ∈ l ↔ comeM n a a 0 y) → ∀ x3, X 27 [some (xR (some 64)), some (xI (w : Int)), some (xI (a : Int)), x3] [] (M', D, nx) 0 0 := by
        intro ma
        induction ma with
        | zero =>
          intro a M' l ha hz hlen hm x3
          obtain rfl : a = n := by omega
          obtain ⟨z1, z2, z3, z4, z5⟩ := hz
          have e643 : M' 64 3 = (a : Int) := by rw [z1 64 (by omega)]; exact hn
          have el := hTe l z5 hm
          rw [el] at z3 z4
          have h5 := ih (w + 1) M' (by omega) z1 (fun w' hw' => by
            by_cases c : w' = w
            · rw [c]; exact ⟨z3, z4⟩
            · exact z2 w' (by omega)) (some (xI (a : Int))) x3
          clear z2 z3 z4 z5 hm ih el
          refine xg hW k_M_order [2, 27] 40 ?_
          ((repeat' (first | (with_reducible refine And.intro ?_ ?_) | (intro h0; exact absurd h0 (by decide)) | (intro _) | ((conv => whnf); (first | (with_reducible refine And.intro ?_ ?_) | (intro h0; exact absurd h0 (by decide)) | (intro _))))); (all_goals (try omega)); (all_goals (try exact xnn (by omega))); (all_goals (try exact Nat.le_of_ble_eq_true rfl)); (all_goals (try ((conv => whnf); (first | (refine hW.2.1 _ _ ?_) | (change X _ _ _ _ _ _) | (change C _ _ _ _ _ _ _))))); (all_goals (try simp only [xup_at, xup_ne, xup_up, ne_eq, Nat.reduceEqDiff, not_false_eq_true, Int.toNat_natCast, x_lcmp] at *)); (all_goals (try omega)))
          exact h5
        | succ ma iha =>
          intro a M' l ha hz hlen hm x3
          have ham : a * (n + 1) ≤ 4 * (5 + 1) := Nat.mul_le_mul (by omega) (by omega)
          have ham1 : (a + 1) * (n + 1) = a * (n + 1) + (n + 1) := Nat.succ_mul a (n + 1)
          have e643 : M' 64 3 = (n : Int) := by rw [hz.1 64 (by omega)]; exact hn
          have bloop : ∀ (mb b : Nat) (M' : xM) (l : List xTl), b + mb = n → zst M M' T w l → l.length = 1 + a * (n + 1) + 1 + b → (∀ y, y ∈ l ↔ comeM n a (a + 1) b y) → X 45 [some (xR (some 64)), some (xI (w : Int)), some (xI (a : Int)), some (xI (b : Int))] [] (M', D, nx) 0 0 := by
            intro mb
            induction mb with
            | zero =>
              intro b M' l hb hz hlen hm
              obtain rfl : b = n := by omega
              have e643 : M' 64 3 = (b : Int) := by rw [hz.1 64 (by omega)]; exact hn
              have h5 := iha (a + 1) M' l (by omega) hz (by omega) (fun y => (hm y).trans comeM_a) (some (xI (b : Int)))
              clear hz hm ih iha
              refine xg hW k_M_order [27, 45] 40 ?_
              ((repeat' (first | (with_reducible refine And.intro ?_ ?_) | (intro h0; exact absurd h0 (by decide)) | (intro _) | ((conv => whnf); (first | (with_reducible refine And.intro ?_ ?_) | (intro h0; exact absurd h0 (by decide)) | (intro _))))); (all_goals (try omega)); (all_goals (try exact xnn (by omega))); (all_goals (try exact Nat.le_of_ble_eq_true rfl)); (all_goals (try ((conv => whnf); (first | (refine hW.2.1 _ _ ?_) | (change X _ _ _ _ _ _) | (change C _ _ _ _ _ _ _))))); (all_goals (try simp only [xup_at, xup_ne, xup_up, ne_eq, Nat.reduceEqDiff, not_false_eq_true, Int.toNat_natCast, x_lcmp] at *)); (all_goals (try omega)))
              exact h5
            | succ mb ihb =>
              intro b M' l hb hz hlen hm
              have e643 : M' 64 3 = (n : Int) := by rw [hz.1 64 (by omega)]; exact hn
              have cc : ∀ Q' : Option xV → xM → Prop, (∀ M'' l', zst M M'' T w l' → l'.length = l.length + 1 → (∀ y, y ∈ l' ↔ y = (2, a, b) ∨ y ∈ l) → Q' none M'') → xm 2 m_M_come [xR (some 64), xI (w : Int), xI 2, xI (a : Int), xI (b : Int)] M' Q' := fun Q' h => z_comeS (k := 2) hw10 hT (by omega) ⟨show 2 ≤ 2 by decide, show a < 5 by omega, show b < 5 by omega⟩ (fun y hy => comeM_B hn5 (Or.inl (by omega)) (by omega) (by omega) (by omega) ((hm y).mp hy)) (hs w hw10) he hz (fun q => comeM_n2 ((hm _).mp q)) h
              clear ih iha
              refine xg hW k_M_order [27, 45] 40 ?_
              ((repeat' (first | (with_reducible refine And.intro ?_ ?_) | (intro h0; exact absurd h0 (by decide)) | (intro _) | ((conv => whnf); (first | (with_reducible refine And.intro ?_ ?_) | (intro h0; exact absurd h0 (by decide)) | (intro _))))); (all_goals (try omega)); (all_goals (try exact xnn (by omega))); (all_goals (try exact Nat.le_of_ble_eq_true rfl)); (all_goals (try ((conv => whnf); (first | (refine hW.2.1 _ _ ?_) | (change X _ _ _ _ _ _) | (change C _ _ _ _ _ _ _))))); (all_goals (try simp only [xup_at, xup_ne, xup_up, ne_eq, Nat.reduceEqDiff, not_false_eq_true, Int.toNat_natCast, x_lcmp] at *)); (all_goals (try omega)))
              refine hW.1 _ _ _ _ _ _ (cc _ (fun M2 l2 hz2 hl2 hm2 => ?_)) (by omega) (by decide) (Nat.le_of_ble_eq_true rfl)
              ((repeat' (first | (with_reducible refine And.intro ?_ ?_) | (intro h0; exact absurd h0 (by decide)) | (intro _) | ((conv => whnf); (first | (with_reducible refine And.intro ?_ ?_) | (intro h0; exact absurd h0 (by decide)) | (intro _))))); (all_goals (try omega)); (all_goals (try exact xnn (by omega))); (all_goals (try exact Nat.le_of_ble_eq_true rfl)); (all_goals (try ((conv => whnf); (first | (refine hW.2.1 _ _ ?_) | (change X _ _ _ _ _ _) | (change C _ _ _ _ _ _ _))))); (all_goals (try simp only [xup_at, xup_ne, xup_up, ne_eq, Nat.reduceEqDiff, not_false_eq_true, Int.toNat_natCast, x_lcmp] at *)); (all_goals (try omega)))
              exact ihb (b + 1) M2 l2 (by omega) hz2 (by omega) (fun y => by rw [hm2 y, hm y]; exact comeM_p.symm)
          have cc : ∀ Q' : Option xV → xM → Prop, (∀ M'' l', zst M M'' T w l' → l'.length = l.length + 1 → (∀ y, y ∈ l' ↔ y = (1, a, 0) ∨ y ∈ l) → Q' none M'') → xm 2 m_M_come [xR (some 64), xI (w : Int), xI 1, xI (a : Int), xI 0] M' Q' := fun Q' h => z_comeS (k := 1) (b := 0) hw10 hT (by omega) ⟨show 1 ≤ 2 by decide, show a < 5 by omega, show 0 < 5 by decide⟩ (fun y hy => comeM_B hn5 (Or.inl (by omega)) (by omega) (by omega) (by omega) ((hm y).mp hy)) (hs w hw10) he hz (fun q => comeM_n1 ((hm _).mp q)) h
          clear ih iha
          refine xg hW k_M_order [27, 45] 40 ?_
          ((repeat' (first | (with_reducible refine And.intro ?_ ?_) | (intro h0; exact absurd h0 (by decide)) | (intro _) | ((conv => whnf); (first | (with_reducible refine And.intro ?_ ?_) | (intro h0; exact absurd h0 (by decide)) | (intro _))))); (all_goals (try omega)); (all_goals (try exact xnn (by omega))); (all_goals (try exact Nat.le_of_ble_eq_true rfl)); (all_goals (try ((conv => whnf); (first | (refine hW.2.1 _ _ ?_) | (change X _ _ _ _ _ _) | (change C _ _ _ _ _ _ _))))); (all_goals (try simp only [xup_at, xup_ne, xup_up, ne_eq, Nat.reduceEqDiff, not_false_eq_true, Int.toNat_natCast, x_lcmp] at *)); (all_goals (try omega)))
          refine hW.1 _ _ _ _ _ _ (cc _ (fun M2 l2 hz2 hl2 hm2 => ?_)) (by omega) (by decide) (Nat.le_of_ble_eq_true rfl)
          ((repeat' (first | (with_reducible refine And.intro ?_ ?_) | (intro h0; exact absurd h0 (by decide)) | (intro _) | ((conv => whnf); (first | (with_reducible refine And.intro ?_ ?_) | (intro h0; exact absurd h0 (by decide)) | (intro _))))); (all_goals (try omega)); (all_goals (try exact xnn (by omega))); (all_goals (try exact Nat.le_of_ble_eq_true rfl)); (all_goals (try ((conv => whnf); (first | (refine hW.2.1 _ _ ?_) | (change X _ _ _ _ _ _) | (change C _ _ _ _ _ _ _))))); (all_goals (try simp only [xup_at, xup_ne, xup_up, ne_eq, Nat.reduceEqDiff, not_false_eq_true, Int.toNat_natCast, x_lcmp] at *)); (all_goals (try omega)))
          exact bloop n 0 M2 l2 (by omega) hz2 (by omega) (fun y => by rw [hm2 y, hm y]; exact comeM_s.symm)
      have hz0 : zst M (xup M' 69 (xup (M' 69) w 0)) T w [] := by
        refine ⟨fun a ha => by rw [xup_ne (by omega)]; exact hf a ha, fun w' hw' => ?_, by rw [xup_at, xup_at]; rfl, fun t y hy => by simp at hy, List.Pairwise.nil⟩
        rw [xup_at, xup_ne (by omega)]
        refine ⟨(hd w' hw').1, ztb_fr (w := w) hT hw' (fun q _ => ?_) (hd w' hw').2⟩
        rw [xup_ne (by decide), xup_ne (by decide), xup_ne (by decide), xup_ne (by decide)]
        exact ⟨rfl, rfl, rfl, rfl⟩
      have cc : ∀ Q' : Option xV → xM → Prop, (∀ M'' l', zst M M'' T w l' → l'.length = 1 → (∀ y, y ∈ l' ↔ y = (0, 0, 0) ∨ y ∈ ([] : List xTl)) → Q' none M'') → xm 2 m_M_come [xR (some 64), xI (w : Int), xI 0, xI 0, xI 0] (xup M' 69 (xup (M' 69) w 0)) Q' := fun Q' h => z_comeS (k := 0) (a := 0) (b := 0) hw10 hT (by decide) ⟨by decide, by decide, by decide⟩ (fun y hy => by simp at hy) (hs w hw10) he hz0 (by simp) h
      clear ih hd hz0
      refine xg hW k_M_order [2, 27] 40 ?_
      ((repeat' (first | (with_reducible refine And.intro ?_ ?_) | (intro h0; exact absurd h0 (by decide)) | (intro _) | ((conv => whnf); (first | (with_reducible refine And.intro ?_ ?_) | (intro h0; exact absurd h0 (by decide)) | (intro _))))); (all_goals (try omega)); (all_goals (try exact xnn (by omega))); (all_goals (try exact Nat.le_of_ble_eq_true rfl)); (all_goals (try ((conv => whnf); (first | (refine hW.2.1 _ _ ?_) | (change X _ _ _ _ _ _) | (change C _ _ _ _ _ _ _))))); (all_goals (try simp only [xup_at, xup_ne, xup_up, ne_eq, Nat.reduceEqDiff, not_false_eq_true, Int.toNat_natCast, x_lcmp] at *)); (all_goals (try omega)))
      refine hW.1 _ _ _ _ _ _ (cc _ (fun M2 l2 hz2 hl2 hm2 => ?_)) (by omega) (by decide) (Nat.le_of_ble_eq_true rfl)
      ((repeat' (first | (with_reducible refine And.intro ?_ ?_) | (intro h0; exact absurd h0 (by decide)) | (intro _) | ((conv => whnf); (first | (with_reducible refine And.intro ?_ ?_) | (intro h0; exact absurd h0 (by decide)) | (intro _))))); (all_goals (try omega)); (all_goals (try exact xnn (by omega))); (all_goals (try exact Nat.le_of_ble_eq_true rfl)); (all_goals (try ((conv => whnf); (first | (refine hW.2.1 _ _ ?_) | (change X _ _ _ _ _ _) | (change C _ _ _ _ _ _ _))))); (all_goals (try simp only [xup_at, xup_ne, xup_up, ne_eq, Nat.reduceEqDiff, not_false_eq_true, Int.toNat_natCast, x_lcmp] at *)); (all_goals (try omega)))
      exact aloop n 0 M2 l2 (by omega) hz2 (by omega) (fun y => by
        rw [hm2 y]
        unfold comeM
        constructor
        · rintro (h | h)
          · exact Or.inl h
          · cases h
        · rintro (h | ⟨i, e, h⟩ | ⟨i, j, e, h⟩)
          · exact Or.inl h
          · omega
          · omega) x3
  refine xg hW k_M_order [2] 40 ?_
  ((repeat' (first | (with_reducible refine And.intro ?_ ?_) | (intro h0; exact absurd h0 (by decide)) | (intro _) | ((conv => whnf); (first | (with_reducible refine And.intro ?_ ?_) | (intro h0; exact absurd h0 (by decide)) | (intro _))))); (all_goals (try omega)); (all_goals (try exact xnn (by omega))); (all_goals (try exact Nat.le_of_ble_eq_true rfl)); (all_goals (try ((conv => whnf); (first | (refine hW.2.1 _ _ ?_) | (change X _ _ _ _ _ _) | (change C _ _ _ _ _ _ _))))); (all_goals (try simp only [xup_at, xup_ne, xup_up, ne_eq, Nat.reduceEqDiff, not_false_eq_true, Int.toNat_natCast, x_lcmp] at *)); (all_goals (try omega)))
  exact outer nW 0 M (by omega) (fun _ _ => rfl) (fun w' hw' => absurd hw' (by omega)) none none
