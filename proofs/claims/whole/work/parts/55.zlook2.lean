/-! the reference: look -/
/-- the hills' numbers are the same -/
def relG (M : xM) : Prop := ∀ f t : Nat, f < 6 → t < 6 → M 77 (6 * f + t) = cM M f t ∧ M 78 (6 * f + t) = hM M f t
/-- a level of look: one more hill -/
def lkBody (c h : Nat → Nat → Int) (d f : Nat) (p : Nat → Nat) (v : Nat) (ch hr : Int) (t : Nat) (B : xB) : xB := if onp p t (v + 1) = true then B else if t = d then hkeep (v + 2) (xup p (v + 1) t) ((ch * c (p v) t).tdiv 1000) (hr + h (p v) t) B else hdfs c h d f (xup p (v + 1) t) (v + 2) ((ch * c (p v) t).tdiv 1000) (hr + h (p v) t) B
theorem hdfs_s (c h : Nat → Nat → Int) (d f : Nat) (p : Nat → Nat) (v : Nat) (ch hr : Int) (B : xB) : hdfs c h d (f + 1) p (v + 1) ch hr B = hdT (lkBody c h d f p v ch hr) 6 B := rfl
def lkB (M : xM) (B : xB) : Prop := M 64 31 = B.1 ∧ M 64 32 = B.2.1 ∧ (0 < B.1 → M 64 29 = (B.2.2.1 : Int) - 1 ∧ ∀ j, j < B.2.2.1 → M 88 j = (B.2.2.2 j : Int))
def lkFr (M0 M : xM) : Prop := (∀ a, a < 64 ∨ 64 < a ∧ a < 88 ∨ 92 < a → M a = M0 a) ∧ ∀ j, j ≠ 29 → j ≠ 31 → j ≠ 32 → M 64 j = M0 64 j
def lkI (M0 M : xM) (v : Nat) (p : Nat → Nat) (t : Nat) (ch hr : Int) (B : xB) : Prop := lkFr M0 M ∧ (∀ j, j ≤ v → M 89 j = (p j : Int)) ∧ M 90 v = (t : Int) ∧ M 91 v = ch ∧ M 92 v = hr ∧ lkB M B
def lkK' (X : xS) (D : Nat → Option xE) (nx : Nat) (M0 M : xM) (s d : Int) (v : Nat) (B : xB) : Prop := ∀ M'', lkFr M0 M'' → (∀ j, j < v → M'' 89 j = M 89 j ∧ M'' 90 j = M 90 j ∧ M'' 91 j = M 91 j ∧ M'' 92 j = M 92 j) → lkB M'' B → hbOk B → ∀ x4 x5 x6 x7 x8 x9 x10, lkX X D nx 47 s d ((v : Int) - 1) x4 x5 x6 x7 x8 x9 x10 M''
theorem lkN_at (M : xM) (v : Nat) (t : Int) : lkN M v t 90 = xup (M 90) v (t + 1) ∧ ∀ a, a ≠ 90 → lkN M v t a = M a := ⟨by unfold lkN; rw [xup_at], fun a ha => by unfold lkN; rw [xup_ne ha]⟩
theorem lkI_next {M0 M : xM} {v t : Nat} {p : Nat → Nat} {ch hr : Int} {B : xB} (h : lkI M0 M v p t ch hr B) : lkI M0 (lkN M v t) v p (t + 1) ch hr B := by
  obtain ⟨h1, h2, h3, h4, h5, h6⟩ := h
  obtain ⟨n1, n2⟩ := lkN_at M v t
  refine ⟨⟨fun a ha => by rw [n2 a (by omega)]; exact h1.1 a ha, fun j a b c => by rw [n2 64 (by decide)]; exact h1.2 j a b c⟩, fun j hj => by rw [n2 89 (by decide)]; exact h2 j hj, by rw [n1, xup_at]; rfl, by rw [n2 91 (by decide)]; exact h4, by rw [n2 92 (by decide)]; exact h5, ?_⟩
  unfold lkB
  rw [n2 64 (by decide), n2 88 (by decide)]
  exact h6
theorem lkK'_of {X : xS} {D : Nat → Option xE} {nx : Nat} {M0 M M2 : xM} {s d : Int} {v : Nat} {B : xB} (h : lkK' X D nx M0 M s d v B) (e : ∀ j, j < v → M2 89 j = M 89 j ∧ M2 90 j = M 90 j ∧ M2 91 j = M 91 j ∧ M2 92 j = M 92 j) : lkK' X D nx M0 M2 s d v B := fun M'' f1 f2 f3 => h M'' f1 (fun j hj => by
  obtain ⟨a, b, c, d⟩ := f2 j hj
  obtain ⟨a', b', c', d'⟩ := e j hj
  exact ⟨a.trans a', b.trans b', c.trans c', d.trans d'⟩) f3
theorem lkN_low (M : xM) (v : Nat) (t : Int) : ∀ j, j < v → lkN M v t 89 j = M 89 j ∧ lkN M v t 90 j = M 90 j ∧ lkN M v t 91 j = M 91 j ∧ lkN M v t 92 j = M 92 j := fun j hj => by
  obtain ⟨n1, n2⟩ := lkN_at M v t
  rw [n1, n2 89 (by decide), n2 91 (by decide), n2 92 (by decide), xup_ne (by omega)]
  exact ⟨rfl, rfl, rfl, rfl⟩
theorem lkU_at (M : xM) (v : Nat) (t c h : Int) : lkU M v t c h 89 = xup (M 89) (v + 1) t ∧ lkU M v t c h 90 = xup (M 90) (v + 1) 0 ∧ lkU M v t c h 91 = xup (M 91) (v + 1) c ∧ lkU M v t c h 92 = xup (M 92) (v + 1) h ∧ ∀ a, a < 89 ∨ 92 < a → lkU M v t c h a = M a := by
  unfold lkU
  refine ⟨?_, ?_, ?_, ?_, fun a ha => ?_⟩
  · rw [xup_ne (by decide), xup_ne (by decide), xup_ne (by decide), xup_at]
  · rw [xup_ne (by decide), xup_ne (by decide), xup_at]
  · rw [xup_ne (by decide), xup_at]
  · rw [xup_at]
  · rw [xup_ne (by omega), xup_ne (by omega), xup_ne (by omega), xup_ne (by omega)]
theorem lkK_at (M : xM) (v : Nat) (d c h : Int) : lkK M v d c h 64 = xup (xup (xup (M 64) 31 c) 32 h) 29 ((v : Int) + 1) ∧ lkK M v d c h 88 = xup (fun j => if j ≤ v then M 89 j else M 88 j) (v + 1) d ∧ ∀ a, a ≠ 64 → a ≠ 88 → lkK M v d c h a = M a := by
  unfold lkK
  refine ⟨?_, ?_, fun a h1 h2 => ?_⟩
  · rw [xup_ne (by decide), xup_at]
  · rw [xup_at]
  · rw [xup_ne h2, xup_ne h1]
set_option maxRecDepth 100000 in
set_option maxHeartbeats 1000000 in
theorem z_lkE {M : xM} {Q : Option xV → xM → Prop} {v : Nat} {dd : Nat} {D : Nat → Option xE} {nx : Nat} {X : xS} {C : xC} {P : xP} (hW : xWk dd m_M_look tb_M Q D nx X C P) (hv : v ≤ 4) (htu : M 90 v = ((6 - 0 : Nat) : Int)) {s d : Int} {x4 x5 x6 x7 x8 x9 x10 : Option xV} (h : ∀ x4 x5 x6 x7 x8 x9 x10, lkX X D nx 47 s d ((v : Int) - 1) x4 x5 x6 x7 x8 x9 x10 M) : lkX X D nx 47 s d v x4 x5 x6 x7 x8 x9 x10 M := by
  have h5 := h (some (xI (M 90 v))) x5 x6 x7 x8 x9 x10
  have htu' : M 90 ((v : Int).toNat) = 6 := htu
  clear h
  unfold lkX at *
  refine xg hW k_M_look [47, 88] 40 ?_
  ((repeat' (first | (with_reducible refine And.intro ?_ ?_) | (intro h0; exact absurd h0 (by decide)) | (intro h0; exact absurd rfl h0) | (intro h0; exfalso; clear hW; omega) | (intro _) | ((conv => whnf); (first | (with_reducible refine And.intro ?_ ?_) | (intro h0; exact absurd h0 (by decide)) | (intro h0; exact absurd rfl h0) | (intro h0; exfalso; clear hW; omega) | (intro _))))); (all_goals (try omega)); (all_goals (try exact xnn (by omega))); (all_goals (try exact Nat.le_of_ble_eq_true rfl)); (all_goals (try ((conv => whnf); (first | (refine hW.2.1 _ _ ?_) | (change X _ _ _ _ _ _) | (change C _ _ _ _ _ _ _))))); (all_goals (try simp only [xup_at, xup_ne, xup_up, ne_eq, Nat.reduceEqDiff, not_false_eq_true, Int.toNat_natCast, x_lcmp] at *)); (all_goals (try omega)))
  all_goals exact h5
theorem z_lkLm {M0 : xM} {Q : Option xV → xM → Prop} {s d f v : Nat} {p : Nat → Nat} {ch hr : Int} {dd : Nat} {D : Nat → Option xE} {nx : Nat} {X : xS} {C : xC} {P : xP} (hW : xWk dd m_M_look tb_M Q D nx X C P) (hh : hillOk M0) (hg : relG M0) (hd : d < 6) (hv : v + f = 4) (hp : lkP p d v) (rch : 0 ≤ ch ∧ ch ≤ 1000000000) (rhr : 0 ≤ hr ∧ hr ≤ 20 * (v + 1))
    (go : ∀ (t : Nat) (M : xM) (B : xB), t < 6 → onp p t (v + 1) = false → t ≠ d → hbOk B → lkI M0 M v p (t + 1) ch hr B → (∀ M'', lkI M0 M'' v p (t + 1) ch hr (hdfs (cM M0) (hM M0) d f (xup p (v + 1) t) (v + 2) ((ch * cM M0 (p v) t).tdiv 1000) (hr + hM M0 (p v) t) B) → (∀ j, j < v → M'' 89 j = M 89 j ∧ M'' 90 j = M 90 j ∧ M'' 91 j = M 91 j ∧ M'' 92 j = M 92 j) → ∀ x4 x5 x6 x7 x8 x9 x10, lkX X D nx 47 s d v x4 x5 x6 x7 x8 x9 x10 M'') → ∀ y4 y5 y6 y7 y8 y9 y10, lkX X D nx 47 s d ((v : Int) + 1) y4 y5 y6 y7 y8 y9 y10 (lkU M v t ((ch * cM M0 (p v) t).tdiv 1000) (hr + hM M0 (p v) t))) : ∀ (m : Nat) (M : xM) (B : xB) (x4 x5 x6 x7 x8 x9 x10 : Option xV), m ≤ 6 → hbOk B → lkI M0 M v p (6 - m) ch hr B → lkK' X D nx M0 M s d v (hdT (lkBody (cM M0) (hM M0) d f p v ch hr) m B) → lkX X D nx 47 s d v x4 x5 x6 x7 x8 x9 x10 M := by
  have hch0 := hh.ch
  intro m
  induction m with
  | zero =>
    intro M B x4 x5 x6 x7 x8 x9 x10 hm hB hI hK
    exact z_lkE hW (by omega) hI.2.2.1 (hK M hI.1 (fun _ _ => ⟨rfl, rfl, rfl, rfl⟩) hI.2.2.2.2.2 hB)
  | succ m ihm =>
    intro M B x4 x5 x6 x7 x8 x9 x10 hm hB hI hK
    obtain ⟨t, ht⟩ : ∃ t, t = 5 - m := ⟨_, rfl⟩
    rw [show 6 - (m + 1) = t by omega] at hI
    have e6m : 6 - m = t + 1 := by omega
    rw [hdT, ← ht] at hK
    obtain ⟨i1, i2, i3, i4, i5, i6⟩ := id hI
    have hIn := lkI_next hI
    have pv6 := (hp.1 v (Nat.le_refl _)).1
    obtain ⟨g1, g2⟩ := hg (p v) t pv6 (by omega)
    obtain ⟨c1, c2⟩ := hch0 (p v) t pv6 (by omega)
    have c3 := hch_rg rch c1
    obtain ⟨b1, b2, b3, b4, b5, b6⟩ := id hB
    have hp' : ∀ i, i < v + 2 → xup p (v + 1) t i < 6 := fun i hi => by
      by_cases q : i = v + 1
      · rw [q, xup_at]; omega
      · rw [xup_ne q]; exact (hp.1 i (by omega)).1
    have same : lkBody (cM M0) (hM M0) d f p v ch hr t B = B → ∀ y4 y5 y6 y7 y8 y9 y10, lkX X D nx 47 s d v y4 y5 y6 y7 y8 y9 y10 (lkN M v t) := fun e y4 y5 y6 y7 y8 y9 y10 => by
      rw [e] at hK
      exact ihm (lkN M v t) B y4 y5 y6 y7 y8 y9 y10 (by omega) hB (by rw [e6m]; exact hIn) (lkK'_of hK (lkN_low M v t))
    refine z_lkS (t := t) (d := d) (p := p) (c := cM M0 (p v) t) (h := hM M0 (p v) t) hW (show v ≤ 4 by omega) (by omega) (fun j hj => ⟨i2 j hj, (hp.1 j hj).1⟩) i3 i4 i5 (by rw [i1.1 77 (by omega)]; exact g1) (by rw [i1.1 78 (by omega)]; exact g2) rch (by omega) c1 c2 (by rw [i6.1]; exact ⟨b1, b2⟩) (by rw [i6.2.1]; exact ⟨b3, b4⟩) hd (fun q1 q2 => lkP_lt hp hd (by omega) q1 q2) (fun hon => same (by unfold lkBody; rw [if_pos hon])) (fun hon htd => ?_) (fun hon htd hk => ?_) (fun hon htd hk => same (by unfold lkBody; rw [if_neg (by rw [hon]; decide), if_pos htd]; unfold hkeep; rw [i6.1, i6.2.1] at hk; rw [if_neg hk]))
    · refine go t (lkN M v t) B (by omega) hon htd hB hIn (fun M'' j1 j2 => ?_)
      have eb : lkBody (cM M0) (hM M0) d f p v ch hr t B = hdfs (cM M0) (hM M0) d f (xup p (v + 1) t) (v + 2) ((ch * cM M0 (p v) t).tdiv 1000) (hr + hM M0 (p v) t) B := by
        unfold lkBody
        rw [if_neg (by rw [hon]; decide), if_neg htd]
      rw [eb] at hK
      intro x4 x5 x6 x7 x8 x9 x10
      refine ihm M'' _ x4 x5 x6 x7 x8 x9 x10 (by omega) (hdfs_ok hch0 f _ _ _ _ _ (by omega) (by omega) hp' ⟨c3.2.2.1, by omega⟩ ⟨by omega, by omega⟩ hB) (by rw [e6m]; exact j1) (lkK'_of hK (fun j hj => ?_))
      obtain ⟨a1, a2, a3, a4⟩ := j2 j hj
      obtain ⟨a1', a2', a3', a4'⟩ := lkN_low M v t j hj
      exact ⟨a1.trans a1', a2.trans a2', a3.trans a3', a4.trans a4'⟩
    · have eb : lkBody (cM M0) (hM M0) d f p v ch hr t B = ((ch * cM M0 (p v) t).tdiv 1000, hr + hM M0 (p v) t, v + 2, xup p (v + 1) t) := by
        unfold lkBody
        rw [if_neg (by rw [hon]; decide), if_pos htd]
        unfold hkeep
        rw [i6.1, i6.2.1] at hk
        rw [if_pos hk]
      have hB2 : hbOk (lkBody (cM M0) (hM M0) d f p v ch hr t B) := by
        unfold lkBody
        rw [if_neg (by rw [hon]; decide), if_pos htd]
        exact hkeep_ok ⟨by omega, by omega⟩ hp' ⟨c3.2.2.1, by omega⟩ ⟨by omega, by omega⟩ hB
      rw [eb] at hK hB2
      obtain ⟨k1, k2, k3⟩ := lkK_at (lkN M v t) v d ((ch * cM M0 (p v) t).tdiv 1000) (hr + hM M0 (p v) t)
      obtain ⟨n1, n2⟩ := lkN_at M v t
      obtain ⟨j1, j2, j3, j4, j5, j6⟩ := hIn
      intro x4 x5 x6 x7 x8 x9 x10
      refine ihm _ _ x4 x5 x6 x7 x8 x9 x10 (by omega) hB2 ?_ (lkK'_of hK (fun j hj => ?_))
      · rw [e6m]
        refine ⟨⟨fun a ha => by rw [k3 a (by omega) (by omega)]; exact j1.1 a ha, fun j q1 q2 q3 => by rw [k1, xup_ne q1, xup_ne q3, xup_ne q2]; exact j1.2 j q1 q2 q3⟩, fun j hj => by rw [k3 89 (by decide) (by decide)]; exact j2 j hj, by rw [k3 90 (by decide) (by decide)]; exact j3, by rw [k3 91 (by decide) (by decide)]; exact j4, by rw [k3 92 (by decide) (by decide)]; exact j5, ?_, ?_, fun _ => ⟨?_, fun j hj => ?_⟩⟩
        · rw [k1, xup_ne (by decide), xup_ne (by decide), xup_at]
        · rw [k1, xup_ne (by decide), xup_at]
        · rw [k1, xup_at]
          show (v : Int) + 1 = ((v + 2 : Nat) : Int) - 1
          omega
        · rw [k2]
          show xup (fun j => if j ≤ v then lkN M v t 89 j else lkN M v t 88 j) (v + 1) (d : Int) j = ((xup p (v + 1) t j : Nat) : Int)
          replace hj : j < v + 2 := hj
          by_cases q : j = v + 1
          · rw [q, xup_at, xup_at, htd]
          · rw [xup_ne q, xup_ne q]
            show (if j ≤ v then lkN M v t 89 j else lkN M v t 88 j) = (p j : Int)
            rw [if_pos (by omega)]
            exact j2 j (by omega)
      · obtain ⟨a1', a2', a3', a4'⟩ := lkN_low M v t j hj
        rw [k3 89 (by decide) (by decide), k3 90 (by decide) (by decide), k3 91 (by decide) (by decide), k3 92 (by decide) (by decide)]
        exact ⟨a1', a2', a3', a4'⟩
theorem z_lkL {M0 : xM} {Q : Option xV → xM → Prop} {s d : Nat} {dd : Nat} {D : Nat → Option xE} {nx : Nat} {X : xS} {C : xC} {P : xP} (hW : xWk dd m_M_look tb_M Q D nx X C P) (hh : hillOk M0) (hg : relG M0) (hd : d < 6) : ∀ (f v : Nat), v + f = 4 → ∀ (p : Nat → Nat), lkP p d v → ∀ (ch hr : Int), 0 ≤ ch ∧ ch ≤ 1000000000 → 0 ≤ hr ∧ hr ≤ 20 * ((v : Int) + 1) → ∀ (m : Nat) (M : xM) (B : xB) (x4 x5 x6 x7 x8 x9 x10 : Option xV), m ≤ 6 → hbOk B → lkI M0 M v p (6 - m) ch hr B → lkK' X D nx M0 M s d v (hdT (lkBody (cM M0) (hM M0) d f p v ch hr) m B) → lkX X D nx 47 s d v x4 x5 x6 x7 x8 x9 x10 M := by
  intro f
  induction f with
  | zero =>
    intro v hv p hp ch hr rch rhr
    refine z_lkLm hW hh hg hd (by omega) hp rch rhr (fun t M B ht hon htd _ _ _ => absurd (lkP_lt hp hd ht htd hon) (by omega))
  | succ f ih =>
    intro v hv p hp ch hr rch rhr
    refine z_lkLm hW hh hg hd (by omega) hp rch rhr (fun t M B ht hon htd hB hI K y4 y5 y6 y7 y8 y9 y10 => ?_)
    obtain ⟨i1, i2, i3, i4, i5, i6⟩ := hI
    have pv6 := (hp.1 v (Nat.le_refl _)).1
    obtain ⟨c1, c2⟩ := hh.ch (p v) t pv6 ht
    have c3 := hch_rg rch c1
    obtain ⟨u1, u2, u3, u4, u5⟩ := lkU_at M v t ((ch * cM M0 (p v) t).tdiv 1000) (hr + hM M0 (p v) t)
    have h5 := ih (v + 1) (by omega) (xup p (v + 1) t) (lkP_push hp ht htd hon) ((ch * cM M0 (p v) t).tdiv 1000) (hr + hM M0 (p v) t) ⟨c3.2.2.1, by omega⟩ ⟨by omega, by omega⟩ 6 (lkU M v t ((ch * cM M0 (p v) t).tdiv 1000) (hr + hM M0 (p v) t)) B y4 y5 y6 y7 y8 y9 y10 (Nat.le_refl _) hB ⟨⟨fun a ha => by rw [u5 a (by omega)]; exact i1.1 a ha, fun j q1 q2 q3 => by rw [u5 64 (by omega)]; exact i1.2 j q1 q2 q3⟩, fun j hj => ?_, by rw [u2, xup_at]; rfl, by rw [u3, xup_at], by rw [u4, xup_at], ?_⟩ ?_
    · exact h5
    · rw [u1]
      by_cases q : j = v + 1
      · rw [q, xup_at, xup_at]
      · rw [xup_ne q, xup_ne q]; exact i2 j (by omega)
    · unfold lkB
      rw [u5 64 (by omega), u5 88 (by omega)]
      exact i6
    · intro M'' f1 f2 f3 f4 x4 x5 x6 x7 x8 x9 x10
      rw [show ((v + 1 : Nat) : Int) - 1 = (v : Int) by omega]
      refine K M'' ⟨f1, fun j hj => ?_, ?_, ?_, ?_, ?_⟩ (fun j hj => ?_) x4 x5 x6 x7 x8 x9 x10
      · rw [(f2 j (by omega)).1, u1, xup_ne (by omega)]; exact i2 j hj
      · rw [(f2 v (by omega)).2.1, u2, xup_ne (by omega)]; exact i3
      · rw [(f2 v (by omega)).2.2.1, u3, xup_ne (by omega)]; exact i4
      · rw [(f2 v (by omega)).2.2.2, u4, xup_ne (by omega)]; exact i5
      · exact f3
      · obtain ⟨a1, a2, a3, a4⟩ := f2 j (by omega)
        rw [a1, a2, a3, a4, u1, u2, u3, u4, xup_ne (by omega), xup_ne (by omega), xup_ne (by omega), xup_ne (by omega)]
        exact ⟨rfl, rfl, rfl, rfl⟩
/-- the best way told by a variable -/
theorem hBest_s (c h : Nat → Nat → Int) (s d : Nat) : hBest c h s d = hdT (lkBody c h d 4 (fun _ => s) 0 1000000000 0) 6 (0, 0, 0, fun _ => 0) := rfl
set_option maxRecDepth 100000 in
set_option maxHeartbeats 1000000 in
theorem z_look {M : xM} {Q : Option xV → xM → Prop} {s d : Nat} (hh : hillOk M) (hg : relG M) (hs : s < 6) (hd : d < 6) (hsd : s ≠ d) (hq : ∀ M', lkFr M M' → lkB M' (hBest (cM M) (hM M) s d) → hbOk (hBest (cM M) (hM M) s d) → Q none M') : xm 1 m_M_look [xR (some 64), xI (s : Int), xI (d : Int)] M Q := by
  have hb0 : hbOk (0, 0, 0, fun _ => 0) := ⟨by decide, by decide, by decide, by decide, fun q => absurd q (by decide), fun _ => rfl⟩
  have es := hBest_s (cM M) (hM M) s d
  generalize hBest (cM M) (hM M) s d = B at *
  (refine xm_of (own := "DrumTongueModel") rfl (by decide +kernel) tk_M [some (xR (some 64)), some (xI (s : Int)), some (xI (d : Int)), none, none, none, none, none, none, none, none] (Nat.le_of_ble_eq_true rfl) rfl ?_; intro D nx X C P hW)
  have h5 := fun M0' (e : lkI M M0' 0 (fun _ => s) 0 1000000000 0 (0, 0, 0, fun _ => 0)) x4 x5 x6 x7 x8 x9 x10 (K : lkK' X D nx M M0' s d 0 B) => z_lkL (Q := Q) hW hh hg hd 4 0 rfl (fun _ => s) ⟨fun j _ => ⟨hs, hsd⟩, fun i j h1 h2 => by omega⟩ 1000000000 0 ⟨by decide, by decide⟩ ⟨by decide, by decide⟩ 6 M0' (0, 0, 0, fun _ => 0) x4 x5 x6 x7 x8 x9 x10 (Nat.le_refl _) hb0 e (by rw [← es]; exact K)
  have hK : ∀ M0', lkK' X D nx M M0' s d 0 B := fun M0' M'' f1 f2 f3 f4 x4 x5 x6 x7 x8 x9 x10 => by
    have h6 := hq M'' f1 f3 f4
    clear hq h5 es f1 f2 f3 f4 hg hh
    unfold lkX
    refine xg hW k_M_look [47] 40 ?_
    ((repeat' (first | (with_reducible refine And.intro ?_ ?_) | (intro h0; exact absurd h0 (by decide)) | (intro h0; exact absurd rfl h0) | (intro h0; exfalso; clear hW; omega) | (intro _) | ((conv => whnf); (first | (with_reducible refine And.intro ?_ ?_) | (intro h0; exact absurd h0 (by decide)) | (intro h0; exact absurd rfl h0) | (intro h0; exfalso; clear hW; omega) | (intro _))))); (all_goals (try omega)); (all_goals (try exact xnn (by omega))); (all_goals (try exact Nat.le_of_ble_eq_true rfl)); (all_goals (try ((conv => whnf); (first | (refine hW.2.1 _ _ ?_) | (change X _ _ _ _ _ _) | (change C _ _ _ _ _ _ _))))); (all_goals (try simp only [xup_at, xup_ne, xup_up, ne_eq, Nat.reduceEqDiff, not_false_eq_true, Int.toNat_natCast, x_lcmp] at *)); (all_goals (try omega)))
    all_goals exact h6
  have h6 := fun M0' e => h5 M0' e none none none none none none none (hK M0')
  clear h5 hK hq es
  unfold lkX at h6
  refine xg hW k_M_look [47] 40 ?_
  ((repeat' (first | (with_reducible refine And.intro ?_ ?_) | (intro h0; exact absurd h0 (by decide)) | (intro h0; exact absurd rfl h0) | (intro h0; exfalso; clear hW; omega) | (intro _) | ((conv => whnf); (first | (with_reducible refine And.intro ?_ ?_) | (intro h0; exact absurd h0 (by decide)) | (intro h0; exact absurd rfl h0) | (intro h0; exfalso; clear hW; omega) | (intro _))))); (all_goals (try omega)); (all_goals (try exact xnn (by omega))); (all_goals (try exact Nat.le_of_ble_eq_true rfl)); (all_goals (try ((conv => whnf); (first | (refine hW.2.1 _ _ ?_) | (change X _ _ _ _ _ _) | (change C _ _ _ _ _ _ _))))); (all_goals (try simp only [xup_at, xup_ne, xup_up, ne_eq, Nat.reduceEqDiff, not_false_eq_true, Int.toNat_natCast, x_lcmp] at *)); (all_goals (try omega)))
  rw [show Int.toNat 0 = 0 from rfl]
  refine h6 _ ⟨⟨fun a ha => by rw [xup_ne (by omega), xup_ne (by omega), xup_ne (by omega), xup_ne (by omega), xup_ne (by omega)], fun j q1 q2 q3 => by rw [xup_ne (by decide), xup_ne (by decide), xup_ne (by decide), xup_ne (by decide), xup_at, xup_ne q1, xup_ne q3, xup_ne q2]⟩, fun j hj => ?_, ?_, ?_, ?_, ?_, ?_, fun q => absurd q (by decide)⟩
  · obtain rfl : j = 0 := by omega
    rw [xup_ne (by decide), xup_ne (by decide), xup_ne (by decide), xup_at, xup_at]
  · rw [xup_ne (by decide), xup_ne (by decide), xup_at, xup_at]
    rfl
  · rw [xup_ne (by decide), xup_at, xup_at]
  · rw [xup_at, xup_at]
  · rw [xup_ne (by decide), xup_ne (by decide), xup_ne (by decide), xup_ne (by decide), xup_at, xup_ne (by decide), xup_ne (by decide), xup_at]
  · rw [xup_ne (by decide), xup_ne (by decide), xup_ne (by decide), xup_ne (by decide), xup_at, xup_ne (by decide), xup_at]
