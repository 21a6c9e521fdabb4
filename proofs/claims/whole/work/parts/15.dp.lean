/-! THE HEARD against rows of BEATS: costs by places, from the front (fwd) and from the end (bwd) -/
def cst (h b : Int) : Int := if h = -1 ∨ h = b then 0 else 2
theorem cst_0 (h b : Int) : 0 ≤ cst h b := by unfold cst; split <;> omega
theorem cst_2 (h b : Int) : cst h b ≤ 2 := by unfold cst; split <;> omega
/-- one more beat b behind: f j is the least for the heard up to place j -/
def fwd (H : Nat → Int) (b : Int) (f : Nat → Int) : Nat → Int
  | 0 => f 0 + 3
  | j + 1 => min (f j + cst (H j) b) (min (f (j + 1) + 3) (fwd H b f j + 3))
def bwk (H : Nat → Int) (b : Int) (n : Nat) (g : Nat → Int) : Nat → Int
  | 0 => g n + 3
  | k + 1 => min (g (n - k) + cst (H (n - (k + 1))) b) (min (g (n - (k + 1)) + 3) (bwk H b n g k + 3))
/-- one more beat b in front: g j is the least for the heard from place j on, n in all -/
def bwd (H : Nat → Int) (b : Int) (n : Nat) (g : Nat → Int) (j : Nat) : Int := bwk H b n g (n - j)
theorem bwd_n (H : Nat → Int) (b : Int) (n : Nat) (g : Nat → Int) : bwd H b n g n = g n + 3 := by
  unfold bwd
  rw [Nat.sub_self]
  rfl
theorem bwd_lt {H : Nat → Int} {b : Int} {n : Nat} {g : Nat → Int} {j : Nat} (h : j < n) : bwd H b n g j = min (g (j + 1) + cst (H j) b) (min (g j + 3) (bwd H b n g (j + 1) + 3)) := by
  unfold bwd
  obtain ⟨k, hk⟩ : ∃ k, n - j = k + 1 := ⟨n - j - 1, by omega⟩
  rw [hk, show n - (j + 1) = k by omega, bwk, show n - k = j + 1 by omega, show n - (k + 1) = j by omega]
def clF (n : Nat) (f : Nat → Int) : Prop := ∀ j, j < n → f (j + 1) ≤ f j + 3
def clB (n : Nat) (g : Nat → Int) : Prop := ∀ j, j < n → g j ≤ g (j + 1) + 3
theorem fwd_cl (H : Nat → Int) (b : Int) (f : Nat → Int) (n : Nat) : clF n (fwd H b f) := fun j _ => by
  rw [fwd]; omega
theorem bwd_cl (H : Nat → Int) (b : Int) (g : Nat → Int) (n : Nat) : clB n (bwd H b n g) := fun j hj => by
  rw [bwd_lt hj]; omega
theorem fwd_lost (H : Nat → Int) (b : Int) (f : Nat → Int) : ∀ j, fwd H b f j ≤ f j + 3
  | 0 => by rw [fwd]; omega
  | j + 1 => by rw [fwd]; omega
theorem fwd_met (H : Nat → Int) (b : Int) (f : Nat → Int) (j : Nat) : fwd H b f (j + 1) ≤ f j + cst (H j) b := by rw [fwd]; omega
theorem bwd_lost {H : Nat → Int} {b : Int} {n : Nat} {g : Nat → Int} {j : Nat} (h : j ≤ n) : bwd H b n g j ≤ g j + 3 := by
  rcases Nat.lt_or_ge j n with q | q
  · rw [bwd_lt q]; omega
  · rw [show j = n by omega, bwd_n]; omega
theorem bwd_met {H : Nat → Int} {b : Int} {n : Nat} {g : Nat → Int} {j : Nat} (h : j < n) : bwd H b n g j ≤ g (j + 1) + cst (H j) b := by
  rw [bwd_lt h]; omega
/-- the least of the two together, over the places 0 .. n -/
def mt (f g : Nat → Int) : Nat → Int
  | 0 => f 0 + g 0
  | n + 1 => min (mt f g n) (f (n + 1) + g (n + 1))
theorem mt_le {f g : Nat → Int} : ∀ {n j : Nat}, j ≤ n → mt f g n ≤ f j + g j
  | 0, j, h => by rw [show j = 0 by omega, mt]; omega
  | n + 1, j, h => by
    rw [mt]
    rcases Nat.lt_or_ge n j with q | q
    · rw [show j = n + 1 by omega]; omega
    · have := mt_le (f := f) (g := g) q; omega
theorem mt_at {f g : Nat → Int} : ∀ (n : Nat), ∃ j, j ≤ n ∧ mt f g n = f j + g j
  | 0 => ⟨0, Nat.le_refl _, rfl⟩
  | n + 1 => by
    obtain ⟨j, h1, h2⟩ := mt_at (f := f) (g := g) n
    by_cases q : mt f g n ≤ f (n + 1) + g (n + 1)
    · exact ⟨j, by omega, by rw [mt, ← h2]; omega⟩
    · exact ⟨n + 1, Nat.le_refl _, by rw [mt]; omega⟩
theorem mt_congr {f f' g g' : Nat → Int} {n : Nat} (h : ∀ j, j ≤ n → f j = f' j) (h' : ∀ j, j ≤ n → g j = g' j) : mt f g n = mt f' g' n := by
  induction n with
  | zero => rw [mt, mt, h 0 (Nat.le_refl _), h' 0 (Nat.le_refl _)]
  | succ n ih => rw [mt, mt, ih (fun j q => h j (by omega)) (fun j q => h' j (by omega)), h _ (Nat.le_refl _), h' _ (Nat.le_refl _)]
theorem mt_swap {H : Nat → Int} {b : Int} {n : Nat} {f g : Nat → Int} (hf : clF n f) (hg : clB n g) : mt (fwd H b f) g n = mt f (bwd H b n g) n := by
  have h1 : ∀ k i, i + k = n → mt (fwd H b f) g n ≤ f i + bwd H b n g i := by
    intro k
    induction k with
    | zero =>
      intro i hi
      have h2 := mt_le (f := fwd H b f) (g := g) (show n ≤ n from Nat.le_refl _)
      have h3 := fwd_lost H b f n
      rw [show i = n by omega, bwd_n]
      omega
    | succ k ih =>
      intro i hi
      have h2 := ih (i + 1) (by omega)
      have h3 := mt_le (f := fwd H b f) (g := g) (show i ≤ n by omega)
      have h4 := mt_le (f := fwd H b f) (g := g) (show i + 1 ≤ n by omega)
      have h5 := fwd_lost H b f i
      have h6 := fwd_met H b f i
      have h7 := hf i (by omega)
      rw [bwd_lt (show i < n by omega)]
      omega
  have h2 : ∀ j, j ≤ n → mt f (bwd H b n g) n ≤ fwd H b f j + g j := by
    intro j
    induction j with
    | zero =>
      intro hj
      have h3 := mt_le (f := f) (g := bwd H b n g) (show 0 ≤ n from hj)
      have h4 := bwd_lost (H := H) (b := b) (g := g) (show 0 ≤ n from hj)
      rw [fwd]
      omega
    | succ j ih =>
      intro hj
      have h3 := ih (by omega)
      have h4 := mt_le (f := f) (g := bwd H b n g) (show j ≤ n by omega)
      have h5 := mt_le (f := f) (g := bwd H b n g) (show j + 1 ≤ n by omega)
      have h6 := bwd_lost (H := H) (b := b) (g := g) (show j + 1 ≤ n by omega)
      have h7 := bwd_met (H := H) (b := b) (g := g) (show j < n by omega)
      have h8 := hg j (by omega)
      rw [fwd]
      omega
  obtain ⟨i, h3, h4⟩ := mt_at (f := f) (g := bwd H b n g) n
  obtain ⟨j, h5, h6⟩ := mt_at (f := fwd H b f) (g := g) n
  have h7 := h1 (n - i) i (by omega)
  have h8 := h2 j h5
  omega
/-- k beats, one behind the other -/
def fwN (H β : Nat → Int) (f : Nat → Int) : Nat → Nat → Int
  | 0 => f
  | k + 1 => fwd H (β k) (fwN H β f k)
/-- the last k of m beats, in front -/
def bwN (H β : Nat → Int) (n m : Nat) (g : Nat → Int) : Nat → Nat → Int
  | 0 => g
  | k + 1 => bwd H (β (m - 1 - k)) n (bwN H β n m g k)
theorem fwN_cl {H β : Nat → Int} {f : Nat → Int} {n : Nat} (h : clF n f) : ∀ k, clF n (fwN H β f k)
  | 0 => h
  | k + 1 => fwd_cl _ _ _ _
theorem bwN_cl {H β : Nat → Int} {g : Nat → Int} {n m : Nat} (h : clB n g) : ∀ k, clB n (bwN H β n m g k)
  | 0 => h
  | k + 1 => bwd_cl _ _ _ _
theorem mt_swapN {H β : Nat → Int} {n m : Nat} {f g : Nat → Int} (hf : clF n f) (hg : clB n g) : mt (fwN H β f m) g n = mt f (bwN H β n m g m) n := by
  have : ∀ k, k ≤ m → mt (fwN H β f m) g n = mt (fwN H β f (m - k)) (bwN H β n m g k) n := by
    intro k
    induction k with
    | zero => intro _; rfl
    | succ k ih =>
      intro hk
      rw [ih (by omega), show m - k = (m - (k + 1)) + 1 by omega, fwN, mt_swap (fwN_cl hf _) (bwN_cl hg _), show m - (k + 1) = m - 1 - k by omega, bwN]
  have h1 := this m (Nat.le_refl _)
  rw [Nat.sub_self, fwN] at h1
  exact h1
theorem fwd_rg {H : Nat → Int} {b : Int} {f : Nat → Int} {n : Nat} {B : Int} (h : ∀ j, j ≤ n → 0 ≤ f j ∧ f j ≤ B) : ∀ j, j ≤ n → 0 ≤ fwd H b f j ∧ fwd H b f j ≤ B + 3 := by
  intro j
  induction j with
  | zero => intro hj; have := h 0 hj; rw [fwd]; omega
  | succ j ih =>
    intro hj
    have h1 := ih (by omega)
    have h2 := h j (by omega)
    have h3 := h (j + 1) hj
    have h4 := cst_0 (H j) b
    rw [fwd]; omega
theorem bwd_rg {H : Nat → Int} {b : Int} {g : Nat → Int} {n : Nat} {B : Int} (h : ∀ j, j ≤ n → 0 ≤ g j ∧ g j ≤ B) : ∀ j, j ≤ n → 0 ≤ bwd H b n g j ∧ bwd H b n g j ≤ B + 3 := by
  have : ∀ k j, j + k = n → 0 ≤ bwd H b n g j ∧ bwd H b n g j ≤ B + 3 := by
    intro k
    induction k with
    | zero => intro j hj; have := h n (Nat.le_refl _); rw [show j = n by omega, bwd_n]; omega
    | succ k ih =>
      intro j hj
      have h1 := ih (j + 1) (by omega)
      have h2 := h j (by omega)
      have h3 := h (j + 1) (by omega)
      have h4 := cst_0 (H j) b
      rw [bwd_lt (by omega)]; omega
  exact fun j hj => this (n - j) j (by omega)
theorem fwN_rg {H β : Nat → Int} {f : Nat → Int} {n : Nat} {B : Int} (h : ∀ j, j ≤ n → 0 ≤ f j ∧ f j ≤ B) : ∀ k j, j ≤ n → 0 ≤ fwN H β f k j ∧ fwN H β f k j ≤ B + 3 * k
  | 0, j, hj => by have := h j hj; rw [fwN]; omega
  | k + 1, j, hj => by have := fwd_rg (H := H) (b := β k) (fwN_rg (H := H) (β := β) h k) j hj; rw [fwN]; omega
theorem bwN_rg {H β : Nat → Int} {g : Nat → Int} {n m : Nat} {B : Int} (h : ∀ j, j ≤ n → 0 ≤ g j ∧ g j ≤ B) : ∀ k j, j ≤ n → 0 ≤ bwN H β n m g k j ∧ bwN H β n m g k j ≤ B + 3 * k
  | 0, j, hj => by have := h j hj; rw [bwN]; omega
  | k + 1, j, hj => by have := bwd_rg (H := H) (b := β (m - 1 - k)) (bwN_rg (H := H) (β := β) (m := m) h k) j hj; rw [bwN]; omega
theorem fwd_congr {H : Nat → Int} {b : Int} {f f' : Nat → Int} {n : Nat} (h : ∀ j, j ≤ n → f j = f' j) : ∀ j, j ≤ n → fwd H b f j = fwd H b f' j
  | 0, hj => by rw [fwd, fwd, h 0 hj]
  | j + 1, hj => by rw [fwd, fwd, h j (by omega), h (j + 1) hj, fwd_congr h j (by omega)]
theorem bwd_congr {H : Nat → Int} {b : Int} {g g' : Nat → Int} {n : Nat} (h : ∀ j, j ≤ n → g j = g' j) : ∀ j, j ≤ n → bwd H b n g j = bwd H b n g' j := by
  have : ∀ k j, j + k = n → bwd H b n g j = bwd H b n g' j := by
    intro k
    induction k with
    | zero => intro j hj; rw [show j = n by omega, bwd_n, bwd_n, h n (Nat.le_refl _)]
    | succ k ih =>
      intro j hj
      rw [bwd_lt (g := g) (show j < n by omega), bwd_lt (g := g') (show j < n by omega), h j (by omega), h (j + 1) (by omega), ih (j + 1) (by omega)]
  exact fun j hj => this (n - j) j (by omega)
theorem fwN_congr {H β : Nat → Int} {f f' : Nat → Int} {n : Nat} (h : ∀ j, j ≤ n → f j = f' j) : ∀ k j, j ≤ n → fwN H β f k j = fwN H β f' k j
  | 0, j, hj => h j hj
  | k + 1, j, hj => fwd_congr (fwN_congr h k) j hj
theorem bwN_congr {H β : Nat → Int} {g g' : Nat → Int} {n m : Nat} (h : ∀ j, j ≤ n → g j = g' j) : ∀ k j, j ≤ n → bwN H β n m g k j = bwN H β n m g' k j
  | 0, j, hj => h j hj
  | k + 1, j, hj => bwd_congr (bwN_congr h k) j hj
