/-! what must hold so that the machine goes on well: xop. N: what must hold behind the instruction; J: at the aim of a jump. tb: own's tables: fields idx -> (class, field, its type, final, nest); methods idx -> (0 static, 1 virtual, 2 <init>, 3 Object.<init>, 4 arraycopy; method, parameters, class of the receiver); new idx -> class and its fresh fields; constants int; constants long; int[][] -/
abbrev xTb : Type := List (Nat × Nat × Nat × FieldType × Bool × Bool) × List (Nat × Nat × xMd × Nat × Nat) × List (Nat × Nat × List xV) × List (Nat × Int) × List (Nat × Int) × List Nat
abbrev xP : Type := Option xV → xH → Prop
abbrev xN : Type := xLs → List xV → xH → Nat → Nat → Prop
abbrev xS : Type := Nat → xLs → List xV → xH → Nat → Nat → Prop
def xlk {α : Type} : List (Nat × α) → Nat → Option α
  | [], _ => none
  | (j, x) :: r, i => match Nat.beq i j with
    | true => some x
    | false => xlk r i
theorem xlk_mem {α : Type} {i : Nat} {x : α} : ∀ {l : List (Nat × α)}, xlk l i = some x → (i, x) ∈ l
  | [], h => by cases h
  | (j, y) :: r, h => by
    unfold xlk at h
    split at h
    · rename_i hj
      cases h
      rw [xbeq hj]
      exact List.mem_cons_self
    · exact List.mem_cons_of_mem _ (xlk_mem h)
def xo {α : Type} (o : Option α) (K : α → Prop) : Prop := match o with
  | some a => K a
  | none => False
theorem xo_spec {α : Type} {o : Option α} {K : α → Prop} (h : xo o K) : ∃ a, o = some a ∧ K a := by
  cases o with
  | none => exact h.elim
  | some a => exact ⟨a, rfl, h⟩
def x1i (st : List xV) (K : Int → List xV → Prop) : Prop := match st with
  | .inl z :: r => K z r
  | _ => False
theorem x1i_spec {st : List xV} {K : Int → List xV → Prop} (h : x1i st K) : ∃ z r, st = xI z :: r ∧ K z r := by
  rcases st with _ | ⟨z | z | z, r⟩ <;> first | exact h.elim | exact ⟨z, r, rfl, h⟩
def x2i (st : List xV) (K : Int → Int → List xV → Prop) : Prop := match st with
  | .inl y :: .inl x :: r => K x y r
  | _ => False
theorem x2i_spec {st : List xV} {K : Int → Int → List xV → Prop} (h : x2i st K) : ∃ x y r, st = xI y :: xI x :: r ∧ K x y r := by
  rcases st with _ | ⟨y | y | y, _ | ⟨x | x | x, r⟩⟩ <;> first | exact h.elim | exact ⟨x, y, r, rfl, h⟩
def x1j (st : List xV) (K : Int → List xV → Prop) : Prop := match st with
  | .inr (.inl z) :: r => K z r
  | _ => False
theorem x1j_spec {st : List xV} {K : Int → List xV → Prop} (h : x1j st K) : ∃ z r, st = xJ z :: r ∧ K z r := by
  rcases st with _ | ⟨z | z | z, r⟩ <;> first | exact h.elim | exact ⟨z, r, rfl, h⟩
def x2j (st : List xV) (K : Int → Int → List xV → Prop) : Prop := match st with
  | .inr (.inl y) :: .inr (.inl x) :: r => K x y r
  | _ => False
theorem x2j_spec {st : List xV} {K : Int → Int → List xV → Prop} (h : x2j st K) : ∃ x y r, st = xJ y :: xJ x :: r ∧ K x y r := by
  rcases st with _ | ⟨y | y | y, _ | ⟨x | x | x, r⟩⟩ <;> first | exact h.elim | exact ⟨x, y, r, rfl, h⟩
def x1r (st : List xV) (K : Option Nat → List xV → Prop) : Prop := match st with
  | .inr (.inr z) :: r => K z r
  | _ => False
theorem x1r_spec {st : List xV} {K : Option Nat → List xV → Prop} (h : x1r st K) : ∃ z r, st = xR z :: r ∧ K z r := by
  rcases st with _ | ⟨z | z | z, r⟩ <;> first | exact h.elim | exact ⟨z, r, rfl, h⟩
/-- a value of one word on top -/
def x1w (st : List xV) (K : xV → List xV → Prop) : Prop := match st with
  | .inl z :: r => K (.inl z) r
  | .inr (.inr z) :: r => K (.inr (.inr z)) r
  | _ => False
theorem x1w_spec {st : List xV} {K : xV → List xV → Prop} (h : x1w st K) : ∃ v r, st = v :: r ∧ (∀ z, v ≠ xJ z) ∧ K v r := by
  rcases st with _ | ⟨z | z | z, r⟩
  · exact h.elim
  · exact ⟨_, r, rfl, fun z q => (by cases q), h⟩
  · exact h.elim
  · exact ⟨_, r, rfl, fun z q => (by cases q), h⟩
def xli (L : xLs) (i : Nat) (K : Int → Prop) : Prop := match L[i]? with
  | some (some (.inl z)) => K z
  | _ => False
theorem xli_spec {L : xLs} {i : Nat} {K : Int → Prop} (h : xli L i K) : ∃ z, L[i]? = some (some (xI z)) ∧ K z := by
  unfold xli at h
  split at h
  · exact ⟨_, by assumption, h⟩
  · exact h.elim
def xlj (L : xLs) (i : Nat) (K : Int → Prop) : Prop := match L[i]? with
  | some (some (.inr (.inl z))) => K z
  | _ => False
theorem xlj_spec {L : xLs} {i : Nat} {K : Int → Prop} (h : xlj L i K) : ∃ z, L[i]? = some (some (xJ z)) ∧ K z := by
  unfold xlj at h
  split at h
  · exact ⟨_, by assumption, h⟩
  · exact h.elim
def xlr (L : xLs) (i : Nat) (K : Option Nat → Prop) : Prop := match L[i]? with
  | some (some (.inr (.inr z))) => K z
  | _ => False
theorem xlr_spec {L : xLs} {i : Nat} {K : Option Nat → Prop} (h : xlr L i K) : ∃ z, L[i]? = some (some (xR z)) ∧ K z := by
  unfold xlr at h
  split at h
  · exact ⟨_, by assumption, h⟩
  · exact h.elim
/-- a field read -/
def xgf (T : xT) (h : xH) (a ci kf : Nat) (K : xV → Prop) : Prop := match h with
  | (M, D, _) => match T a with
    | some (.inl (c, ds)) => cond (Nat.beq c ci) (match ds[kf]? with
      | some (.inr false) => K (xI (M a kf))
      | some (.inr true) => K (xJ (M a kf))
      | some (.inl r) => K (xR r)
      | none => False) False
    | some (.inr _) => False
    | none => match D a with
      | some (.inl (c, fs)) => cond (Nat.beq c ci) (match fs[kf]? with
        | some v => K v
        | none => False) False
      | _ => False
theorem xgf_spec {T : xT} {h : xH} {a ci kf : Nat} {K : xV → Prop} (hg : xgf T h a ci kf K) : ∃ fs v, xrd T h a = some (.inl (ci, fs)) ∧ fs[kf]? = some v ∧ K v := by
  obtain ⟨M, D, nx⟩ := h
  simp only [xgf] at hg
  cases hT : T a with
  | some d =>
    rw [hT] at hg
    rcases d with ⟨c, ds⟩ | d
    · simp only at hg
      have hc := (xcond hg).1
      replace hg := (xcond hg).2
      obtain rfl := xbeq hc
      cases hd : ds[kf]? with
      | none => rw [hd] at hg; exact hg.elim
      | some d =>
        rw [hd] at hg
        refine ⟨xdl M a 0 ds, xdv M a kf d, by simp [xrd, hT, xde], by rw [xdl_get, hd]; simp, ?_⟩
        rcases d with r | (_ | _) <;> exact hg
    · exact hg.elim
  | none =>
    rw [hT] at hg
    simp only at hg
    cases hD : D a with
    | none => rw [hD] at hg; exact hg.elim
    | some e =>
      rw [hD] at hg
      rcases e with ⟨c, fs⟩ | e
      · simp only at hg
        have hc := (xcond hg).1
        replace hg := (xcond hg).2
        obtain rfl := xbeq hc
        cases hd : fs[kf]? with
        | none => rw [hd] at hg; exact hg.elim
        | some v =>
          rw [hd] at hg
          exact ⟨fs, v, by simp [xrd, hT, hD], hd, hg⟩
      · exact hg.elim
/-- an array is there: its kind, its length, what it holds at j -/
def xar (T : xT) (h : xH) (a j : Nat) (K : Nat → Nat → xV → Prop) : Prop := match h with
  | (M, D, _) => match T a with
    | some (.inr (0, n, none)) => K 0 n (xI (M a j))
    | some (.inr (1, n, none)) => K 1 n (xJ (M a j))
    | some (.inr (2, n, some r)) => K 2 n (xR (r j))
    | some _ => False
    | none => match D a with
      | some (.inr (t, n, f)) => K t n (f j)
      | _ => False
theorem xar_spec {T : xT} {h : xH} {a j : Nat} {K : Nat → Nat → xV → Prop} (hg : xar T h a j K) : ∃ t n f, xrd T h a = some (.inr (t, n, f)) ∧ K t n (f j) := by
  obtain ⟨M, D, nx⟩ := h
  simp only [xar] at hg
  cases hT : T a with
  | some d =>
    rw [hT] at hg
    rcases d with d | ⟨t, n, r⟩
    · exact hg.elim
    · rcases t with _ | _ | _ | t <;> rcases r with _ | r <;> simp only at hg
      · exact ⟨0, n, fun j => xI (M a j), by simp [xrd, hT, xde, xda], hg⟩
      · exact ⟨1, n, fun j => xJ (M a j), by simp [xrd, hT, xde, xda], hg⟩
      · exact ⟨2, n, fun j => xR (r j), by simp [xrd, hT, xde, xda], hg⟩
  | none =>
    rw [hT] at hg
    simp only at hg
    cases hD : D a with
    | none => rw [hD] at hg; exact hg.elim
    | some e =>
      rw [hD] at hg
      rcases e with e | ⟨t, n, f⟩
      · exact hg.elim
      · exact ⟨t, n, f, by simp [xrd, hT, hD], hg⟩
/-- the receiver is of class ci -/
def xcv (T : xT) (h : xH) (a ci : Nat) (A : Prop) : Prop := match h with
  | (_, D, _) => match T a with
    | some (.inl (c, _)) => cond (Nat.beq c ci) A False
    | some (.inr _) => False
    | none => match D a with
      | some (.inl (c, _)) => cond (Nat.beq c ci) A False
      | _ => False
theorem xcv_spec {T : xT} {h : xH} {a ci : Nat} {A : Prop} (hg : xcv T h a ci A) : ∃ fs, xrd T h a = some (.inl (ci, fs)) ∧ A := by
  obtain ⟨M, D, nx⟩ := h
  simp only [xcv] at hg
  cases hT : T a with
  | some d =>
    rw [hT] at hg
    rcases d with ⟨c, ds⟩ | d
    · have hc := (xcond hg).1
      replace hg := (xcond hg).2
      obtain rfl := xbeq hc
      exact ⟨xdl M a 0 ds, by simp [xrd, hT, xde], hg⟩
    · exact hg.elim
  | none =>
    rw [hT] at hg
    simp only at hg
    cases hD : D a with
    | none => rw [hD] at hg; exact hg.elim
    | some e =>
      rw [hD] at hg
      rcases e with ⟨c, fs⟩ | e
      · have hc := (xcond hg).1
        replace hg := (xcond hg).2
        obtain rfl := xbeq hc
        exact ⟨fs, by simp [xrd, hT, hD], hg⟩
      · exact hg.elim
/-- a jump's aim -/
def xto (pc : Nat) (off : Int) (K : Nat → Prop) : Prop := match (pc : Int) + off with
  | .ofNat t => K t
  | _ => False
theorem xto_spec {pc : Nat} {off : Int} {K : Nat → Prop} (h : xto pc off K) : ∃ t : Nat, (pc : Int) + off = (t : Int) ∧ K t := by
  unfold xto at h
  split at h
  · rename_i t e
    exact ⟨t, e, h⟩
  · exact h.elim
/-- a branch: both numbers in range; each road under its condition -/
def xbr (c : ClassFile.Cond) (x y : Int) (a b : Prop) : Prop := match c with
  | .eq => (x = y → a) ∧ (x ≠ y → b)
  | .ne => (x ≠ y → a) ∧ (x = y → b)
  | .lt => (x < y → a) ∧ (y ≤ x → b)
  | .ge => (y ≤ x → a) ∧ (x < y → b)
  | .gt => (y < x → a) ∧ (x ≤ y → b)
  | .le => (x ≤ y → a) ∧ (y < x → b)
/-- a table of jumps: from the number i on -/
def xsw (x : Int) (pc : Nat) (K : Nat → Prop) : Int → List Int → Prop
  | _, [] => True
  | i, off :: r => (x = i → xto pc off K) ∧ xsw x pc K (i + 1) r
theorem xsw_spec {x : Int} {pc : Nat} {K : Nat → Prop} : ∀ {i : Int} {offs : List Int}, xsw x pc K i offs → i ≤ x → x < i + offs.length → ∃ off, offs[(x - i).toNat]? = some off ∧ xto pc off K
  | i, [], _, h1, h2 => by simp at h2; omega
  | i, off :: r, h, h1, h2 => by
    by_cases hx : x = i
    · subst hx
      exact ⟨off, by simp, h.1 rfl⟩
    · obtain ⟨o, q1, q2⟩ := xsw_spec h.2 (by omega) (by simp at h2; omega)
      refine ⟨o, ?_, q2⟩
      rw [show (x - i).toNat = (x - (i + 1)).toNat + 1 by omega]
      simpa using q1
/-- arguments off the stack -/
def xtk : Nat → List xV → List xV → (List xV → List xV → Prop) → Prop
  | 0, st, as, K => K as st
  | _ + 1, [], _, _ => False
  | i + 1, v :: st, as, K => xtk i st (v :: as) K
theorem xtk_spec {K : List xV → List xV → Prop} : ∀ {i : Nat} {st as : List xV}, xtk i st as K → ∃ bs st', K (bs ++ as) st' ∧ bs.length = i ∧ st = bs.reverse ++ st'
  | 0, st, as, h => ⟨[], st, h, rfl, rfl⟩
  | i + 1, [], as, h => h.elim
  | i + 1, v :: st, as, h => by
    obtain ⟨bs, st', h1, h2, h3⟩ := xtk_spec (i := i) (st := st) h
    exact ⟨bs ++ [v], st', by simpa using h1, by simp [h2], by simp [h3]⟩
/-- an answer's kind -/
def xrt (rt : Option FieldType) (r : Option xV) (K : List xV → Prop) : Prop := match rt, r with
  | none, none => K []
  | some .int, some (.inl z) => K [xI z]
  | some .boolean, some (.inl z) => K [xI z]
  | some .long, some (.inr (.inl z)) => K [xJ z]
  | some (.object _), some (.inr (.inr q)) => K [xR q]
  | some (.array _), some (.inr (.inr q)) => K [xR q]
  | _, _ => False
theorem xrt_spec {rt : Option FieldType} {r : Option xV} {K : List xV → Prop} (h : xrt rt r K) : K r.toList := by
  unfold xrt at h
  split at h <;> first | exact h | exact h.elim
/-- a call: the method, its arguments, the heap, what is made so far, the rest of the stack, what must hold behind it -/
abbrev xC : Type := xMd → List xV → xH → Nat → Nat → List xV → (List xV → xH → Nat → Nat → Prop) → Prop
def xcl (T : xT) (R : xRm) (G : xG) : xC := fun μ as h k n rest K =>
  xct rest ≤ 8 ∧ ∃ fr lo mc ms : Nat, xfits R μ fr lo mc ms k n ∧ xCt T G μ fr lo mc ms as h (fun r h' => xrt μ.2.2.2 r fun w => K (w ++ rest) h' (k + mc) (n + ms))
def xlen : Instr → Nat
  | .bipush _ | .iload _ | .istore _ | .lload _ | .lstore _ | .aload _ | .astore _ | .ldc _ | .newarray _ => 2
  | .sipush _ | .iinc _ _ | .goto _ | .if_icmp _ _ | .ifCond _ _ | .getfield _ | .putfield _ | .invokevirtual _ | .invokespecial _ | .invokestatic _ | .new _ | .ldc2_w _ | .ldc_w _ => 3
  | .multianewarray _ _ => 4
  | .tableswitch .. => 0
  | _ => 1
/-- the aim of a jump, told ahead -/
def xtg (pc tg : Nat) : Instr → Bool
  | .goto off => decide ((pc : Int) + off = (tg : Int))
  | .if_icmp _ off => decide ((pc : Int) + off = (tg : Int))
  | .ifCond _ off => decide ((pc : Int) + off = (tg : Int))
  | _ => true
def xend (R : xRm) (k n : Nat) (A : Prop) : Prop := cond (Nat.ble k R.2.2.1 && Nat.ble n R.2.2.2) A False
theorem xend_spec {R : xRm} {k n : Nat} {A : Prop} (h : xend R k n A) : k ≤ R.2.2.1 ∧ n ≤ R.2.2.2 ∧ A := by
  have h1 := xcond h
  rw [Bool.and_eq_true] at h1
  exact ⟨Nat.le_of_ble_eq_true h1.1.1, Nat.le_of_ble_eq_true h1.1.2, h1.2⟩
def xbool (z : Int) (A : Prop) : Prop := (z = 0 ∨ z = 1) ∧ A
/-- an array's kind is one of whole numbers -/
def xki (t : Nat) (A : Prop) : Prop := cond (Nat.beq t 0 || Nat.beq t 9) A False
/-- room for one of the library's own -/
def xnat (R : xRm) (k n : Nat) (r : List xV) : Prop := (xct r ≤ 8 ∧ 1 ≤ R.1 ∧ 30 ≤ R.2.1) ∧ k ≤ R.2.2.1 ∧ n ≤ R.2.2.2
def xop (tb : xTb) (T : xT) (R : xRm) (rt : Option FieldType) (ini : Bool) (C : xC) (P : xP) (op : Instr) (tg pc : Nat) (L : xLs) (st : List xV) (h : xH) (k n : Nat) (N : xN) (J : xS) : Prop := match op with
  | .iconst z => N L (xI z :: st) h k n
  | .bipush z => (-128 ≤ z ∧ z < 128) ∧ N L (xI z :: st) h k n
  | .sipush z => (-32768 ≤ z ∧ z < 32768) ∧ N L (xI z :: st) h k n
  | .lconst z => N L (xJ ((z : Nat) : Int) :: st) h k n
  | .ldc i => xo (xlk tb.2.2.2.1 i) fun z => N L (xI z :: st) h k n
  | .ldc_w i => xo (xlk tb.2.2.2.1 i) fun z => N L (xI z :: st) h k n
  | .ldc2_w i => xo (xlk tb.2.2.2.2.1 i) fun z => N L (xJ z :: st) h k n
  | .iload_n i => xli L i fun z => N L (xI z :: st) h k n
  | .iload i => xli L i fun z => N L (xI z :: st) h k n
  | .lload_n i => xlj L i fun z => N L (xJ z :: st) h k n
  | .lload i => xlj L i fun z => N L (xJ z :: st) h k n
  | .aload_n i => xlr L i fun z => N L (xR z :: st) h k n
  | .aload i => xlr L i fun z => N L (xR z :: st) h k n
  | .istore_n i => x1i st fun z r => xst L i (xI z) fun L' => N L' r h k n
  | .istore i => x1i st fun z r => xst L i (xI z) fun L' => N L' r h k n
  | .lstore_n i => x1j st fun z r => xst2 L i z fun L' => N L' r h k n
  | .lstore i => x1j st fun z r => xst2 L i z fun L' => N L' r h k n
  | .astore_n i => x1r st fun z r => xst L i (xR z) fun L' => N L' r h k n
  | .astore i => x1r st fun z r => xst L i (xR z) fun L' => N L' r h k n
  | .iinc i q => xli L i fun z => xst L i (xI (z + q)) fun L' => N L' st h k n
  | .iadd => x2i st fun x y r => N L (xI (x + y) :: r) h k n
  | .isub => x2i st fun x y r => N L (xI (x - y) :: r) h k n
  | .imul => x2i st fun x y r => N L (xI (x * y) :: r) h k n
  | .iand => x2i st fun x y r => N L (xI (x_iand x y) :: r) h k n
  | .ior => x2i st fun x y r => N L (xI (x_ior x y) :: r) h k n
  | .ixor => x2i st fun x y r => N L (xI (x_ixor x y) :: r) h k n
  | .ishl => x2i st fun x y r => N L (xI (x_ishl x y) :: r) h k n
  | .ishr => x2i st fun x y r => N L (xI (x_ishr x y) :: r) h k n
  | .iushr => x2i st fun x y r => N L (xI (x_iushr x y) :: r) h k n
  | .irem => x2i st fun x y r => (xrg x ∧ 0 < y ∧ xrg y) ∧ N L (xI (x.tmod y) :: r) h k n
  | .ineg => x1i st fun x r => N L (xI (-x) :: r) h k n
  | .ladd => x2j st fun x y r => N L (xJ (x + y) :: r) h k n
  | .lsub => x2j st fun x y r => N L (xJ (x - y) :: r) h k n
  | .lmul => x2j st fun x y r => N L (xJ (x * y) :: r) h k n
  | .ldiv => x2j st fun x y r => (xrl x ∧ 0 < y ∧ xrl y) ∧ N L (xJ (x.tdiv y) :: r) h k n
  | .lcmp => x2j st fun x y r => (xrl x ∧ xrl y) ∧ N L (xI (x_lcmp x y) :: r) h k n
  | .i2l => x1i st fun x r => xrg x ∧ N L (xJ x :: r) h k n
  | .l2i => x1j st fun x r => N L (xI x :: r) h k n
  | .dup => x1w st fun v r => N L (v :: v :: r) h k n
  | .pop => x1w st fun _ r => N L r h k n
  | .dup2 => x1w st fun v r => x1w r fun w r => N L (v :: w :: v :: w :: r) h k n
  | .goto _ => J tg L st h k n
  | .if_icmp c _ => x2i st fun x y r => (xrg x ∧ xrg y) ∧ xbr c x y (J tg L r h k n) (N L r h k n)
  | .ifCond c _ => x1i st fun x r => xrg x ∧ xbr c x 0 (J tg L r h k n) (N L r h k n)
  | .tableswitch dflt lo hi offs => x1i st fun x r => (hi + 1 = lo + offs.toList.length) ∧ xrg x ∧ (x < lo ∨ hi < x → xto pc dflt fun t => J t L r h k n) ∧ xsw x pc (fun t => J t L r h k n) lo offs.toList
  | .getfield i => xo (xlk tb.1 i) fun d => match d with
    | (ci, kf, _) => x1r st fun a r => xo a fun a => xgf T h a ci kf fun v => N L (v :: r) h k n
  | .putfield i => xo (xlk tb.1 i) fun d => match d, st with
    | (ci, kf, ty, fin, nest), v :: .inr (.inr (some a)) :: r => cond (xfit ty v && (!fin || (ini && !nest))) (xwf T h a ci kf v fun h' => N L r h' k n) False
    | _, _ => False
  | .arraylength => x1r st fun a r => xo a fun a => xar T h a 0 fun t N1 _ => cond (Nat.beq t 9 || Nat.blt t 3) (N L (xI (N1 : Int) :: r) h k n) False
  | .iaload => match st with
    | .inl z :: .inr (.inr (some a)) :: r => xar T h a z.toNat fun t N1 v => xki t ((0 ≤ z ∧ z < (N1 : Int) ∧ z < 2147483648) ∧ N L (v :: r) h k n)
    | _ => False
  | .laload => match st with
    | .inl z :: .inr (.inr (some a)) :: r => xar T h a z.toNat fun t N1 v => cond (Nat.beq t 1) ((0 ≤ z ∧ z < (N1 : Int) ∧ z < 2147483648) ∧ N L (v :: r) h k n) False
    | _ => False
  | .aaload => match st with
    | .inl z :: .inr (.inr (some a)) :: r => xar T h a z.toNat fun t N1 v => cond (Nat.beq t 2) ((0 ≤ z ∧ z < (N1 : Int) ∧ z < 2147483648) ∧ N L (v :: r) h k n) False
    | _ => False
  | .iastore => match st with
    | .inl v :: .inl z :: .inr (.inr (some a)) :: r => xar T h a 0 fun t N1 _ => cond (Nat.beq t 0) ((0 ≤ z ∧ z < (N1 : Int) ∧ z < 2147483648) ∧ xwa T h a z.toNat (xI v) fun h' => N L r h' k n) False
    | _ => False
  | .lastore => match st with
    | .inr (.inl v) :: .inl z :: .inr (.inr (some a)) :: r => xar T h a 0 fun t N1 _ => cond (Nat.beq t 1) ((0 ≤ z ∧ z < (N1 : Int) ∧ z < 2147483648) ∧ xwa T h a z.toNat (xJ v) fun h' => N L r h' k n) False
    | _ => False
  | .new i => xo (xlk tb.2.2.1 i) fun d => match h, d with
    | (M, D, nx), (ci, fs) => (k + 1 ≤ R.2.2.1 ∧ n + fs.length ≤ R.2.2.2) ∧ N L (xR (some nx) :: st) (M, xup D nx (some (.inl (ci, fs))), nx + 1) (k + 1) (n + fs.length)
  | .newarray at_ => x1i st fun z r => match h with
    | (M, D, nx) => (0 ≤ z ∧ z ≤ 10000000 ∧ k + 1 ≤ R.2.2.1 ∧ n + z.toNat ≤ R.2.2.2) ∧ match at_ with
      | .int => N L (xR (some nx) :: r) (M, xup D nx (some (.inr (0, z.toNat, fun _ => xI 0))), nx + 1) (k + 1) (n + z.toNat)
      | .long => N L (xR (some nx) :: r) (M, xup D nx (some (.inr (1, z.toNat, fun _ => xJ 0))), nx + 1) (k + 1) (n + z.toNat)
      | _ => False
  | .multianewarray i dm => match st with
    | .inl z :: .inl y :: r => match h with
      | (M, D, nx) => (dm = 2 ∧ i ∈ tb.2.2.2.2.2 ∧ 0 ≤ y ∧ y ≤ 10000 ∧ 0 ≤ z ∧ z ≤ 10000 ∧ k + (1 + y.toNat) ≤ R.2.2.1 ∧ n + (y.toNat + y.toNat * z.toNat) ≤ R.2.2.2) ∧ N L (xR (some nx) :: r) (M, xgrid D nx y.toNat z.toNat, nx + 1 + y.toNat) (k + (1 + y.toNat)) (n + (y.toNat + y.toNat * z.toNat))
    | _ => False
  | .invokestatic i => xo (xlk tb.2.1 i) fun d => match d with
    | (0, μ, np, _) => xtk np st [] fun as r => C μ as h k n r (N L)
    | (5, _) => x2i st fun x y r => (xrg x ∧ xrg y ∧ xnat R k n r) ∧ N L (xI (max x y) :: r) h k n
    | (6, _) => x2i st fun x y r => (xrg x ∧ xrg y ∧ xnat R k n r) ∧ N L (xI (min x y) :: r) h k n
    | (7, _) => x1i st fun x r => (xrg x ∧ -2147483648 < x ∧ xnat R k n r) ∧ N L (xI (if 0 ≤ x then x else -x) :: r) h k n
    | (4, _) => match st with
      | .inl len :: .inl dp :: .inr (.inr (some a1)) :: .inl sp :: .inr (.inr (some a0)) :: r => match h with
        | (M, D, nx) => match T a0, T a1 with
          | some (.inr (0, n0, none)), some (.inr (0, n1, none)) => (n0 < 2147483648 ∧ n1 < 2147483648 ∧ xct r ≤ 8 ∧ 1 ≤ R.1 ∧ 30 ≤ R.2.1 ∧ 0 ≤ sp ∧ 0 ≤ dp ∧ 0 ≤ len ∧ sp + len ≤ (n0 : Int) ∧ dp + len ≤ (n1 : Int)) ∧ N L r (xup M a1 (va_cpy (M a0) (M a1) sp.toNat dp.toNat len.toNat), D, nx) k n
          | _, _ => False
      | _ => False
    | _ => False
  | .invokevirtual i => xo (xlk tb.2.1 i) fun d => match d with
    | (1, μ, np, ci) => xtk np st [] fun as r => x1r r fun a r => xo a fun a => xcv T h a ci (C μ (xR (some a) :: as) h k n r (N L))
    | _ => False
  | .invokespecial i => xo (xlk tb.2.1 i) fun d => match d with
    | (2, μ, np, _) => xtk np st [] fun as r => x1r r fun a r => xo a fun a => C μ (xR (some a) :: as) h k n r (N L)
    | (3, _) => x1r st fun a r => xo a fun _ => (xct r ≤ 8 ∧ 1 ≤ R.1 ∧ 30 ≤ R.2.1) ∧ N L r h k n
    | _ => False
  | .ireturn => match st, rt with
    | [.inl z], some .int => xend R k n (P (some (xI z)) h)
    | [.inl z], some .boolean => xend R k n (xbool z (P (some (xI z)) h))
    | _, _ => False
  | .lreturn => match st, rt with
    | [.inr (.inl z)], some .long => xend R k n (P (some (xJ z)) h)
    | _, _ => False
  | .return_ => match st, rt with
    | [], none => xend R k n (P none h)
    | _, _ => False
  | _ => False
