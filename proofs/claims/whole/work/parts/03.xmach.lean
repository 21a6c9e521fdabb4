/-! THE X MACHINE: an abstract machine over the kit's W. Values are Ints (taken modulo 2^32, 2^64) and references; addresses are counted from the law's start (0 is the script). The heap is: numbers M (address, place) of cells whose shape the table T fixes; other cells, told one by one; the next address. Owed from the names: xCl (classes), xTys (element types by kind), xTB (words) -/
abbrev xV : Type := Int ⊕ Int ⊕ Option Nat
abbrev xI (z : Int) : xV := Sum.inl z
abbrev xJ (z : Int) : xV := Sum.inr (Sum.inl z)
abbrev xR (r : Option Nat) : xV := Sum.inr (Sum.inr r)
abbrev xE : Type := (Nat × List xV) ⊕ (Nat × Nat × (Nat → xV))
abbrev xDf : Type := Option Nat ⊕ Bool
abbrev xDe : Type := (Nat × List xDf) ⊕ (Nat × Nat × Option (Nat → Option Nat))
abbrev xT : Type := Nat → Option xDe
abbrev xM : Type := Nat → Nat → Int
abbrev xH : Type := xM × (Nat → Option xE) × Nat
abbrev xG : Type := va_G × (Nat → ClassId) × Nat × Nat × Cell
abbrev xLs : Type := List (Option xV)
abbrev xMd : Type := MethodName × ByteArray × Nat × Option FieldType
abbrev xTys : List FieldType := [.int, .long, .array .int]
theorem xTy0 : xTys[0]? = some .int := rfl
theorem xTy1 : xTys[1]? = some .long := rfl
def xTB : List Cond := lw_tbl.filter goodWord
theorem xin_tb {w : Cond} (i : Nat) (h : lw_tbl[i]? = some w) (g : goodWord w = true) : w ∈ xTB := List.mem_filter.mpr ⟨List.mem_of_getElem? h, g⟩
theorem xWi : Cond.arrayClass .int ∈ xTB := xin_tb 95 (by decide +kernel) rfl
theorem xWj : Cond.arrayClass .long ∈ xTB := xin_tb 895 (by decide +kernel) rfl
def xup {α : Type} (f : Nat → α) (k : Nat) (v : α) : Nat → α := fun j => if j = k then v else f j
theorem xup_at {α : Type} (f : Nat → α) (k : Nat) (v : α) : xup f k v k = v := if_pos rfl
theorem xup_ne {α : Type} {f : Nat → α} {k j : Nat} {v : α} (h : j ≠ k) : xup f k v j = f j := if_neg h
def xad (G : xG) : Nat → Nat
  | 0 => G.2.2.2.1
  | a + 1 => G.2.2.1 + a
def xc (G : xG) : xV → Value
  | .inl z => .int (Int32.ofInt z)
  | .inr (.inl z) => .long (Int64.ofInt z)
  | .inr (.inr none) => .null
  | .inr (.inr (some a)) => .ref (xad G a)
def xdv (M : xM) (a k : Nat) : xDf → xV
  | .inl r => xR r
  | .inr true => xJ (M a k)
  | .inr false => xI (M a k)
def xdl (M : xM) (a : Nat) : Nat → List xDf → List xV
  | _, [] => []
  | k, d :: ds => xdv M a k d :: xdl M a (k + 1) ds
def xda (M : xM) (a t : Nat) : Option (Nat → Option Nat) → Nat → xV
  | some r => fun j => xR (r j)
  | none => match t with
    | 1 => fun j => xJ (M a j)
    | _ => fun j => xI (M a j)
def xde (M : xM) (a : Nat) : xDe → xE
  | .inl (ci, ds) => .inl (ci, xdl M a 0 ds)
  | .inr (t, n, r) => .inr (t, n, xda M a t r)
def xrd (T : xT) (h : xH) (a : Nat) : Option xE := match T a with
  | some d => some (xde h.1 a d)
  | none => h.2.1 a
/-- the real cell at q is the abstract one; kind 9: the script -/
def xat (G : xG) (q : Nat) (e : xE) (H : Heap) : Prop := match e with
  | .inl (ci, fs) => ∃ r : vw_C, xCl[ci]? = some r ∧ t_OB q (G.1.1 ci) r.2.2 (G.1.2 ci) H (vp_V (fs.map (xc G)))
  | .inr (t, n, f) => if t = 9 then H[q]? = some G.2.2.2.2 ∧ G.2.2.2.2.slots.size = n ∧ ∀ j, j < n → G.2.2.2.2.slots[j]? = some (xc G (f j)) else H[q]? = some (arrV (G.2.1 t) n (fun j => xc G (f j)))
theorem xat.kept {G : xG} {q : Nat} {e : xE} {H H1 : Heap} (h : xat G q e H) (hq : H1[q]? = H[q]?) : xat G q e H1 := by
  rcases e with ⟨ci, fs⟩ | ⟨t, n, f⟩
  · obtain ⟨r, h1, h2⟩ := h
    exact ⟨r, h1, h2.kept hq⟩
  · unfold xat at h ⊢
    by_cases ht : t = 9
    · simp only [ht, if_true] at h ⊢
      exact ⟨hq.trans h.1, h.2⟩
    · simp only [ht, if_false] at h ⊢
      exact hq.trans h
theorem xat.lt {G : xG} {q : Nat} {e : xE} {H : Heap} (h : xat G q e H) : q < H.size := by
  rcases e with ⟨ci, fs⟩ | ⟨t, n, f⟩
  · obtain ⟨r, h1, cell, h2, -⟩ := h
    exact (Array.getElem?_eq_some_iff.mp h2).1
  · unfold xat at h
    by_cases ht : t = 9
    · simp only [ht, if_true] at h
      exact (Array.getElem?_eq_some_iff.mp h.1).1
    · simp only [ht, if_false] at h
      exact (Array.getElem?_eq_some_iff.mp h).1
/-- the abstract heap tells the real one; the script stands below the base and is alone of kind 9 -/
def xMt (T : xT) (G : xG) (h : xH) (H : Heap) : Prop := G.2.2.2.1 < G.2.2.1 ∧ 1 ≤ h.2.2 ∧ H.size = xad G h.2.2 ∧ ∀ (a : Nat) (e : xE), xrd T h a = some e → xat G (xad G a) e H ∧ (a = 0 ↔ ∃ (n : Nat) (f : Nat → xV), e = .inr (9, n, f))
def xKn (G : xG) (U : State) : Prop := va_K G.1 xCl [] U ∧ (∀ (t : Nat) (ty : FieldType), xTys[t]? = some ty → ArrOfT U (G.2.1 t) ty ∧ va_RA U (G.2.1 t) ty) ∧ U.isArrayOf G.2.2.2.2 .int ∧ G.2.2.2.2.vm ≠ .unknown ∧ (Cond.arrayOver (.array .int)).before #[] U = true ∧ va_Nw (.methodLinkNest "DrumTongue" 18 y_Ear_init "DrumTongue") U
theorem xKn.warm {G : xG} {u U : State} (hW : u.WarmedH U.vm) (h : xKn G u) : xKn G U := ⟨va_K.moved hW.alike h.1, fun t ty ht => ⟨arrOfT_moved hW.alike (h.2.1 t ty ht).1, (h.2.1 t ty ht).2.moved hW.alike⟩, State.isArrayOf_alike hW.alike h.2.2.1, h.2.2.2.1, over_moved hW.alike h.2.2.2.2.1, va_Nw.warmM hW h.2.2.2.2.2⟩
theorem xKn.same {G : xG} {u U : State} (hvm : u.vm.Alike U.vm) (he : u.vm = U.vm) (h : xKn G u) : xKn G U := ⟨va_K.moved hvm h.1, fun t ty ht => ⟨arrOfT_moved hvm (h.2.1 t ty ht).1, (h.2.1 t ty ht).2.moved hvm⟩, State.isArrayOf_alike hvm h.2.2.1, h.2.2.2.1, over_moved hvm h.2.2.2.2.1, va_Nw.same rfl he h.2.2.2.2.2⟩
/-- the addresses that the law's walk may write: those from the base on -/
abbrev xA (G : xG) : Nat → Prop := fun q => G.2.2.1 ≤ q
theorem xad_inj {G : xG} (hb : G.2.2.2.1 < G.2.2.1) {a b : Nat} (h : xad G a = xad G b) : a = b := by
  cases a <;> cases b <;> simp [xad] at h ⊢ <;> omega
theorem xad_base {G : xG} {a : Nat} (h : a ≠ 0) : G.2.2.1 ≤ xad G a := by
  cases a with
  | zero => exact absurd rfl h
  | succ a => exact Nat.le_add_right _ _
theorem xMt.put {T : xT} {G : xG} {h h' : xH} {H H1 : Heap} {a : Nat} {e0 e : xE} (hM : xMt T G h H) (ha : xrd T h a = some e0) (ha0 : a ≠ 0) (he9 : ∀ (n : Nat) (f : Nat → xV), e ≠ .inr (9, n, f)) (z : H1.size = H.size) (oq : ∀ q : Nat, q ≠ xad G a → H1[q]? = H[q]?) (e1 : xrd T h' a = some e) (e2 : ∀ b, b ≠ a → xrd T h' b = xrd T h b) (e3 : h'.2.2 = h.2.2) (he : xat G (xad G a) e H1) : xMt T G h' H1 := by
  refine ⟨hM.1, by rw [e3]; exact hM.2.1, by rw [z, e3]; exact hM.2.2.1, fun q e' hq => ?_⟩
  by_cases hqa : q = a
  · subst hqa
    rw [e1] at hq
    cases hq
    exact ⟨he, ⟨fun q0 => absurd q0 ha0, fun ⟨n, f, q0⟩ => absurd q0 (he9 n f)⟩⟩
  · rw [e2 q hqa] at hq
    have h1 := hM.2.2.2 q e' hq
    exact ⟨h1.1.kept (oq _ fun q0 => hqa (xad_inj hM.1 q0)), h1.2⟩
theorem xMt.fresh {T : xT} {G : xG} {h : xH} {H : Heap} (hM : xMt T G h H) {a : Nat} (ha : h.2.2 ≤ a) : xrd T h a = none := by
  cases hx : xrd T h a with
  | none => rfl
  | some e =>
    have h1 := (hM.2.2.2 a e hx).1.lt
    rw [hM.2.2.1] at h1
    have h2 := hM.2.1
    obtain ⟨x, hx1⟩ : ∃ x, h.2.2 = x + 1 := ⟨h.2.2 - 1, by omega⟩
    obtain ⟨y, hy1⟩ : ∃ y, a = y + 1 := ⟨a - 1, by omega⟩
    rw [hx1, hy1] at h1
    simp only [xad] at h1
    omega
theorem xMt.freshT {T : xT} {G : xG} {h : xH} {H : Heap} (hM : xMt T G h H) {a : Nat} (ha : h.2.2 ≤ a) : T a = none := by
  have := hM.fresh ha
  unfold xrd at this
  cases hT : T a with
  | none => rfl
  | some d => rw [hT] at this; cases this
theorem xad_succ {G : xG} {a : Nat} (h : 1 ≤ a) : xad G (a + 1) = xad G a + 1 := by
  obtain ⟨x, rfl⟩ : ∃ x, a = x + 1 := ⟨a - 1, by omega⟩
  simp [xad]; omega
theorem xad_add {G : xG} {a : Nat} (h : 1 ≤ a) (k : Nat) : xad G (a + k) = xad G a + k := by
  obtain ⟨x, rfl⟩ : ∃ x, a = x + 1 := ⟨a - 1, by omega⟩
  rw [show x + 1 + k = (x + k) + 1 by omega]
  simp [xad]; omega
theorem xMt.push {T : xT} {G : xG} {h : xH} {H H1 : Heap} {e : xE} (hM : xMt T G h H) (he9 : ∀ (n : Nat) (f : Nat → xV), e ≠ .inr (9, n, f)) (z : H1.size = H.size + 1) (oq : ∀ q : Nat, q < H.size → H1[q]? = H[q]?) (he : xat G H.size e H1) : xMt T G (h.1, xup h.2.1 h.2.2 (some e), h.2.2 + 1) H1 := by
  refine ⟨hM.1, Nat.le_succ_of_le hM.2.1, by rw [z, hM.2.2.1]; exact (xad_succ hM.2.1).symm, fun q e' hq => ?_⟩
  by_cases hqa : q = h.2.2
  · subst hqa
    unfold xrd at hq
    rw [hM.freshT (Nat.le_refl _)] at hq
    simp only [xup_at] at hq
    cases hq
    rw [← hM.2.2.1]
    exact ⟨he, ⟨fun q0 => absurd hM.2.1 (by omega), fun ⟨n, f, q0⟩ => absurd q0 (he9 n f)⟩⟩
  · have hq' : xrd T h q = some e' := by
      unfold xrd at hq ⊢
      cases hT : T q with
      | none => rw [hT] at hq; simp only [xup_ne hqa] at hq; exact hq
      | some d => rw [hT] at hq; exact hq
    have h1 := hM.2.2.2 q e' hq'
    exact ⟨h1.1.kept (oq _ h1.1.lt), h1.2⟩
/-- a field written: the new heap -/
def xwf (T : xT) (h : xH) (a ci kf : Nat) (v : xV) (K : xH → Prop) : Prop := match h with
  | (M, D, nx) => match T a with
    | some (.inl (c, ds)) => cond (Nat.beq c ci) (match ds[kf]?, v with
      | some (.inr false), .inl z => K (xup M a (xup (M a) kf z), D, nx)
      | some (.inr true), .inr (.inl z) => K (xup M a (xup (M a) kf z), D, nx)
      | _, _ => False) False
    | some (.inr _) => False
    | none => match D a with
      | some (.inl (c, fs)) => cond (Nat.beq c ci && Nat.blt kf fs.length) (K (M, xup D a (some (.inl (c, fs.set kf v))), nx)) False
      | _ => False
/-- an element written -/
def xwa (T : xT) (h : xH) (a k : Nat) (v : xV) (K : xH → Prop) : Prop := match h with
  | (M, D, nx) => match T a with
    | some (.inr (t, _, none)) => match t, v with
      | 0, .inl z => K (xup M a (xup (M a) k z), D, nx)
      | 1, .inr (.inl z) => K (xup M a (xup (M a) k z), D, nx)
      | _, _ => False
    | some _ => False
    | none => match D a with
      | some (.inr (t, n, f)) => K (M, xup D a (some (.inr (t, n, xup f k v))), nx)
      | _ => False
theorem xrd_other {T : xT} {h h' : xH} {a b : Nat} (hn : b ≠ a) (h1 : h'.1 b = h.1 b) (h2 : h'.2.1 b = h.2.1 b) : xrd T h' b = xrd T h b := by
  unfold xrd
  cases T b with
  | none => exact h2
  | some d =>
    have e1 : ∀ k, h'.1 b k = h.1 b k := fun k => by rw [h1]
    have e2 : ∀ (k : Nat) (ds : List xDf), xdl h'.1 b k ds = xdl h.1 b k ds := by
      intro k ds
      induction ds generalizing k with
      | nil => rfl
      | cons d ds ih =>
        simp only [xdl, ih]
        rcases d with r | (_ | _) <;> simp [xdv, e1]
    rcases d with ⟨ci, ds⟩ | ⟨t, n, r⟩
    · simp [xde, e2]
    · simp only [xde]
      cases r with
      | some r => rfl
      | none =>
        have : xda h'.1 b t none = xda h.1 b t none := by
          unfold xda
          simp only [h1]
        rw [this]
theorem xdl_len (M : xM) (a : Nat) : ∀ (k : Nat) (ds : List xDf), (xdl M a k ds).length = ds.length
  | _, [] => rfl
  | k, _ :: ds => by simp [xdl, xdl_len M a (k + 1) ds]
theorem xdl_get (M : xM) (a : Nat) : ∀ (k : Nat) (ds : List xDf) (j : Nat), (xdl M a k ds)[j]? = ds[j]?.map (xdv M a (k + j))
  | _, [], j => by simp [xdl]
  | k, d :: ds, 0 => by simp [xdl]
  | k, d :: ds, j + 1 => by
    simp only [xdl, List.getElem?_cons_succ]
    rw [xdl_get M a (k + 1) ds j, show k + 1 + j = k + (j + 1) by omega]
theorem xdl_set (M : xM) (a : Nat) (ds : List xDf) (kf : Nat) (z : Int) (v : xV) (hd : ds[kf]?.map (xdv (xup M a (xup (M a) kf z)) a kf) = some v) : xdl (xup M a (xup (M a) kf z)) a 0 ds = (xdl M a 0 ds).set kf v := by
  apply List.ext_getElem?
  intro j
  rw [xdl_get, List.getElem?_set, xdl_len, xdl_get]
  by_cases hj : kf = j
  · subst hj
    have hlt : kf < ds.length := by
      rcases Nat.lt_or_ge kf ds.length with q | q
      · exact q
      · rw [List.getElem?_eq_none q] at hd; cases hd
    rw [if_pos rfl, if_pos hlt, Nat.zero_add]
    exact hd
  · rw [if_neg hj]
    cases ds[j]? with
    | none => rfl
    | some d =>
      simp only [Option.map_some, Nat.zero_add]
      rcases d with r | (_ | _) <;> simp [xdv, xup_at, xup_ne (Ne.symm hj)]
theorem xbeq {a b : Nat} (h : Nat.beq a b = true) : a = b := Nat.eq_of_beq_eq_true h
theorem xcond {b : Bool} {A : Prop} (h : cond b A False) : b = true ∧ A := by
  cases b with
  | true => exact ⟨rfl, h⟩
  | false => exact h.elim
theorem xwf_spec {T : xT} {h : xH} {a ci kf : Nat} {v : xV} {K : xH → Prop} (hw : xwf T h a ci kf v K) : ∃ (fs : List xV) (h' : xH), xrd T h a = some (.inl (ci, fs)) ∧ kf < fs.length ∧ xrd T h' a = some (.inl (ci, fs.set kf v)) ∧ (∀ b, b ≠ a → xrd T h' b = xrd T h b) ∧ h'.2.2 = h.2.2 ∧ K h' := by
  obtain ⟨M, D, nx⟩ := h
  simp only [xwf] at hw
  cases hT : T a with
  | some d =>
    rw [hT] at hw
    rcases d with ⟨c, ds⟩ | d
    · simp only at hw
      have hc := (xcond hw).1
      replace hw := (xcond hw).2
      obtain rfl := xbeq hc
      have hlen : ∀ {d : xDf}, ds[kf]? = some d → kf < ds.length := fun {d} q => (List.getElem?_eq_some_iff.mp q).1
      have go : ∀ (z : Int) (d : xDf), ds[kf]? = some d → xdv (xup M a (xup (M a) kf z)) a kf d = v → K (xup M a (xup (M a) kf z), D, nx) → ∃ (fs : List xV) (h' : xH), xrd T (M, D, nx) a = some (.inl (c, fs)) ∧ kf < fs.length ∧ xrd T h' a = some (.inl (c, fs.set kf v)) ∧ (∀ b, b ≠ a → xrd T h' b = xrd T (M, D, nx) b) ∧ h'.2.2 = nx ∧ K h' := by
        intro z d hd hv hk
        refine ⟨xdl M a 0 ds, (xup M a (xup (M a) kf z), D, nx), ?_, ?_, ?_, ?_, rfl, hk⟩
        · simp [xrd, hT, xde]
        · rw [xdl_len]; exact hlen hd
        · simp only [xrd, hT, xde]
          rw [xdl_set M a ds kf z v (by rw [hd, Option.map_some, hv])]
        · intro b hb
          exact xrd_other hb (xup_ne hb) rfl
      cases hd : ds[kf]? with
      | none => rw [hd] at hw; exact hw.elim
      | some d =>
        rw [hd] at hw
        rcases d with r | (_ | _) <;> rcases v with z | z | r2 <;> simp only at hw
        · exact go z _ hd (by simp [xdv, xup_at]) hw
        · exact go z _ hd (by simp [xdv, xup_at]) hw
    · exact hw.elim
  | none =>
    rw [hT] at hw
    simp only at hw
    cases hD : D a with
    | none => rw [hD] at hw; exact hw.elim
    | some e =>
      rw [hD] at hw
      rcases e with ⟨c, fs⟩ | e
      · simp only at hw
        have hc := (xcond hw).1
        replace hw := (xcond hw).2
        rw [Bool.and_eq_true] at hc
        obtain rfl := xbeq hc.1
        refine ⟨fs, (M, xup D a (some (.inl (c, fs.set kf v))), nx), ?_, by simpa [Nat.blt_eq] using hc.2, ?_, ?_, rfl, hw⟩
        · simp [xrd, hT, hD]
        · simp [xrd, hT, xup_at]
        · intro b hb
          exact xrd_other hb rfl (xup_ne hb)
      · exact hw.elim
theorem xwa_spec {T : xT} {h : xH} {a k : Nat} {v : xV} {K : xH → Prop} {t n : Nat} {f : Nat → xV} (ha : xrd T h a = some (.inr (t, n, f))) (hw : xwa T h a k v K) : ∃ h' : xH, xrd T h' a = some (.inr (t, n, xup f k v)) ∧ (∀ b, b ≠ a → xrd T h' b = xrd T h b) ∧ h'.2.2 = h.2.2 ∧ K h' := by
  obtain ⟨M, D, nx⟩ := h
  simp only [xwa] at hw
  cases hT : T a with
  | some d =>
    rw [hT] at hw
    rcases d with d | ⟨t1, n1, r⟩
    · exact hw.elim
    · cases r with
      | some r => exact hw.elim
      | none =>
        simp only at hw
        have hf : t1 = t ∧ n1 = n ∧ xda M a t1 none = f := by
          simp only [xrd, hT, xde] at ha
          have := Option.some.inj ha
          have := Sum.inr.inj this
          simp only [Prod.mk.injEq] at this
          exact this
        obtain ⟨rfl, rfl, rfl⟩ := hf
        rcases t1 with _ | _ | t1 <;> rcases v with z | z | r2 <;> simp only at hw
        · refine ⟨(xup M a (xup (M a) k z), D, nx), ?_, fun b hb => xrd_other hb (xup_ne hb) rfl, rfl, hw⟩
          simp only [xrd, hT, xde]
          refine congrArg (fun f : Nat → xV => (some (Sum.inr (0, n1, f)) : Option xE)) (funext fun j => ?_)
          simp only [xda, xup_at]
          by_cases hj : j = k <;> simp [xup, hj]
        · refine ⟨(xup M a (xup (M a) k z), D, nx), ?_, fun b hb => xrd_other hb (xup_ne hb) rfl, rfl, hw⟩
          simp only [xrd, hT, xde]
          refine congrArg (fun f : Nat → xV => (some (Sum.inr (1, n1, f)) : Option xE)) (funext fun j => ?_)
          simp only [xda, xup_at]
          by_cases hj : j = k <;> simp [xup, hj]
  | none =>
    rw [hT] at hw
    simp only at hw
    have hD : D a = some (.inr (t, n, f)) := by
      simp only [xrd, hT] at ha
      exact ha
    rw [hD] at hw
    simp only at hw
    refine ⟨(M, xup D a (some (.inr (t, n, xup f k v))), nx), ?_, fun b hb => xrd_other hb rfl (xup_ne hb), rfl, hw⟩
    simp [xrd, hT, xup_at]
/-! locals -/
def xls (G : xG) : Nat → xLs → List (Nat × Value)
  | _, [] => []
  | i, none :: L => xls G (i + 1) L
  | i, some v :: L => (i, xc G v) :: xls G (i + 1) L
theorem xls_mem {G : xG} : ∀ {L : xLs} {i : Nat} {q : Nat × Value}, q ∈ xls G i L ↔ ∃ (j : Nat) (v : xV), L[j]? = some (some v) ∧ q = (i + j, xc G v)
  | [], i, q => by simp [xls]
  | none :: L, i, q => by
    rw [xls, xls_mem]
    constructor
    · rintro ⟨j, v, h1, rfl⟩
      exact ⟨j + 1, v, by simpa using h1, by rw [show i + 1 + j = i + (j + 1) by omega]⟩
    · rintro ⟨j, v, h1, rfl⟩
      cases j with
      | zero => simp at h1
      | succ j => exact ⟨j, v, by simpa using h1, by rw [show i + (j + 1) = i + 1 + j by omega]⟩
  | some w :: L, i, q => by
    rw [xls, List.mem_cons, xls_mem]
    constructor
    · rintro (rfl | ⟨j, v, h1, rfl⟩)
      · exact ⟨0, w, rfl, rfl⟩
      · exact ⟨j + 1, v, by simpa using h1, by rw [show i + 1 + j = i + (j + 1) by omega]⟩
    · rintro ⟨j, v, h1, rfl⟩
      cases j with
      | zero =>
        simp at h1
        subst h1
        exact Or.inl rfl
      | succ j => exact Or.inr ⟨j, v, by simpa using h1, by rw [show i + (j + 1) = i + 1 + j by omega]⟩
/-- a local of one word is written: the new list goes to K, spelled out; a long is gone when its second half is written over -/
def xst : xLs → Nat → xV → (xLs → Prop) → Prop
  | [], _, _, _ => False
  | _ :: L, 0, v, K => K (some v :: L)
  | a :: L, i + 1, v, K => match i, a with
    | 0, some (.inr (.inl _)) => xst L 0 v fun L' => K (none :: L')
    | _, _ => xst L i v fun L' => K (a :: L')
/-- a long is written -/
def xst2 : xLs → Nat → Int → (xLs → Prop) → Prop
  | [], _, _, _ => False
  | [_], _, _, _ => False
  | _ :: _ :: L, 0, z, K => K (some (xJ z) :: none :: L)
  | a :: b :: L, i + 1, z, K => match i, a with
    | 0, some (.inr (.inl _)) => xst2 (b :: L) 0 z fun L' => K (none :: L')
    | _, _ => xst2 (b :: L) i z fun L' => K (a :: L')
theorem xst_spec : ∀ {L : xLs} {i : Nat} {v : xV} {K : xLs → Prop}, xst L i v K → i < L.length ∧ ∃ L' : xLs, K L' ∧ L'.length = L.length ∧ ∀ (j : Nat) (w : xV), L'[j]? = some (some w) → (j = i ∧ w = v) ∨ (j ≠ i ∧ L[j]? = some (some w) ∧ (j + 1 = i → ∀ z, w ≠ xJ z))
  | [], i, v, K, h => h.elim
  | a :: L, 0, v, K, h => by
    refine ⟨by simp, _, h, by simp, fun j w hj => ?_⟩
    cases j with
    | zero => simp at hj; exact Or.inl ⟨rfl, hj.symm⟩
    | succ j => exact Or.inr ⟨by omega, by simpa using hj, fun q => by omega⟩
  | a :: L, i + 1, v, K, h => by
    have go : ∀ (a' : Option xV), (a' = none ∨ (a' = a ∧ (i = 0 → ∀ z, a ≠ some (xJ z)))) → xst L i v (fun L' => K (a' :: L')) → i + 1 < (a :: L).length ∧ ∃ L' : xLs, K L' ∧ L'.length = (a :: L).length ∧ ∀ (j : Nat) (w : xV), L'[j]? = some (some w) → (j = i + 1 ∧ w = v) ∨ (j ≠ i + 1 ∧ (a :: L)[j]? = some (some w) ∧ (j + 1 = i + 1 → ∀ z, w ≠ xJ z)) := by
      intro a' ha' h
      obtain ⟨h1, L', h2, h3, h4⟩ := xst_spec (L := L) h
      refine ⟨by simp; omega, _, h2, by simp [h3], fun j w hj => ?_⟩
      cases j with
      | zero =>
        simp at hj
        rcases ha' with ha' | ⟨ha', hz⟩
        · subst ha'; cases hj
        · subst ha'
          subst hj
          exact Or.inr ⟨by omega, rfl, fun q z e => hz (by omega) z (by rw [e])⟩
      | succ j =>
        have hj' : L'[j]? = some (some w) := by simpa using hj
        rcases h4 j w hj' with ⟨q1, q2⟩ | ⟨q1, q2, q3⟩
        · exact Or.inl ⟨by omega, q2⟩
        · exact Or.inr ⟨by omega, by simpa using q2, fun q => q3 (by omega)⟩
    unfold xst at h
    split at h
    · exact go none (Or.inl rfl) h
    · rename_i hne
      refine go a (Or.inr ⟨rfl, fun hi z e => ?_⟩) h
      subst hi
      exact hne z rfl e
theorem xst2_spec : ∀ {L : xLs} {i : Nat} {z : Int} {K : xLs → Prop}, xst2 L i z K → i + 1 < L.length ∧ ∃ L' : xLs, K L' ∧ L'.length = L.length ∧ ∀ (j : Nat) (w : xV), L'[j]? = some (some w) → (j = i ∧ w = xJ z) ∨ (j ≠ i ∧ j ≠ i + 1 ∧ L[j]? = some (some w) ∧ (j + 1 = i → ∀ z, w ≠ xJ z))
  | [], i, z, K, h => by cases i <;> exact h.elim
  | [a], i, z, K, h => by
    rcases i with _ | i <;> exact h.elim
  | a :: b :: L, 0, z, K, h => by
    refine ⟨by simp, _, h, by simp, fun j w hj => ?_⟩
    match j, hj with
    | 0, hj => simp at hj; exact Or.inl ⟨rfl, hj.symm⟩
    | 1, hj => simp at hj
    | j + 2, hj => exact Or.inr ⟨by omega, by omega, by simpa using hj, fun q => by omega⟩
  | a :: b :: L, i + 1, z, K, h => by
    have go : ∀ (a' : Option xV), (a' = none ∨ (a' = a ∧ (i = 0 → ∀ z, a ≠ some (xJ z)))) → xst2 (b :: L) i z (fun L' => K (a' :: L')) → i + 1 + 1 < (a :: b :: L).length ∧ ∃ L' : xLs, K L' ∧ L'.length = (a :: b :: L).length ∧ ∀ (j : Nat) (w : xV), L'[j]? = some (some w) → (j = i + 1 ∧ w = xJ z) ∨ (j ≠ i + 1 ∧ j ≠ i + 1 + 1 ∧ (a :: b :: L)[j]? = some (some w) ∧ (j + 1 = i + 1 → ∀ z, w ≠ xJ z)) := by
      intro a' ha' h
      obtain ⟨h1, L', h2, h3, h4⟩ := xst2_spec (L := b :: L) h
      refine ⟨by simp at h1 ⊢; omega, _, h2, by simp [h3], fun j w hj => ?_⟩
      cases j with
      | zero =>
        simp at hj
        rcases ha' with ha' | ⟨ha', hz⟩
        · subst ha'; cases hj
        · subst ha'
          subst hj
          exact Or.inr ⟨by omega, by omega, rfl, fun q z e => hz (by omega) z (by rw [e])⟩
      | succ j =>
        have hj' : L'[j]? = some (some w) := by simpa using hj
        rcases h4 j w hj' with ⟨q1, q2⟩ | ⟨q1, q2, q3, q4⟩
        · exact Or.inl ⟨by omega, q2⟩
        · exact Or.inr ⟨by omega, by omega, by simpa using q3, fun q => q4 (by omega)⟩
    unfold xst2 at h
    split at h
    · exact go none (Or.inl rfl) h
    · rename_i hne
      refine go a (Or.inr ⟨rfl, fun hi z e => ?_⟩) h
      subst hi
      exact hne z rfl e
theorem xl_get {G : xG} {ls : Array Slot} {nL : Nat} {L : xLs} (hl : lv_has ls nL (xls G 0 L)) {i : Nat} {v : xV} (h : L[i]? = some (some v)) : ls[i]? = some (.val (xc G v)) :=
  hl.2.2 (i, xc G v) (xls_mem.mpr ⟨i, v, h, by rw [Nat.zero_add]⟩)
theorem xcat1 {G : xG} {v : xV} (h : ∀ z, v ≠ xJ z) : (xc G v).category = 1 := by
  rcases v with z | z | z
  · rfl
  · exact absurd rfl (h z)
  · cases z <;> rfl
theorem xl_st {G : xG} {ls : Array Slot} {nL : Nat} {L L' : xLs} {i : Nat} {v : xV} (hL : ∀ (j : Nat) (w : xV), L'[j]? = some (some w) → (j = i ∧ w = v) ∨ (j ≠ i ∧ L[j]? = some (some w) ∧ (j + 1 = i → ∀ z, w ≠ xJ z))) (h : lv_has ls nL ((i, xc G v) :: (xls G 0 L).filter (fun q => !(q.1 == i) && !(q.1 + 1 == i && q.2.category == 2)))) : lv_has ls nL (xls G 0 L') := by
  refine ⟨h.1, h.2.1, fun q hq => h.2.2 q ?_⟩
  obtain ⟨j, w, h1, rfl⟩ := xls_mem.mp hq
  rw [Nat.zero_add]
  rcases hL j w h1 with ⟨rfl, rfl⟩ | ⟨q1, q2, q3⟩
  · exact List.mem_cons_self
  · refine List.mem_cons_of_mem _ (List.mem_filter.mpr ⟨xls_mem.mpr ⟨j, w, q2, by rw [Nat.zero_add]⟩, ?_⟩)
    simp only [Bool.and_eq_true, Bool.not_eq_true', beq_eq_false_iff_ne, ne_eq, Bool.and_eq_false_iff]
    refine ⟨q1, ?_⟩
    by_cases hj : j + 1 = i
    · exact Or.inr (by rw [xcat1 (q3 hj)]; decide)
    · exact Or.inl hj
theorem xl_st2 {G : xG} {ls : Array Slot} {nL : Nat} {L L' : xLs} {i : Nat} {z : Int} (hL : ∀ (j : Nat) (w : xV), L'[j]? = some (some w) → (j = i ∧ w = xJ z) ∨ (j ≠ i ∧ j ≠ i + 1 ∧ L[j]? = some (some w) ∧ (j + 1 = i → ∀ z, w ≠ xJ z))) (h : lv_has ls nL ((i, xc G (xJ z)) :: (xls G 0 L).filter (fun q => !(q.1 == i) && (!(q.1 == i + 1) && !(q.1 + 1 == i && q.2.category == 2))))) : lv_has ls nL (xls G 0 L') := by
  refine ⟨h.1, h.2.1, fun q hq => h.2.2 q ?_⟩
  obtain ⟨j, w, h1, rfl⟩ := xls_mem.mp hq
  rw [Nat.zero_add]
  rcases hL j w h1 with ⟨rfl, rfl⟩ | ⟨q1, q2, q3, q4⟩
  · exact List.mem_cons_self
  · refine List.mem_cons_of_mem _ (List.mem_filter.mpr ⟨xls_mem.mpr ⟨j, w, q3, by rw [Nat.zero_add]⟩, ?_⟩)
    simp only [Bool.and_eq_true, Bool.not_eq_true', beq_eq_false_iff_ne, ne_eq, Bool.and_eq_false_iff]
    refine ⟨q1, q2, ?_⟩
    by_cases hj : j + 1 = i
    · exact Or.inr (by rw [xcat1 (q4 hj)]; decide)
    · exact Or.inl hj
