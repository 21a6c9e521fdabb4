/-! arrays, makings, returns -/
section XHEAP
variable {T : xT} {p : Program} {l : Launch} {e : Env} {R : Room} {s : State} {m : MethodId} {args : Array Value} {below : List Frame} {meth : Method} {c : Code} {Q : State → Prop} {cc : ByteArray} {G : xG} {nL : Nat} {pc : Nat} {L : xLs} {st : List xV} {h : xH} {k n : Nat}
/-- what the machine must know of an array's cell -/
theorem xarr {H : Heap} (hK : xKn G s) (hM : xMt T G h H) {a t N : Nat} {f : Nat → xV} {ty : FieldType} (ha : xrd T h a = some (.inr (t, N, f))) (ht : (t = 9 ∧ ty = .int) ∨ (t ≠ 9 ∧ xTys[t]? = some ty)) : ∃ cell : Cell, H[xad G a]? = some cell ∧ s.isArrayOf cell ty ∧ cell.vm ≠ .unknown ∧ cell.slots.size = N ∧ (∀ j, j < N → cell.slots[j]? = some (xc G (f j))) ∧ (t ≠ 9 → cell = arrV (G.2.1 t) N (fun j => xc G (f j))) := by
  have h1 := (hM.2.2.2 a _ ha).1
  unfold xat at h1
  rcases ht with ⟨rfl, rfl⟩ | ⟨h9, ht⟩
  · simp only [if_true] at h1
    exact ⟨_, h1.1, hK.2.2.1, hK.2.2.2.1, h1.2.1, h1.2.2, fun q => absurd rfl q⟩
  · simp only [if_neg h9] at h1
    exact ⟨_, h1, (hK.2.1 t _ ht).1 N _, fun q => (by cases q), arrV_size _ _ _, fun j hj => arrV_read _ _ hj, fun _ => rfl⟩
theorem xw_alen (hx : p.tables.exec = Jvm.exec) (hb : c.code = cc) (hK : xKn G s) (hd : decode cc pc = .ok (.arraylength, 1)) {a t N : Nat} {f : Nat → xV} {ty : FieldType} (ha : xrd T h a = some (.inr (t, N, f))) (ht : (t = 9 ∧ ty = .int) ∨ (t ≠ 9 ∧ xTys[t]? = some ty)) (kk : xW T p l e R s m args below meth c Q G nL (pc + 1) L (xI (N : Int) :: st) h k n) : xW T p l e R s m args below meth c Q G nL pc L (xR (some a) :: st) h k n := by
  intro H locs ls hM hS hL hl
  obtain ⟨cell, q1, q2, q3, q4, -, -⟩ := xarr hK hM ha ht
  exact W.alen (n := Int32.ofInt N) hx hb q1 q2 (by rw [q4]; rfl) rfl rfl hd (kk H locs ls hM hS hL hl)
theorem xw_iald (hx : p.tables.exec = Jvm.exec) (hb : c.code = cc) (hK : xKn G s) (hd : decode cc pc = .ok (.iaload, 1)) {a t N : Nat} {f : Nat → xV} {z : Int} (ha : xrd T h a = some (.inr (t, N, f))) (ht : (t = 9 ∧ FieldType.int = .int) ∨ (t ≠ 9 ∧ xTys[t]? = some .int)) (h0 : 0 ≤ z) (h1 : z < N) (h2 : z < 2147483648) (kk : xW T p l e R s m args below meth c Q G nL (pc + 1) L (f z.toNat :: st) h k n) : xW T p l e R s m args below meth c Q G nL pc L (xI z :: xR (some a) :: st) h k n := by
  intro H locs ls hM hS hL hl
  obtain ⟨cell, q1, q2, q3, q4, q5, -⟩ := xarr hK hM ha ht
  refine W.iald (v := xc G (f z.toNat)) hx hb q1 q2 q3 (by rw [q4]; exact xi_in h0 h1 h2) ?_ rfl rfl hd (kk H locs ls hM hS hL hl)
  rw [xi_cl h0 h2]; exact q5 _ (by omega)
theorem xw_lald (hx : p.tables.exec = Jvm.exec) (hb : c.code = cc) (hK : xKn G s) (hd : decode cc pc = .ok (.laload, 1)) {a t N : Nat} {f : Nat → xV} {z : Int} (ha : xrd T h a = some (.inr (t, N, f))) (ht : (t = 9 ∧ FieldType.long = .int) ∨ (t ≠ 9 ∧ xTys[t]? = some .long)) (h0 : 0 ≤ z) (h1 : z < N) (h2 : z < 2147483648) (kk : xW T p l e R s m args below meth c Q G nL (pc + 1) L (f z.toNat :: st) h k n) : xW T p l e R s m args below meth c Q G nL pc L (xI z :: xR (some a) :: st) h k n := by
  intro H locs ls hM hS hL hl
  obtain ⟨cell, q1, q2, q3, q4, q5, -⟩ := xarr hK hM ha ht
  refine W.lald (v := xc G (f z.toNat)) hx hb q1 q2 q3 (by rw [q4]; exact xi_in h0 h1 h2) ?_ rfl rfl hd (kk H locs ls hM hS hL hl)
  rw [xi_cl h0 h2]; exact q5 _ (by omega)
theorem xw_aald (hx : p.tables.exec = Jvm.exec) (hb : c.code = cc) (hK : xKn G s) (hd : decode cc pc = .ok (.aaload, 1)) {a t N : Nat} {f : Nat → xV} {ty : FieldType} {z : Int} (ha : xrd T h a = some (.inr (t, N, f))) (ht : (t = 9 ∧ ty = .int) ∨ (t ≠ 9 ∧ xTys[t]? = some ty)) (href : ty.isReference = true) (h0 : 0 ≤ z) (h1 : z < N) (h2 : z < 2147483648) (kk : xW T p l e R s m args below meth c Q G nL (pc + 1) L (f z.toNat :: st) h k n) : xW T p l e R s m args below meth c Q G nL pc L (xI z :: xR (some a) :: st) h k n := by
  intro H locs ls hM hS hL hl
  obtain ⟨cell, q1, q2, q3, q4, q5, -⟩ := xarr hK hM ha ht
  refine W.aald (v := xc G (f z.toNat)) (ty := ty) hx hb q1 q2 href q3 (by rw [q4]; exact xi_in h0 h1 h2) ?_ rfl rfl hd (kk H locs ls hM hS hL hl)
  rw [xi_cl h0 h2]; exact q5 _ (by omega)
theorem xat_ast {q t N i : Nat} {f : Nat → xV} {v : xV} {H1 : Heap} (ht : t ≠ 9) (e : H1[q]? = some ((arrV (G.2.1 t) N (fun j => xc G (f j))).setSlot i (xc G v))) : xat G q (.inr (t, N, xup f i v)) H1 := by
  unfold xat
  simp only [if_neg ht]
  rw [e, arrV_store]
  congr 2
  funext q
  by_cases hq : q = i
  · subst hq; simp [updV, xup]
  · simp [updV, xup, hq]
theorem xMt.ne0 {H : Heap} (hM : xMt T G h H) {a t N : Nat} {f : Nat → xV} (ha : xrd T h a = some (.inr (t, N, f))) (ht : t ≠ 9) : a ≠ 0 := fun q => by
  obtain ⟨n', f', q'⟩ := (hM.2.2.2 a _ ha).2.mp q
  cases q'
  exact ht rfl
theorem xw_iast (hx : p.tables.exec = Jvm.exec) (hb : c.code = cc) (hK : xKn G s) (hd : decode cc pc = .ok (.iastore, 1)) {a t N : Nat} {f : Nat → xV} {z v : Int} (ha : xrd T h a = some (.inr (t, N, f))) (h9 : t ≠ 9) (ht : xTys[t]? = some .int) (h0 : 0 ≤ z) (h1 : z < N) (h2 : z < 2147483648) (kk : xwa T h a z.toNat (xI v) fun h' => xW T p l e R s m args below meth c Q G nL (pc + 1) L st h' k n) : xW T p l e R s m args below meth c Q G nL pc L (xI v :: xI z :: xR (some a) :: st) h k n := by
  intro H locs ls hM hS hL hl
  obtain ⟨cell, q1, q2, q3, q4, q5, q6⟩ := xarr hK hM ha (Or.inr ⟨h9, ht⟩)
  obtain ⟨h', e1', e2', e3', kk⟩ := xwa_spec ha kk
  have ha0 := hM.ne0 ha h9
  refine W.iast hx hb q1 q2 q3 (by rw [q4]; exact xi_in h0 h1 h2) rfl rfl hd fun H1 e1 z1 oq => ?_
  rw [xi_cl h0 h2] at e1
  rw [q6 h9] at e1
  exact kk H1 _ ls (hM.put ha ha0 (fun n f q => by cases q; exact h9 rfl) z1 oq e1' e2' e3' (xat_ast h9 e1)) (hS.put z1 oq (xad_base ha0)) hL hl
theorem xw_last (hx : p.tables.exec = Jvm.exec) (hb : c.code = cc) (hK : xKn G s) (hd : decode cc pc = .ok (.lastore, 1)) {a t N : Nat} {f : Nat → xV} {z v : Int} (ha : xrd T h a = some (.inr (t, N, f))) (h9 : t ≠ 9) (ht : xTys[t]? = some .long) (h0 : 0 ≤ z) (h1 : z < N) (h2 : z < 2147483648) (kk : xwa T h a z.toNat (xJ v) fun h' => xW T p l e R s m args below meth c Q G nL (pc + 1) L st h' k n) : xW T p l e R s m args below meth c Q G nL pc L (xJ v :: xI z :: xR (some a) :: st) h k n := by
  intro H locs ls hM hS hL hl
  obtain ⟨cell, q1, q2, q3, q4, q5, q6⟩ := xarr hK hM ha (Or.inr ⟨h9, ht⟩)
  obtain ⟨h', e1', e2', e3', kk⟩ := xwa_spec ha kk
  have ha0 := hM.ne0 ha h9
  refine W.last hx hb q1 q2 q3 (by rw [q4]; exact xi_in h0 h1 h2) rfl rfl hd fun H1 e1 z1 oq => ?_
  rw [xi_cl h0 h2] at e1
  rw [q6 h9] at e1
  exact kk H1 _ ls (hM.put ha ha0 (fun n f q => by cases q; exact h9 rfl) z1 oq e1' e2' e3' (xat_ast h9 e1)) (hS.put z1 oq (xad_base ha0)) hL hl
/-- a class that is made: its number of fields, and what they hold at first -/
def xNw (own : String) (idx ci : Nat) (fs : List xV) : Prop := ∃ (C : String) (F : u_T) (N : Nat) (tys : Nat → FieldType), xCl[ci]? = some (C, F, N) ∧ (∀ w ∈ u_ws C F N, w ∈ xTB) ∧ (∀ k, k < N → parseFieldDescriptor (F k).2.2.1 = some (tys k)) ∧ Cond.classLink own idx C ∈ xTB ∧ Cond.instantiable C N ∈ xTB ∧ Cond.initialized C ∈ xTB ∧ fs.length = N ∧ ∀ (G : xG) (j : Nat), j < N → defaultValue (tys j) = vp_V (fs.map (xc G)) j
theorem xw_new (hx : p.tables.exec = Jvm.exec) (hb : c.code = cc) (hts : ∀ w ∈ xTB, w.before args s = true) {own : String} (hown : s.vm.findClass own = some m.cls) (hK : xKn G s) (hbase : G.2.2.1 ≤ s.heap.size) {idx ci : Nat} {fs : List xV} (hN : xNw own idx ci fs) (hd : decode cc pc = .ok (.new idx, 3)) (hcells : k + 1 ≤ R.cells) (hslots : n + fs.length ≤ R.slots) (kk : xW T p l e R s m args below meth c Q G nL (pc + 3) L (xR (some h.2.2) :: st) (h.1, xup h.2.1 h.2.2 (some (.inl (ci, fs))), h.2.2 + 1) (k + 1) (n + fs.length)) : xW T p l e R s m args below meth c Q G nL pc L st h k n := by
  intro H locs ls hM hS hL hl
  obtain ⟨C, F, N, tys, hc, hin, hty, w1, w2, w3, hlen, hfs⟩ := hN
  subst hlen
  have hKn := hK.1.1 ci _ hc
  refine W.newcK hx hb hown (hts _ w1) (hts _ w2) (hts _ w3) rfl hd hcells hslots hKn.2.1 rfl fun H1 kC hkC e1 z1 o1 => ?_
  have hat : xat G H.size (.inl (ci, fs)) H1 := ⟨_, hc, (u_born tys hts hin hKn hkC e1 hty).to (hfs G)⟩
  have := kk H1 locs ls (hM.push (fun n f q => by cases q) z1 o1 hat) ⟨Nat.le_trans hS.1 (by omega), fun q h1 h2 => (o1 q (Nat.lt_of_lt_of_le h1 hS.1)).trans (hS.2.1 q h1 h2), hS.2.2⟩ hL hl
  rw [List.map_cons, show xc G (xR (some h.2.2)) = .ref H.size from congrArg Value.ref hM.2.2.1.symm] at this
  exact this
theorem xw_newa (hx : p.tables.exec = Jvm.exec) (hb : c.code = cc) (hts : ∀ w ∈ xTB, w.before args s = true) (hK : xKn G s) {at_ : ArrayType} {t : Nat} {z : Int} {v0 : xV} (h9 : t ≠ 9) (ht : xTys[t]? = some (newarray.typeOf at_)) (hra : ∀ cA : ClassId, va_RA s cA (newarray.typeOf at_) → s.vm.findClass ("[" ++ (newarray.typeOf at_).toString) = some cA) (hw : Cond.arrayClass (newarray.typeOf at_) ∈ xTB) (hv0 : xc G v0 = defaultValue (newarray.typeOf at_)) (hd : decode cc pc = .ok (.newarray at_, 2)) (h0 : 0 ≤ z) (h1 : z.toNat * componentBytes (newarray.typeOf at_) ≤ 536870912) (h2 : z < 2147483648) (hcells : k + 1 ≤ R.cells) (hslots : n + z.toNat ≤ R.slots) (kk : xW T p l e R s m args below meth c Q G nL (pc + 2) L (xR (some h.2.2) :: st) (h.1, xup h.2.1 h.2.2 (some (.inr (t, z.toNat, fun _ => v0))), h.2.2 + 1) (k + 1) (n + z.toNat)) : xW T p l e R s m args below meth c Q G nL pc L (xI z :: st) h k n := by
  intro H locs ls hM hS hL hl
  refine va_newaK hx hb (hts _ hw) rfl hd rfl (xi_nn h0 h2) (xi_cl h0 h2) h1 hcells hslots rfl fun H1 cA e1 z1 o1 hAr hNm => ?_
  have hcA : cA = G.2.1 t := Option.some.inj (hNm.symm.trans (hra _ (hK.2.1 t _ ht).2))
  subst hcA
  have hat : xat G H.size (.inr (t, z.toNat, fun _ => v0)) H1 := by
    unfold xat
    simp only [if_neg h9, hv0]
    exact e1
  have := kk H1 locs ls (hM.push (fun n f q => by cases q; exact h9 rfl) z1 o1 hat) ⟨Nat.le_trans hS.1 (by omega), fun q h1 h2 => (o1 q (Nat.lt_of_lt_of_le h1 hS.1)).trans (hS.2.1 q h1 h2), hS.2.2⟩ hL hl
  rw [List.map_cons, show xc G (xR (some h.2.2)) = .ref H.size from congrArg Value.ref hM.2.2.1.symm] at this
  exact this
theorem xat_arr {q t N : Nat} {f : Nat → xV} {H : Heap} (ht : t ≠ 9) (h : H[q]? = some (arrV (G.2.1 t) N (fun j => xc G (f j)))) : xat G q (.inr (t, N, f)) H := by
  unfold xat
  simp only [if_neg ht]
  exact h
theorem arrV_congr {cI : ClassId} {N : Nat} {f g : Nat → Value} (h : ∀ j, j < N → f j = g j) : arrV cI N f = arrV cI N g := by
  unfold arrV
  have : (fun j : Fin N => f j.val) = fun j : Fin N => g j.val := funext fun j => h j.val j.isLt
  rw [this]
theorem xouter (c : ClassId) (N h0 : Nat) : ∀ i : Nat, Jvm.Free.Multi.outerC c N h0 i = arrV c N (fun j => if j < i then .ref (h0 + 1 + j) else .null)
  | 0 => by
    show ({ cls := c, slots := Array.replicate N .null, vm := .none } : Cell) = _
    rw [arrV_new]
    refine congrArg (arrV c N) (funext fun j => ?_)
    simp
  | i + 1 => by
    show (Jvm.Free.Multi.outerC c N h0 i).setSlot i (.ref (h0 + 1 + i)) = _
    rw [xouter c N h0 i, arrV_store]
    refine congrArg (arrV c N) (funext fun j => ?_)
    by_cases e : j = i
    · subst e
      simp [updV]
    · by_cases h : j < i
      · simp [updV, e, h, Nat.lt_succ_of_lt h]
      · simp [updV, e, h, show ¬ j < i + 1 by omega]
/-- y new arrays of z ints behind an array of them -/
def xgrid (D : Nat → Option xE) (a y z : Nat) : Nat → Option xE := fun b => if b = a then some (.inr (2, y, fun j => xR (some (a + 1 + j)))) else if a < b ∧ b < a + 1 + y then some (.inr (0, z, fun _ => xI 0)) else D b
theorem xw_mna (hx : p.tables.exec = Jvm.exec) (hb : c.code = cc) (hts : ∀ w ∈ xTB, w.before args s = true) {own : String} (hown : s.vm.findClass own = some m.cls) (hK : xKn G s) {idx : Nat} (w1 : Cond.classLink own idx "[[I" ∈ xTB) (w3 : Cond.arrayClass .int ∈ xTB) {y z : Int} (hd : decode cc pc = .ok (.multianewarray idx 2, 4)) (h0 : 0 ≤ y) (h1 : y ≤ 10000) (h2 : 0 ≤ z) (h3 : z ≤ 10000) (hcells : k + (1 + y.toNat) ≤ R.cells) (hslots : n + (y.toNat + y.toNat * z.toNat) ≤ R.slots) (kk : xW T p l e R s m args below meth c Q G nL (pc + 4) L (xR (some h.2.2) :: st) (h.1, xgrid h.2.1 h.2.2 y.toNat z.toNat, h.2.2 + 1 + y.toNat) (k + (1 + y.toNat)) (n + (y.toNat + y.toNat * z.toNat))) : xW T p l e R s m args below meth c Q G nL pc L (xI z :: xI y :: st) h k n := by
  intro H locs ls hM hS hL hl T0 hT Xs
  have iy := xi_cl h0 (show y < 2147483648 by omega)
  have iz := xi_cl h2 (show z < 2147483648 by omega)
  obtain ⟨vm₁, cA, comp, -, fA, fC, -, -, X', step⟩ := Xs.multianewarray2F (ty := .int) hx hown (hts _ w1) hK.2.2.2.2.1 (hts _ w3) (g := F0 m pc ls ((xI z :: xI y :: st).map (xc G))) rfl (by rw [hb]; exact hd) (n := Int32.ofInt y) (k := Int32.ofInt z) (rest := st.map (xc G)) rfl (xi_nn h0 (by omega)) (xi_nn h2 (by omega)) (by rw [iy]; omega) (by rw [iz]; show z.toNat * 4 ≤ _; omega) (by rw [iz]; omega) rfl rfl (by rw [iy]; exact hcells) (by rw [iy, iz]; exact hslots)
  rw [iy, iz] at X' step
  obtain rfl : cA = G.2.1 2 := Option.some.inj (fA.symm.trans (hK.2.1 2 _ rfl).2)
  obtain rfl : comp = G.2.1 0 := Option.some.inj (fC.symm.trans (hK.2.1 0 _ rfl).2)
  generalize hF : Jvm.Free.Multi.fill (T0.setVm vm₁) (G.2.1 2) (G.2.1 0) y.toNat z.toNat (defaultValue .int) y.toNat = F at X' step
  have hTh : (T0.setVm vm₁).heap = H := hT
  obtain ⟨f1, f2, -, -⟩ := Jvm.Free.Multi.fill_facts (T0.setVm vm₁) (G.2.1 2) (G.2.1 0) y.toNat z.toNat (defaultValue .int) y.toNat
  rw [hF, hTh] at f1 f2
  have hold : ∀ x : Nat, x < H.size → F.heap[x]? = H[x]? := fun x hx => by
    have := Jvm.Free.Multi.fill_old (T0.setVm vm₁) (G.2.1 2) (G.2.1 0) y.toNat z.toNat (defaultValue .int) (a := x) (by rw [hTh]; exact hx) y.toNat
    rw [hF, hTh] at this
    exact this
  have hrow : ∀ j : Nat, j < y.toNat → F.heap[H.size + 1 + j]? = some (arrV (G.2.1 0) z.toNat (fun _ => .int 0)) := fun j hj => by
    have := Jvm.Free.Multi.fill_inner (T0.setVm vm₁) (G.2.1 2) (G.2.1 0) y.toNat z.toNat (defaultValue .int) y.toNat j hj
    rw [hF, hTh] at this
    rw [this]
    exact congrArg some (arrV_new _ _ _)
  rw [xouter] at f2
  have hsz := hM.2.2.1
  have hpos := hM.2.1
  have hMt : xMt T G (h.1, xgrid h.2.1 h.2.2 y.toNat z.toNat, h.2.2 + 1 + y.toNat) F.heap := by
    refine ⟨hM.1, by show 1 ≤ h.2.2 + 1 + y.toNat; omega, ?_, fun q e' hq => ?_⟩
    · rw [f1, hsz]
      show xad G h.2.2 + 1 + y.toNat = xad G (h.2.2 + 1 + y.toNat)
      rw [show h.2.2 + 1 + y.toNat = h.2.2 + (1 + y.toNat) by omega, xad_add hpos]
      omega
    · by_cases hqn : q < h.2.2
      · have hq' : xrd T h q = some e' := by
          unfold xrd at hq ⊢
          cases hTq : T q with
          | none =>
            rw [hTq] at hq
            simp only [xgrid, if_neg (show ¬ q = h.2.2 by omega), if_neg (show ¬ (h.2.2 < q ∧ q < h.2.2 + 1 + y.toNat) by omega)] at hq
            exact hq
          | some d => rw [hTq] at hq; exact hq
        have h4 := hM.2.2.2 q e' hq'
        exact ⟨h4.1.kept (hold _ h4.1.lt), h4.2⟩
      · have hTq := hM.freshT (a := q) (by omega)
        unfold xrd at hq
        rw [hTq] at hq
        simp only [xgrid] at hq
        by_cases hqa : q = h.2.2
        · subst hqa
          rw [if_pos rfl] at hq
          cases hq
          refine ⟨?_, fun q0 => absurd q0 (by omega), fun ⟨n', f', q0⟩ => by cases q0⟩
          refine xat_arr (by decide) ?_
          rw [← hsz, f2]
          refine congrArg some (arrV_congr fun j hj => ?_)
          rw [if_pos hj]
          show Value.ref (H.size + 1 + j) = Value.ref (xad G (h.2.2 + 1 + j))
          rw [show h.2.2 + 1 + j = h.2.2 + (1 + j) by omega, xad_add hpos, hsz]
          exact congrArg Value.ref (Nat.add_assoc _ _ _)
        · rw [if_neg hqa] at hq
          by_cases hqb : h.2.2 < q ∧ q < h.2.2 + 1 + y.toNat
          · rw [if_pos hqb] at hq
            cases hq
            refine ⟨?_, fun q0 => absurd q0 (by omega), fun ⟨n', f', q0⟩ => by cases q0⟩
            obtain ⟨j, rfl⟩ : ∃ j, q = h.2.2 + (1 + j) := ⟨q - h.2.2 - 1, by omega⟩
            refine xat_arr (by decide) ?_
            rw [xad_add hpos, ← hsz, show H.size + (1 + j) = H.size + 1 + j by omega, hrow j (by omega)]
            rfl
          · rw [if_neg hqb] at hq
            have h4 := hM.fresh (a := q) (by omega)
            unfold xrd at h4
            rw [hTq] at h4
            cases h4.symm.trans hq
  have hS' : va_S (xA G) s.heap F.heap locs := ⟨by rw [f1]; have := hS.1; omega, fun q h1 h2 => (hold q (Nat.lt_of_lt_of_le h1 hS.1)).trans (hS.2.1 q h1 h2), hS.2.2⟩
  have key := kk F.heap locs ls hMt hS' hL hl
  rw [show k + (1 + y.toNat) = k + 1 + y.toNat by omega, show n + (y.toNat + y.toNat * z.toNat) = n + y.toNat + y.toNat * z.toNat by omega] at key
  obtain ⟨t, a1, b1⟩ := key F rfl X'
  refine ⟨t, step t ?_, b1⟩
  have e : T0.heap.size = xad G h.2.2 := by rw [hT, hsz]
  rw [e]
  exact a1
theorem xw_copy (hx : p.tables.exec = Jvm.exec) (hb : c.code = cc) (hml : c.maxLocals = nL) (hts : ∀ w ∈ xTB, w.before args s = true) {own : String} (hown : s.vm.findClass own = some m.cls) (hK : xKn G s) {idx : Nat} (w1 : Cond.methodLink own idx arraycopyName ∈ xTB) (w2 : Cond.native arraycopyName ∈ xTB) (w3 : Cond.static arraycopyName ∈ xTB) (w4 : Cond.initialized "java/lang/System" ∈ xTB) (hty0 : xTys[0]? = some .int) (hd : decode cc pc = .ok (.invokestatic idx, 3)) {a0 a1 n0 n1 : Nat} {sp dp len : Int} (ha0 : T a0 = some (.inr (0, n0, none))) (ha1 : T a1 = some (.inr (0, n1, none))) (h1 : 0 ≤ sp) (h2 : 0 ≤ dp) (h3 : 0 ≤ len) (h4 : sp + len ≤ n0) (h5 : dp + len ≤ n1) (h6 : (n0 : Int) < 2147483648) (h7 : (n1 : Int) < 2147483648) (hfr : 1 ≤ R.frames) (hlo : (st.map fun v => (xc G v).category).sum + (nativeFrameWords "java/lang/System" "arraycopy" 5 + 11) ≤ R.locals) (kk : xW T p l e R s m args below meth c Q G nL (pc + 3) L st (xup h.1 a1 (va_cpy (h.1 a0) (h.1 a1) sp.toNat dp.toNat len.toNat), h.2) k n) : xW T p l e R s m args below meth c Q G nL pc L (xI len :: xI dp :: xR (some a1) :: xI sp :: xR (some a0) :: st) h k n := by
  intro H locs ls hM hS hL hl
  have r0 : xrd T h a0 = some (.inr (0, n0, fun j => xI (h.1 a0 j))) := by simp [xrd, ha0, xde, xda]
  have r1 : xrd T h a1 = some (.inr (0, n1, fun j => xI (h.1 a1 j))) := by simp [xrd, ha1, xde, xda]
  have c0 := (hM.2.2.2 a0 _ r0).1
  have c1 := (hM.2.2.2 a1 _ r1).1
  unfold xat at c0 c1
  simp only [if_neg (show ¬ (0 : Nat) = 9 by decide)] at c0 c1
  have ne1 := hM.ne0 r1 (by decide)
  have b1 := xad_base (G := G) ne1
  have i0 := xi_cl h1 (show sp < 2147483648 by omega)
  have i1 := xi_cl h2 (show dp < 2147483648 by omega)
  have i2 := xi_cl h3 (show len < 2147483648 by omega)
  obtain ⟨-, k0, hk0, cm0, hkk0⟩ := (hK.2.1 0 _ hty0).1 n0 (fun j => xc G (xI (h.1 a0 j)))
  intro S hT X
  obtain ⟨vm', X', step⟩ := X.arraycopy hx hown (hts _ w1) (hts _ w2) (hts _ w3) (hts _ w4) (src := xad G a0) (dst := xad G a1) (cs := arrV (G.2.1 0) n0 (fun j => xc G (xI (h.1 a0 j)))) (cd := arrV (G.2.1 0) n1 (fun j => xc G (xI (h.1 a1 j)))) (srcPos := Int32.ofInt sp) (destPos := Int32.ofInt dp) (n := Int32.ofInt len) (by rw [hT]; exact c0) (by rw [hT]; exact c1)
    (fun _ h => by cases h) (fun _ h => by cases h) (fun h => by cases h) (fun h => by cases h) hk0 hk0 hkk0 hkk0 (by decide) (xi_nn h1 (by omega)) (xi_nn h2 (by omega)) (xi_nn h3 (by omega))
    (by rw [xi_ti ⟨by omega, by omega⟩, xi_ti ⟨by omega, by omega⟩, arrV_size]; omega)
    (by rw [xi_ti ⟨by omega, by omega⟩, xi_ti ⟨by omega, by omega⟩, arrV_size]; omega)
    (fun vm₁ _ i hi => by
      rw [i2] at hi
      have e : (arrV (G.2.1 0) n0 (fun j => xc G (xI (h.1 a0 j)))).slots.getD ((Int32.ofInt sp).toNatClampNeg + i) .null = xc G (xI (h.1 a0 (sp.toNat + i))) := by
        rw [Array.getD_eq_getD_getElem?, i0, arrV_read _ _ (by omega)]
        rfl
      rw [e]
      exact ⟨rfl, trivial⟩)
    (g := F0 m pc ls ((xI len :: xI dp :: xR (some a1) :: xI sp :: xR (some a0) :: st).map (xc G))) rfl (by rw [hml]; exact hl.1) (rest := st.map (xc G)) rfl (by rw [hb]; exact hd) hfr (by rw [List.map_map]; show 2 * 0 + _ + _ ≤ _; have := hlo; simp only [Function.comp_def] at this ⊢; omega)
  have e1 : copied (arrV (G.2.1 0) n0 (fun j => xc G (xI (h.1 a0 j)))) (arrV (G.2.1 0) n1 (fun j => xc G (xI (h.1 a1 j)))) (Int32.ofInt sp) (Int32.ofInt dp) (Int32.ofInt len) = arrV (G.2.1 0) n1 (fun j => xc G (xI (va_cpy (h.1 a0) (h.1 a1) sp.toNat dp.toNat len.toNat j))) := by
    have := va_copied (fun z => xc G (xI z)) (G.2.1 0) (G.2.1 0) (n0 := n0) (n1 := n1) (sp := sp.toNat) (dp := dp.toNat) (n := len.toNat) (h.1 a0) (h.1 a1) (by omega)
    rw [← i0, ← i1, ← i2] at this ⊢
    exact this
  rw [e1] at X' step
  have hlt : xad G a1 < H.size := (Array.getElem?_eq_some_iff.mp c1).1
  have oq : ∀ q : Nat, q ≠ xad G a1 → (H.setIfInBounds (xad G a1) (arrV (G.2.1 0) n1 (fun j => xc G (xI (va_cpy (h.1 a0) (h.1 a1) sp.toNat dp.toNat len.toNat j)))))[q]? = H[q]? := fun q hq => by simp [Array.getElem?_setIfInBounds, Ne.symm hq]
  have hat : xat G (xad G a1) (.inr (0, n1, fun j => xI (va_cpy (h.1 a0) (h.1 a1) sp.toNat dp.toNat len.toNat j))) (H.setIfInBounds (xad G a1) (arrV (G.2.1 0) n1 (fun j => xc G (xI (va_cpy (h.1 a0) (h.1 a1) sp.toNat dp.toNat len.toNat j))))) := by
    unfold xat
    simp only [if_neg (show ¬ (0 : Nat) = 9 by decide)]
    simp [Array.getElem?_setIfInBounds, hlt]
  obtain ⟨t, a1', b1'⟩ := kk _ _ ls (hM.put (h' := (xup h.1 a1 (va_cpy (h.1 a0) (h.1 a1) sp.toNat dp.toNat len.toNat), h.2)) r1 ne1 (fun n f q => by cases q) (by simp) oq (by simp [xrd, ha1, xde, xda, xup_at]) (fun b hb => xrd_other hb (xup_ne hb) rfl) rfl hat)
    ⟨by simp; exact hS.1, fun q g1 g2 => by
      rw [oq q (fun e => g2 (by rw [e]; exact b1))]
      exact hS.2.1 q g1 g2, fun q hq => by
      rcases List.mem_append.mp hq with h | h
      · exact hS.2.2 q h
      · obtain ⟨z, -, hz⟩ := List.mem_map.mp h
        rw [← hz]
        exact b1⟩ hL hl _ (by rw [← hT]; rfl) X'
  exact ⟨t, step t a1', b1'⟩
theorem xw_max (hx : p.tables.exec = Jvm.exec) (hb : c.code = cc) (hml : c.maxLocals = nL) (hts : ∀ w ∈ xTB, w.before args s = true) {own : String} (hown : s.vm.findClass own = some m.cls) {idx : Nat} (w1 : Cond.methodLink own idx Lib.Math.max.name ∈ xTB) (w2 : Cond.static Lib.Math.max.name ∈ xTB) (w3 : Cond.initialized "java/lang/Math" ∈ xTB) (w4 : Cond.code Lib.Math.max.name Lib.Math.max.code 2 (some .int) ∈ xTB) (hd : decode cc pc = .ok (.invokestatic idx, 3)) {x y : Int} (hrx : xrg x) (hry : xrg y) (hfr : 1 ≤ R.frames) (hlo : (st.map fun v => (xc G v).category).sum + 13 ≤ R.locals) (hk : k ≤ R.cells) (hn : n ≤ R.slots) (kk : xW T p l e R s m args below meth c Q G nL (pc + 3) L (xI (max x y) :: st) h k n) : xW T p l e R s m args below meth c Q G nL pc L (xI y :: xI x :: st) h k n := by
  intro H locs ls hM hS hL hl
  refine va_mmax hx hb (hml.trans hl.1.symm) hown (hts _ w1) (hts _ w2) (hts _ w3) (hts _ w4) hfr (by rw [List.map_map]; exact hlo) hk hn hd ?_
  have h1 := kk H locs ls hM hS hL hl
  rw [List.map_cons, show xc G (xI (max x y)) = .int (if Int32.ofInt x < Int32.ofInt y then Int32.ofInt y else Int32.ofInt x) by
    by_cases q : x < y
    · rw [if_pos ((xi_lt hrx hry).mpr q), show max x y = y by omega]; rfl
    · rw [if_neg (mt (xi_lt hrx hry).mp q), show max x y = x by omega]; rfl] at h1
  exact h1
theorem xw_min (hx : p.tables.exec = Jvm.exec) (hb : c.code = cc) (hml : c.maxLocals = nL) (hts : ∀ w ∈ xTB, w.before args s = true) {own : String} (hown : s.vm.findClass own = some m.cls) {idx : Nat} (w1 : Cond.methodLink own idx Lib.Math.min.name ∈ xTB) (w2 : Cond.static Lib.Math.min.name ∈ xTB) (w3 : Cond.initialized "java/lang/Math" ∈ xTB) (w4 : Cond.code Lib.Math.min.name Lib.Math.min.code 2 (some .int) ∈ xTB) (hd : decode cc pc = .ok (.invokestatic idx, 3)) {x y : Int} (hrx : xrg x) (hry : xrg y) (hfr : 1 ≤ R.frames) (hlo : (st.map fun v => (xc G v).category).sum + 13 ≤ R.locals) (hk : k ≤ R.cells) (hn : n ≤ R.slots) (kk : xW T p l e R s m args below meth c Q G nL (pc + 3) L (xI (min x y) :: st) h k n) : xW T p l e R s m args below meth c Q G nL pc L (xI y :: xI x :: st) h k n := by
  intro H locs ls hM hS hL hl
  refine va_mmin hx hb (hml.trans hl.1.symm) hown (hts _ w1) (hts _ w2) (hts _ w3) (hts _ w4) hfr (by rw [List.map_map]; exact hlo) hk hn hd ?_
  have h1 := kk H locs ls hM hS hL hl
  rw [List.map_cons, show xc G (xI (min x y)) = .int (if Int32.ofInt y < Int32.ofInt x then Int32.ofInt y else Int32.ofInt x) by
    by_cases q : y < x
    · rw [if_pos ((xi_lt hry hrx).mpr q), show min x y = y by omega]; rfl
    · rw [if_neg (mt (xi_lt hry hrx).mp q), show min x y = x by omega]; rfl] at h1
  exact h1
theorem xw_abs (hx : p.tables.exec = Jvm.exec) (hb : c.code = cc) (hml : c.maxLocals = nL) (hts : ∀ w ∈ xTB, w.before args s = true) {own : String} (hown : s.vm.findClass own = some m.cls) {idx : Nat} (w1 : Cond.methodLink own idx Lib.Math.abs.name ∈ xTB) (w2 : Cond.static Lib.Math.abs.name ∈ xTB) (w3 : Cond.initialized "java/lang/Math" ∈ xTB) (w4 : Cond.code Lib.Math.abs.name Lib.Math.abs.code 1 (some .int) ∈ xTB) (hd : decode cc pc = .ok (.invokestatic idx, 3)) {x : Int} (hrx : xrg x) (hfr : 1 ≤ R.frames) (hlo : (st.map fun v => (xc G v).category).sum + 13 ≤ R.locals) (hk : k ≤ R.cells) (hn : n ≤ R.slots) (kk : xW T p l e R s m args below meth c Q G nL (pc + 3) L (xI (if 0 ≤ x then x else -x) :: st) h k n) : xW T p l e R s m args below meth c Q G nL pc L (xI x :: st) h k n := by
  intro H locs ls hM hS hL hl
  refine va_mabs hx hb (hml.trans hl.1.symm) hown (hts _ w1) (hts _ w2) (hts _ w3) (hts _ w4) hfr (by rw [List.map_map]; exact hlo) hk hn hd ?_
  have h1 := kk H locs ls hM hS hL hl
  rw [List.map_cons, show xc G (xI (if 0 ≤ x then x else -x)) = .int (if 0 ≤ Int32.ofInt x then Int32.ofInt x else 0 - Int32.ofInt x) by
    by_cases q : 0 ≤ x
    · rw [xi_0, if_pos ((xi_le xrg0 hrx).mpr q), if_pos q]; rfl
    · rw [xi_0, if_neg (mt (xi_le xrg0 hrx).mp q), if_neg q, ← Int32.ofInt_sub, Int.zero_sub]; rfl] at h1
  exact h1
theorem xw_vret {Qc : Array Value → State → Outcome → State → Prop} (hx : p.tables.exec = Jvm.exec) (hb : c.code = cc) (hr : meth.sig.returnType = none) (hlocks : meth.locks = false) (hd : decode cc pc = .ok (.return_, 1)) (hq : ∀ (H : Heap) (t : State), xMt T G h H → t.heap = H → va_F (xA G) s t → Qc args s (.returned none) t) (st : List xV) (hst : st = []) : xW T p l e R s m args below meth c (MQ below Qc args s k n (xA G)) G nL pc L st h k n := by
  subst hst
  intro H locs ls hM hS hL hl
  exact W.vret hx hb hr (fun t ht hW => hq H t hM ht (hS.F ht)) hS.2.2 hd
theorem xw_iret {Qc : Array Value → State → Outcome → State → Prop} (hx : p.tables.exec = Jvm.exec) (hb : c.code = cc) {ty : FieldType} {z : Int} (hr : meth.sig.returnType = some ty) (hn : narrow ty (.int (Int32.ofInt z)) = .int (Int32.ofInt z)) (hlocks : meth.locks = false) (hd : decode cc pc = .ok (.ireturn, 1)) (hq : ∀ (H : Heap) (t : State), xMt T G h H → t.heap = H → va_F (xA G) s t → Qc args s (.returned (some (xc G (xI z)))) t) : xW T p l e R s m args below meth c (MQ below Qc args s k n (xA G)) G nL pc L [xI z] h k n := by
  intro H locs ls hM hS hL hl
  exact W.zret hx hb hr hn (fun t ht hW => hq H t hM ht (hS.F ht)) hS.2.2 hd
theorem xw_lret {Qc : Array Value → State → Outcome → State → Prop} (hx : p.tables.exec = Jvm.exec) (hb : c.code = cc) {z : Int} (hr : meth.sig.returnType = some .long) (hlocks : meth.locks = false) (hd : decode cc pc = .ok (.lreturn, 1)) (hq : ∀ (H : Heap) (t : State), xMt T G h H → t.heap = H → va_F (xA G) s t → Qc args s (.returned (some (xc G (xJ z)))) t) : xW T p l e R s m args below meth c (MQ below Qc args s k n (xA G)) G nL pc L [xJ z] h k n := by
  intro H locs ls hM hS hL hl
  exact W.lret hx hb hr (fun t ht hW => hq H t hM ht (hS.F ht)) hS.2.2 hd
theorem xw_aret {Qc : Array Value → State → Outcome → State → Prop} (hx : p.tables.exec = Jvm.exec) (hb : c.code = cc) {rt : FieldType} {r : Option Nat} (hr : meth.sig.returnType = some rt) (hrt : (∃ n, rt = .object n) ∨ ∃ t, rt = .array t) (hlocks : meth.locks = false) (hd : decode cc pc = .ok (.areturn, 1)) (hq : ∀ (H : Heap) (t : State), xMt T G h H → t.heap = H → va_F (xA G) s t → Qc args s (.returned (some (xc G (xR r)))) t) : xW T p l e R s m args below meth c (MQ below Qc args s k n (xA G)) G nL pc L [xR r] h k n := by
  intro H locs ls hM hS hL hl
  exact W.aret (v := xc G (xR r)) hx hb hr hrt (by cases r; exact Or.inl rfl; exact Or.inr ⟨_, rfl⟩) (fun t ht hW => hq H t hM ht (hS.F ht)) hS.2.2 hd
end XHEAP
