/-! one lemma an instruction: the X machine's step is the real one's -/
abbrev xrg (z : Int) : Prop := -2147483648 ≤ z ∧ z < 2147483648
abbrev xrl (z : Int) : Prop := -9223372036854775808 ≤ z ∧ z < 9223372036854775808
theorem xi_ti {z : Int} (h : xrg z) : (Int32.ofInt z).toInt = z := Int32.toInt_ofInt_of_le (by omega) (by omega)
theorem xj_ti {z : Int} (h : xrl z) : (Int64.ofInt z).toInt = z := Int64.toInt_ofInt_of_le (by omega) (by omega)
theorem xi_lt {x y : Int} (hx : xrg x) (hy : xrg y) : Int32.ofInt x < Int32.ofInt y ↔ x < y := by rw [Int32.lt_iff_toInt_lt, xi_ti hx, xi_ti hy]
theorem xi_le {x y : Int} (hx : xrg x) (hy : xrg y) : Int32.ofInt x ≤ Int32.ofInt y ↔ x ≤ y := by rw [Int32.le_iff_toInt_le, xi_ti hx, xi_ti hy]
theorem xi_eq {x y : Int} (hx : xrg x) (hy : xrg y) : Int32.ofInt x = Int32.ofInt y ↔ x = y := by rw [← Int32.toInt_inj, xi_ti hx, xi_ti hy]
theorem xj_lt {x y : Int} (hx : xrl x) (hy : xrl y) : Int64.ofInt x < Int64.ofInt y ↔ x < y := by rw [Int64.lt_iff_toInt_lt, xj_ti hx, xj_ti hy]
theorem xj_eq {x y : Int} (hx : xrl x) (hy : xrl y) : Int64.ofInt x = Int64.ofInt y ↔ x = y := by rw [← Int64.toInt_inj, xj_ti hx, xj_ti hy]
theorem xrg0 : xrg 0 := by decide
theorem xi_0 : (0 : Int32) = Int32.ofInt 0 := rfl
theorem xi_cl {z : Int} (h0 : 0 ≤ z) (h : z < 2147483648) : (Int32.ofInt z).toNatClampNeg = z.toNat := by
  show (Int32.ofInt z).toInt.toNat = z.toNat
  rw [xi_ti ⟨by omega, h⟩]
theorem xi_in {z : Int} {n : Nat} (h0 : 0 ≤ z) (h : z < n) (hb : z < 2147483648) : ¬ (Int32.ofInt z < 0 ∨ n ≤ (Int32.ofInt z).toNatClampNeg) := by
  rw [xi_cl h0 hb, xi_0, xi_lt ⟨by omega, hb⟩ ⟨by omega, by omega⟩]
  omega
theorem xi_nn {z : Int} (h0 : 0 ≤ z) (hb : z < 2147483648) : ¬ Int32.ofInt z < 0 := by
  rw [xi_0, xi_lt ⟨by omega, hb⟩ ⟨by omega, by omega⟩]
  omega
def x_iand (x y : Int) : Int := (Int32.ofInt x &&& Int32.ofInt y).toInt
def x_ior (x y : Int) : Int := (Int32.ofInt x ||| Int32.ofInt y).toInt
def x_ixor (x y : Int) : Int := (Int32.ofInt x ^^^ Int32.ofInt y).toInt
def x_ishl (x y : Int) : Int := (Int32.ofInt x <<< (Int32.ofInt y &&& 31)).toInt
def x_ishr (x y : Int) : Int := (Int32.ofInt x >>> (Int32.ofInt y &&& 31)).toInt
def x_iushr (x y : Int) : Int := ((Int32.ofInt x).toUInt32 >>> ((Int32.ofInt y).toUInt32 &&& Int32.toUInt32 31)).toInt32.toInt
def x_lcmp (x y : Int) : Int := if x < y then -1 else if x = y then 0 else 1
section XROWS
variable {T : xT} {p : Program} {l : Launch} {e : Env} {R : Room} {s : State} {m : MethodId} {args : Array Value} {below : List Frame} {meth : Method} {c : Code} {Q : State → Prop} {cc : ByteArray} {G : xG} {nL : Nat} {pc : Nat} {L : xLs} {st : List xV} {h : xH} {k n : Nat}
def xW (T : xT) (p : Program) (l : Launch) (e : Env) (R : Room) (s : State) (m : MethodId) (args : Array Value) (below : List Frame) (meth : Method) (c : Code) (Q : State → Prop) (G : xG) (nL : Nat) (pc : Nat) (L : xLs) (st : List xV) (h : xH) (k n : Nat) : Prop :=
  ∀ (H : Heap) (locs : List Loc) (ls : Array Slot), xMt T G h H → va_S (xA G) s.heap H locs → L.length = nL → lv_has ls nL (xls G 0 L) → W p l e R s m args below meth c H locs k n Q (F0 m pc ls (st.map (xc G)))
theorem xw_iconst (hx : p.tables.exec = Jvm.exec) (hb : c.code = cc) {z : Int} (hd : decode cc pc = .ok (.iconst z, 1)) (kk : xW T p l e R s m args below meth c Q G nL (pc + 1) L (xI z :: st) h k n) : xW T p l e R s m args below meth c Q G nL pc L st h k n :=
  fun H locs ls hM hS hL hl => lv_iconst hx hb hd rfl (kk H locs ls hM hS hL hl)
theorem xw_bipush (hx : p.tables.exec = Jvm.exec) (hb : c.code = cc) {z : Int} (hd : decode cc pc = .ok (.bipush z, 2)) (hz : (Int8.ofInt z).toInt32 = Int32.ofInt z) (kk : xW T p l e R s m args below meth c Q G nL (pc + 2) L (xI z :: st) h k n) : xW T p l e R s m args below meth c Q G nL pc L st h k n :=
  fun H locs ls hM hS hL hl => lv_bipush hx hb hd hz (kk H locs ls hM hS hL hl)
theorem xw_sipush (hx : p.tables.exec = Jvm.exec) (hb : c.code = cc) {z : Int} (hd : decode cc pc = .ok (.sipush z, 3)) (hz : (Int16.ofInt z).toInt32 = Int32.ofInt z) (kk : xW T p l e R s m args below meth c Q G nL (pc + 3) L (xI z :: st) h k n) : xW T p l e R s m args below meth c Q G nL pc L st h k n :=
  fun H locs ls hM hS hL hl => lv_sipush hx hb hd hz (kk H locs ls hM hS hL hl)
theorem xw_lconst (hx : p.tables.exec = Jvm.exec) (hb : c.code = cc) {z : Fin 2} (hd : decode cc pc = .ok (.lconst z, 1)) (kk : xW T p l e R s m args below meth c Q G nL (pc + 1) L (xJ ((z : Nat) : Int) :: st) h k n) : xW T p l e R s m args below meth c Q G nL pc L st h k n :=
  fun H locs ls hM hS hL hl => lv_lconst hx hb hd Int64.ofInt_eq_ofNat.symm (kk H locs ls hM hS hL hl)
theorem xw_ldc (hx : p.tables.exec = Jvm.exec) (hb : c.code = cc) {own : String} {i : Nat} {z : Int} (hown : s.vm.findClass own = some m.cls) (hc : (Cond.constant own i (Int32.ofInt z)).before args s = true) (hd : decode cc pc = .ok (.ldc i, 2)) (kk : xW T p l e R s m args below meth c Q G nL (pc + 2) L (xI z :: st) h k n) : xW T p l e R s m args below meth c Q G nL pc L st h k n :=
  fun H locs ls hM hS hL hl => lv_ldc hx hb hown hc hd (kk H locs ls hM hS hL hl)
theorem xw_ldcw (hx : p.tables.exec = Jvm.exec) (hb : c.code = cc) {own : String} {i : Nat} {z : Int} (hown : s.vm.findClass own = some m.cls) (hc : (Cond.constant own i (Int32.ofInt z)).before args s = true) (hd : decode cc pc = .ok (.ldc_w i, 3)) (kk : xW T p l e R s m args below meth c Q G nL (pc + 3) L (xI z :: st) h k n) : xW T p l e R s m args below meth c Q G nL pc L st h k n :=
  fun H locs ls hM hS hL hl => lv_ldcw hx hb hown hc hd (kk H locs ls hM hS hL hl)
theorem xw_ldc2 (hx : p.tables.exec = Jvm.exec) (hb : c.code = cc) {own : String} {i : Nat} {z : Int} (hown : s.vm.findClass own = some m.cls) (hc : (Cond.constantLong own i (Int64.ofInt z)).before args s = true) (hd : decode cc pc = .ok (.ldc2_w i, 3)) (kk : xW T p l e R s m args below meth c Q G nL (pc + 3) L (xJ z :: st) h k n) : xW T p l e R s m args below meth c Q G nL pc L st h k n :=
  fun H locs ls hM hS hL hl => lv_ldc2 hx hb hown hc hd (kk H locs ls hM hS hL hl)
theorem xw_null (hx : p.tables.exec = Jvm.exec) (hb : c.code = cc) (hd : decode cc pc = .ok (.aconst_null, 1)) (kk : xW T p l e R s m args below meth c Q G nL (pc + 1) L (xR none :: st) h k n) : xW T p l e R s m args below meth c Q G nL pc L st h k n :=
  fun H locs ls hM hS hL hl => lv_null hx hb hd (kk H locs ls hM hS hL hl)
theorem xw_iload_n (hx : p.tables.exec = Jvm.exec) (hb : c.code = cc) {i : Fin 4} {z : Int} (hd : decode cc pc = .ok (.iload_n i, 1)) (hi : L[(i : Nat)]? = some (some (xI z))) (kk : xW T p l e R s m args below meth c Q G nL (pc + 1) L (xI z :: st) h k n) : xW T p l e R s m args below meth c Q G nL pc L st h k n :=
  fun H locs ls hM hS hL hl => lv_iload_n hx hb hd rfl (xl_get hl hi) (kk H locs ls hM hS hL hl)
theorem xw_iload (hx : p.tables.exec = Jvm.exec) (hb : c.code = cc) {i : Nat} {z : Int} (hd : decode cc pc = .ok (.iload i, 2)) (hi : L[i]? = some (some (xI z))) (kk : xW T p l e R s m args below meth c Q G nL (pc + 2) L (xI z :: st) h k n) : xW T p l e R s m args below meth c Q G nL pc L st h k n :=
  fun H locs ls hM hS hL hl => lv_iload hx hb hd (xl_get hl hi) (kk H locs ls hM hS hL hl)
theorem xw_lload_n (hx : p.tables.exec = Jvm.exec) (hb : c.code = cc) {i : Fin 4} {z : Int} (hd : decode cc pc = .ok (.lload_n i, 1)) (hi : L[(i : Nat)]? = some (some (xJ z))) (kk : xW T p l e R s m args below meth c Q G nL (pc + 1) L (xJ z :: st) h k n) : xW T p l e R s m args below meth c Q G nL pc L st h k n :=
  fun H locs ls hM hS hL hl => lv_lload_n hx hb hd rfl (xl_get hl hi) (kk H locs ls hM hS hL hl)
theorem xw_lload (hx : p.tables.exec = Jvm.exec) (hb : c.code = cc) {i : Nat} {z : Int} (hd : decode cc pc = .ok (.lload i, 2)) (hi : L[i]? = some (some (xJ z))) (kk : xW T p l e R s m args below meth c Q G nL (pc + 2) L (xJ z :: st) h k n) : xW T p l e R s m args below meth c Q G nL pc L st h k n :=
  fun H locs ls hM hS hL hl => lv_lload hx hb hd (xl_get hl hi) (kk H locs ls hM hS hL hl)
theorem xw_aload_n (hx : p.tables.exec = Jvm.exec) (hb : c.code = cc) {i : Fin 4} {r : Option Nat} (hd : decode cc pc = .ok (.aload_n i, 1)) (hi : L[(i : Nat)]? = some (some (xR r))) (kk : xW T p l e R s m args below meth c Q G nL (pc + 1) L (xR r :: st) h k n) : xW T p l e R s m args below meth c Q G nL pc L st h k n := by
  intro H locs ls hM hS hL hl
  cases r with
  | none => exact lv_aload_nN hx hb hd rfl (xl_get hl hi) (kk H locs ls hM hS hL hl)
  | some a => exact lv_aload_n hx hb hd rfl (xl_get hl hi) (kk H locs ls hM hS hL hl)
theorem xw_aload (hx : p.tables.exec = Jvm.exec) (hb : c.code = cc) {i : Nat} {r : Option Nat} (hd : decode cc pc = .ok (.aload i, 2)) (hi : L[i]? = some (some (xR r))) (kk : xW T p l e R s m args below meth c Q G nL (pc + 2) L (xR r :: st) h k n) : xW T p l e R s m args below meth c Q G nL pc L st h k n := by
  intro H locs ls hM hS hL hl
  cases r with
  | none => exact lv_aloadN hx hb hd (xl_get hl hi) (kk H locs ls hM hS hL hl)
  | some a => exact lv_aload hx hb hd (xl_get hl hi) (kk H locs ls hM hS hL hl)
theorem xw_istore_n (hx : p.tables.exec = Jvm.exec) (hb : c.code = cc) {i : Fin 4} {z : Int} (hd : decode cc pc = .ok (.istore_n i, 1)) (kk : xst L i (xI z) fun L' => xW T p l e R s m args below meth c Q G nL (pc + 1) L' st h k n) : xW T p l e R s m args below meth c Q G nL pc L (xI z :: st) h k n := by
  intro H locs ls hM hS hL hl
  obtain ⟨hi, L', kk, hL', hg⟩ := xst_spec kk
  exact lv_istore_n hx hb hd rfl hl (hL ▸ hi) rfl fun ls' hl' => kk H locs ls' hM hS (hL'.trans hL) (xl_st hg hl')
theorem xw_istore (hx : p.tables.exec = Jvm.exec) (hb : c.code = cc) {i : Nat} {z : Int} (hd : decode cc pc = .ok (.istore i, 2)) (kk : xst L i (xI z) fun L' => xW T p l e R s m args below meth c Q G nL (pc + 2) L' st h k n) : xW T p l e R s m args below meth c Q G nL pc L (xI z :: st) h k n := by
  intro H locs ls hM hS hL hl
  obtain ⟨hi, L', kk, hL', hg⟩ := xst_spec kk
  exact lv_istore hx hb hd hl (hL ▸ hi) rfl fun ls' hl' => kk H locs ls' hM hS (hL'.trans hL) (xl_st hg hl')
theorem xw_lstore_n (hx : p.tables.exec = Jvm.exec) (hb : c.code = cc) {i : Fin 4} {z : Int} (hd : decode cc pc = .ok (.lstore_n i, 1)) (kk : xst2 L i z fun L' => xW T p l e R s m args below meth c Q G nL (pc + 1) L' st h k n) : xW T p l e R s m args below meth c Q G nL pc L (xJ z :: st) h k n := by
  intro H locs ls hM hS hL hl
  obtain ⟨hi, L', kk, hL', hg⟩ := xst2_spec kk
  exact lv_lstore_n hx hb hd rfl hl (hL ▸ hi) rfl fun ls' hl' => kk H locs ls' hM hS (hL'.trans hL) (xl_st2 hg hl')
theorem xw_lstore (hx : p.tables.exec = Jvm.exec) (hb : c.code = cc) {i : Nat} {z : Int} (hd : decode cc pc = .ok (.lstore i, 2)) (kk : xst2 L i z fun L' => xW T p l e R s m args below meth c Q G nL (pc + 2) L' st h k n) : xW T p l e R s m args below meth c Q G nL pc L (xJ z :: st) h k n := by
  intro H locs ls hM hS hL hl
  obtain ⟨hi, L', kk, hL', hg⟩ := xst2_spec kk
  exact lv_lstore hx hb hd hl (hL ▸ hi) rfl fun ls' hl' => kk H locs ls' hM hS (hL'.trans hL) (xl_st2 hg hl')
theorem xw_astore_n (hx : p.tables.exec = Jvm.exec) (hb : c.code = cc) {i : Fin 4} {r : Option Nat} (hd : decode cc pc = .ok (.astore_n i, 1)) (kk : xst L i (xR r) fun L' => xW T p l e R s m args below meth c Q G nL (pc + 1) L' st h k n) : xW T p l e R s m args below meth c Q G nL pc L (xR r :: st) h k n := by
  intro H locs ls hM hS hL hl
  obtain ⟨hi, L', k2, hL', hg⟩ := xst_spec kk
  cases r with
  | none => exact lv_astore_nN hx hb hd rfl hl (hL ▸ hi) rfl fun ls' hl' => k2 H locs ls' hM hS (hL'.trans hL) (xl_st hg hl')
  | some a => exact lv_astore_n hx hb hd rfl hl (hL ▸ hi) rfl fun ls' hl' => k2 H locs ls' hM hS (hL'.trans hL) (xl_st hg hl')
theorem xw_astore (hx : p.tables.exec = Jvm.exec) (hb : c.code = cc) {i : Nat} {r : Option Nat} (hd : decode cc pc = .ok (.astore i, 2)) (kk : xst L i (xR r) fun L' => xW T p l e R s m args below meth c Q G nL (pc + 2) L' st h k n) : xW T p l e R s m args below meth c Q G nL pc L (xR r :: st) h k n := by
  intro H locs ls hM hS hL hl
  obtain ⟨hi, L', k2, hL', hg⟩ := xst_spec kk
  cases r with
  | none => exact lv_astoreN hx hb hd hl (hL ▸ hi) rfl fun ls' hl' => k2 H locs ls' hM hS (hL'.trans hL) (xl_st hg hl')
  | some a => exact lv_astore hx hb hd hl (hL ▸ hi) rfl fun ls' hl' => k2 H locs ls' hM hS (hL'.trans hL) (xl_st hg hl')
theorem xw_iinc (hx : p.tables.exec = Jvm.exec) (hb : c.code = cc) {i : Nat} {q z : Int} (hd : decode cc pc = .ok (.iinc i q, 3)) (hi : L[i]? = some (some (xI z))) (kk : xst L i (xI (z + q)) fun L' => xW T p l e R s m args below meth c Q G nL (pc + 3) L' st h k n) : xW T p l e R s m args below meth c Q G nL pc L st h k n := by
  intro H locs ls hM hS hL hl
  obtain ⟨hin, L', kk, hL', hg⟩ := xst_spec kk
  obtain ⟨j, hj⟩ := List.getElem?_of_mem (xls_mem (G := G) (L := L) (i := 0) (q := (i, xc G (xI z))).mpr ⟨i, xI z, hi, by rw [Nat.zero_add]⟩)
  exact lv_iinc (v := Int32.ofInt (z + q)) hx hb hd hl hj (Int32.ofInt_add z q).symm (hL ▸ hin) rfl fun ls' hl' => kk H locs ls' hM hS (hL'.trans hL) (xl_st hg hl')
theorem xw_iadd (hx : p.tables.exec = Jvm.exec) (hb : c.code = cc) {x y : Int} (hd : decode cc pc = .ok (.iadd, 1)) (kk : xW T p l e R s m args below meth c Q G nL (pc + 1) L (xI (x + y) :: st) h k n) : xW T p l e R s m args below meth c Q G nL pc L (xI y :: xI x :: st) h k n :=
  fun H locs ls hM hS hL hl => lv_iadd hx hb hd (by rw [← Int32.ofInt_add]; exact kk H locs ls hM hS hL hl)
theorem xw_isub (hx : p.tables.exec = Jvm.exec) (hb : c.code = cc) {x y : Int} (hd : decode cc pc = .ok (.isub, 1)) (kk : xW T p l e R s m args below meth c Q G nL (pc + 1) L (xI (x - y) :: st) h k n) : xW T p l e R s m args below meth c Q G nL pc L (xI y :: xI x :: st) h k n :=
  fun H locs ls hM hS hL hl => lv_isub hx hb hd (by rw [← Int32.ofInt_sub]; exact kk H locs ls hM hS hL hl)
theorem xw_imul (hx : p.tables.exec = Jvm.exec) (hb : c.code = cc) {x y : Int} (hd : decode cc pc = .ok (.imul, 1)) (kk : xW T p l e R s m args below meth c Q G nL (pc + 1) L (xI (x * y) :: st) h k n) : xW T p l e R s m args below meth c Q G nL pc L (xI y :: xI x :: st) h k n :=
  fun H locs ls hM hS hL hl => lv_imul hx hb hd (by rw [← Int32.ofInt_mul]; exact kk H locs ls hM hS hL hl)
theorem xw_ineg (hx : p.tables.exec = Jvm.exec) (hb : c.code = cc) {x : Int} (hd : decode cc pc = .ok (.ineg, 1)) (kk : xW T p l e R s m args below meth c Q G nL (pc + 1) L (xI (-x) :: st) h k n) : xW T p l e R s m args below meth c Q G nL pc L (xI x :: st) h k n := by
  intro H locs ls hM hS hL hl
  refine lv_ineg hx hb hd ?_
  have h1 := kk H locs ls hM hS hL hl
  rw [List.map_cons, show xc G (xI (-x)) = .int (-(Int32.ofInt x)) from congrArg Value.int (by first | exact Int32.ofInt_neg x | exact (Int32.ofInt_neg x).symm | simp)] at h1
  first | exact h1 | simpa using h1
theorem xw_ladd (hx : p.tables.exec = Jvm.exec) (hb : c.code = cc) {x y : Int} (hd : decode cc pc = .ok (.ladd, 1)) (kk : xW T p l e R s m args below meth c Q G nL (pc + 1) L (xJ (x + y) :: st) h k n) : xW T p l e R s m args below meth c Q G nL pc L (xJ y :: xJ x :: st) h k n :=
  fun H locs ls hM hS hL hl => lv_ladd hx hb hd (by rw [← Int64.ofInt_add]; exact kk H locs ls hM hS hL hl)
theorem xw_lsub (hx : p.tables.exec = Jvm.exec) (hb : c.code = cc) {x y : Int} (hd : decode cc pc = .ok (.lsub, 1)) (kk : xW T p l e R s m args below meth c Q G nL (pc + 1) L (xJ (x - y) :: st) h k n) : xW T p l e R s m args below meth c Q G nL pc L (xJ y :: xJ x :: st) h k n :=
  fun H locs ls hM hS hL hl => lv_lsub hx hb hd (by rw [← Int64.ofInt_sub]; exact kk H locs ls hM hS hL hl)
theorem xw_lmul (hx : p.tables.exec = Jvm.exec) (hb : c.code = cc) {x y : Int} (hd : decode cc pc = .ok (.lmul, 1)) (kk : xW T p l e R s m args below meth c Q G nL (pc + 1) L (xJ (x * y) :: st) h k n) : xW T p l e R s m args below meth c Q G nL pc L (xJ y :: xJ x :: st) h k n :=
  fun H locs ls hM hS hL hl => lv_lmul hx hb hd (by rw [← Int64.ofInt_mul]; exact kk H locs ls hM hS hL hl)
theorem xc_i {v : Int32} : xc G (xI v.toInt) = .int v := congrArg Value.int (Int32.ofInt_toInt _)
theorem xc_j {v : Int64} : xc G (xJ v.toInt) = .long v := congrArg Value.long (Int64.ofInt_toInt _)
theorem xw_iand (hx : p.tables.exec = Jvm.exec) (hb : c.code = cc) {x y : Int} (hd : decode cc pc = .ok (.iand, 1)) (kk : xW T p l e R s m args below meth c Q G nL (pc + 1) L (xI (x_iand x y) :: st) h k n) : xW T p l e R s m args below meth c Q G nL pc L (xI y :: xI x :: st) h k n := by
  intro H locs ls hM hS hL hl
  have h1 := kk H locs ls hM hS hL hl
  rw [List.map_cons, x_iand, xc_i] at h1
  exact lv_iand hx hb hd h1
theorem xw_ior (hx : p.tables.exec = Jvm.exec) (hb : c.code = cc) {x y : Int} (hd : decode cc pc = .ok (.ior, 1)) (kk : xW T p l e R s m args below meth c Q G nL (pc + 1) L (xI (x_ior x y) :: st) h k n) : xW T p l e R s m args below meth c Q G nL pc L (xI y :: xI x :: st) h k n := by
  intro H locs ls hM hS hL hl
  have h1 := kk H locs ls hM hS hL hl
  rw [List.map_cons, x_ior, xc_i] at h1
  exact lv_ior hx hb hd h1
theorem xw_ixor (hx : p.tables.exec = Jvm.exec) (hb : c.code = cc) {x y : Int} (hd : decode cc pc = .ok (.ixor, 1)) (kk : xW T p l e R s m args below meth c Q G nL (pc + 1) L (xI (x_ixor x y) :: st) h k n) : xW T p l e R s m args below meth c Q G nL pc L (xI y :: xI x :: st) h k n := by
  intro H locs ls hM hS hL hl
  have h1 := kk H locs ls hM hS hL hl
  rw [List.map_cons, x_ixor, xc_i] at h1
  exact lv_ixor hx hb hd h1
theorem xw_ishl (hx : p.tables.exec = Jvm.exec) (hb : c.code = cc) {x y : Int} (hd : decode cc pc = .ok (.ishl, 1)) (kk : xW T p l e R s m args below meth c Q G nL (pc + 1) L (xI (x_ishl x y) :: st) h k n) : xW T p l e R s m args below meth c Q G nL pc L (xI y :: xI x :: st) h k n := by
  intro H locs ls hM hS hL hl
  have h1 := kk H locs ls hM hS hL hl
  rw [List.map_cons, x_ishl, xc_i] at h1
  exact lv_ishl hx hb hd h1
theorem xw_ishr (hx : p.tables.exec = Jvm.exec) (hb : c.code = cc) {x y : Int} (hd : decode cc pc = .ok (.ishr, 1)) (kk : xW T p l e R s m args below meth c Q G nL (pc + 1) L (xI (x_ishr x y) :: st) h k n) : xW T p l e R s m args below meth c Q G nL pc L (xI y :: xI x :: st) h k n := by
  intro H locs ls hM hS hL hl
  have h1 := kk H locs ls hM hS hL hl
  rw [List.map_cons, x_ishr, xc_i] at h1
  exact lv_ishr hx hb hd h1
theorem xw_iushr (hx : p.tables.exec = Jvm.exec) (hb : c.code = cc) {x y : Int} (hd : decode cc pc = .ok (.iushr, 1)) (kk : xW T p l e R s m args below meth c Q G nL (pc + 1) L (xI (x_iushr x y) :: st) h k n) : xW T p l e R s m args below meth c Q G nL pc L (xI y :: xI x :: st) h k n := by
  intro H locs ls hM hS hL hl
  have h1 := kk H locs ls hM hS hL hl
  rw [List.map_cons, x_iushr, xc_i] at h1
  exact lv_iushr hx hb hd rfl h1
theorem xi_div {x y : Int} (hrx : xrg x) (hy : 0 < y) (hry : xrg y) : Int32.ofInt x / Int32.ofInt y = Int32.ofInt (x.tdiv y) := by
  have hne : ¬ Int32.ofInt y = 0 := by rw [xi_0, xi_eq hry xrg0]; omega
  have hb : xrg (x.tdiv y) := by
    have h1 : (x.tdiv y).natAbs ≤ x.natAbs := by rw [Int.natAbs_tdiv]; exact Nat.div_le_self _ _
    have h2 := hrx.1
    have h3 := hrx.2
    by_cases h4 : x = -2147483648
    · subst h4
      have h5 : (-2147483648 : Int).tdiv y ≤ 0 := by
        rw [show (-2147483648 : Int) = -(2147483648) from rfl, Int.neg_tdiv]
        have := Int.tdiv_nonneg (a := 2147483648) (b := y) (by omega) (by omega)
        omega
      constructor <;> omega
    · constructor <;> omega
  rw [← Int32.toInt_inj, xi_ti hb, Int32.toInt_div_of_ne_right _ _ (by rw [show (-1 : Int32) = Int32.ofInt (-1) from rfl]; intro q; have := (xi_eq hry (by decide)).mp q; omega), xi_ti hrx, xi_ti hry]
theorem xw_idiv (hx : p.tables.exec = Jvm.exec) (hb : c.code = cc) {x y : Int} (hd : decode cc pc = .ok (.idiv, 1)) (hrx : xrg x) (hy : 0 < y) (hry : xrg y) (kk : xW T p l e R s m args below meth c Q G nL (pc + 1) L (xI (x.tdiv y) :: st) h k n) : xW T p l e R s m args below meth c Q G nL pc L (xI y :: xI x :: st) h k n := by
  intro H locs ls hM hS hL hl
  have hne : ¬ Int32.ofInt y = 0 := by rw [xi_0, xi_eq hry xrg0]; omega
  refine lv_idiv hx hb hd hne ?_
  rw [xi_div hrx hy hry]
  exact kk H locs ls hM hS hL hl
theorem xw_irem (hx : p.tables.exec = Jvm.exec) (hb : c.code = cc) {x y : Int} (hd : decode cc pc = .ok (.irem, 1)) (hrx : xrg x) (hy : 0 < y) (hry : xrg y) (kk : xW T p l e R s m args below meth c Q G nL (pc + 1) L (xI (x.tmod y) :: st) h k n) : xW T p l e R s m args below meth c Q G nL pc L (xI y :: xI x :: st) h k n := by
  intro H locs ls hM hS hL hl
  have hne : ¬ Int32.ofInt y = 0 := by rw [xi_0, xi_eq hry xrg0]; omega
  refine lv_irem hx hb hd hne ?_
  rw [xi_div hrx hy hry, ← Int32.ofInt_mul, ← Int32.ofInt_sub, show x - x.tdiv y * y = x.tmod y by rw [Int.tmod_def, Int.mul_comm]]
  exact kk H locs ls hM hS hL hl
theorem xj_div {x y : Int} (hrx : xrl x) (hy : 0 < y) (hry : xrl y) : Int64.ofInt x / Int64.ofInt y = Int64.ofInt (x.tdiv y) := by
  have hb : xrl (x.tdiv y) := by
    have h1 : (x.tdiv y).natAbs ≤ x.natAbs := by rw [Int.natAbs_tdiv]; exact Nat.div_le_self _ _
    have h2 := hrx.1
    have h3 := hrx.2
    by_cases h4 : x = -9223372036854775808
    · subst h4
      have h5 : (-9223372036854775808 : Int).tdiv y ≤ 0 := by
        rw [show (-9223372036854775808 : Int) = -(9223372036854775808) from rfl, Int.neg_tdiv]
        have := Int.tdiv_nonneg (a := 9223372036854775808) (b := y) (by omega) (by omega)
        omega
      constructor <;> omega
    · constructor <;> omega
  rw [← Int64.toInt_inj, xj_ti hb, Int64.toInt_div_of_ne_right _ _ (by rw [show (-1 : Int64) = Int64.ofInt (-1) from rfl]; intro q; have := (xj_eq hry (by decide)).mp q; omega), xj_ti hrx, xj_ti hry]
theorem xw_ldiv (hx : p.tables.exec = Jvm.exec) (hb : c.code = cc) {x y : Int} (hd : decode cc pc = .ok (.ldiv, 1)) (hrx : xrl x) (hy : 0 < y) (hry : xrl y) (kk : xW T p l e R s m args below meth c Q G nL (pc + 1) L (xJ (x.tdiv y) :: st) h k n) : xW T p l e R s m args below meth c Q G nL pc L (xJ y :: xJ x :: st) h k n := by
  intro H locs ls hM hS hL hl
  have hne : ¬ Int64.ofInt y = 0 := by rw [show (0 : Int64) = Int64.ofInt 0 from rfl, xj_eq hry (by decide)]; omega
  refine lv_ldiv hx hb hd hne ?_
  rw [xj_div hrx hy hry]
  exact kk H locs ls hM hS hL hl
theorem xj_cmp {x y : Int} (hrx : xrl x) (hry : xrl y) : lg_cmp (Int64.ofInt x) (Int64.ofInt y) = Int32.ofInt (x_lcmp x y) := by
  unfold lg_cmp x_lcmp
  simp only [xj_lt hry hrx, xj_eq hrx hry]
  by_cases h1 : y < x
  · rw [if_pos h1, if_neg (by omega), if_neg (by omega)]; rfl
  · by_cases h2 : x = y
    · rw [if_neg h1, if_pos h2, if_neg (by omega), if_pos h2]; rfl
    · rw [if_neg h1, if_neg h2, if_pos (by omega)]; rfl
theorem xw_lcmp (hx : p.tables.exec = Jvm.exec) (hb : c.code = cc) {x y : Int} (hd : decode cc pc = .ok (.lcmp, 1)) (hrx : xrl x) (hry : xrl y) (kk : xW T p l e R s m args below meth c Q G nL (pc + 1) L (xI (x_lcmp x y) :: st) h k n) : xW T p l e R s m args below meth c Q G nL pc L (xJ y :: xJ x :: st) h k n := by
  intro H locs ls hM hS hL hl
  refine W.lcmp hx hb hd ?_
  rw [xj_cmp hrx hry]
  exact kk H locs ls hM hS hL hl
theorem xw_i2l (hx : p.tables.exec = Jvm.exec) (hb : c.code = cc) {x : Int} (hd : decode cc pc = .ok (.i2l, 1)) (hr : xrg x) (kk : xW T p l e R s m args below meth c Q G nL (pc + 1) L (xJ x :: st) h k n) : xW T p l e R s m args below meth c Q G nL pc L (xI x :: st) h k n := by
  intro H locs ls hM hS hL hl
  refine lv_i2l hx hb hd ?_ (kk H locs ls hM hS hL hl)
  apply Int64.toInt_inj.mp
  rw [Int32.toInt_toInt64, xi_ti hr, xj_ti ⟨by omega, by omega⟩]
theorem xw_l2i (hx : p.tables.exec = Jvm.exec) (hb : c.code = cc) {x : Int} (hd : decode cc pc = .ok (.l2i, 1)) (kk : xW T p l e R s m args below meth c Q G nL (pc + 1) L (xI x :: st) h k n) : xW T p l e R s m args below meth c Q G nL pc L (xJ x :: st) h k n :=
  fun H locs ls hM hS hL hl => lv_l2i hx hb hd Int64.toInt32_ofInt (kk H locs ls hM hS hL hl)
theorem xw_dup (hx : p.tables.exec = Jvm.exec) (hb : c.code = cc) {v : xV} (hd : decode cc pc = .ok (.dup, 1)) (hv : ∀ z, v ≠ xJ z) (kk : xW T p l e R s m args below meth c Q G nL (pc + 1) L (v :: v :: st) h k n) : xW T p l e R s m args below meth c Q G nL pc L (v :: st) h k n :=
  fun H locs ls hM hS hL hl => lv_dup hx hb hd (xcat1 hv) (kk H locs ls hM hS hL hl)
theorem xw_pop (hx : p.tables.exec = Jvm.exec) (hb : c.code = cc) {v : xV} (hd : decode cc pc = .ok (.pop, 1)) (hv : ∀ z, v ≠ xJ z) (kk : xW T p l e R s m args below meth c Q G nL (pc + 1) L st h k n) : xW T p l e R s m args below meth c Q G nL pc L (v :: st) h k n :=
  fun H locs ls hM hS hL hl => lv_pop hx hb hd (xcat1 hv) (kk H locs ls hM hS hL hl)
theorem xw_dup_x1 (hx : p.tables.exec = Jvm.exec) (hb : c.code = cc) {v w : xV} (hd : decode cc pc = .ok (.dup_x1, 1)) (hv : ∀ z, v ≠ xJ z) (hw : ∀ z, w ≠ xJ z) (kk : xW T p l e R s m args below meth c Q G nL (pc + 1) L (v :: w :: v :: st) h k n) : xW T p l e R s m args below meth c Q G nL pc L (v :: w :: st) h k n :=
  fun H locs ls hM hS hL hl => lv_dup_x1 hx hb hd (xcat1 hv) (xcat1 hw) (kk H locs ls hM hS hL hl)
theorem xw_dup_x2 (hx : p.tables.exec = Jvm.exec) (hb : c.code = cc) {v w u : xV} (hd : decode cc pc = .ok (.dup_x2, 1)) (hv : ∀ z, v ≠ xJ z) (hw : ∀ z, w ≠ xJ z) (hu : ∀ z, u ≠ xJ z) (kk : xW T p l e R s m args below meth c Q G nL (pc + 1) L (v :: w :: u :: v :: st) h k n) : xW T p l e R s m args below meth c Q G nL pc L (v :: w :: u :: st) h k n :=
  fun H locs ls hM hS hL hl => lv_dup_x2 hx hb hd (xcat1 hv) (xcat1 hw) (xcat1 hu) (kk H locs ls hM hS hL hl)
theorem xw_dup2 (hx : p.tables.exec = Jvm.exec) (hb : c.code = cc) {v w : xV} (hd : decode cc pc = .ok (.dup2, 1)) (hv : ∀ z, v ≠ xJ z) (hw : ∀ z, w ≠ xJ z) (kk : xW T p l e R s m args below meth c Q G nL (pc + 1) L (v :: w :: v :: w :: st) h k n) : xW T p l e R s m args below meth c Q G nL pc L (v :: w :: st) h k n :=
  fun H locs ls hM hS hL hl => lv_dup2_11 hx hb hd (xcat1 hv) (xcat1 hw) (kk H locs ls hM hS hL hl)
theorem xw_icmp_lt (hx : p.tables.exec = Jvm.exec) (hb : c.code = cc) {x y off : Int} {tgt : Nat} (hd : decode cc pc = .ok (.if_icmp .lt off, 3)) (ht : (pc : Int) + off = (tgt : Int)) (hrx : xrg x) (hry : xrg y) (kt : x < y → xW T p l e R s m args below meth c Q G nL tgt L st h k n) (kf : y ≤ x → xW T p l e R s m args below meth c Q G nL (pc + 3) L st h k n) : xW T p l e R s m args below meth c Q G nL pc L (xI y :: xI x :: st) h k n :=
  fun H locs ls hM hS hL hl => lv_icmp_lt hx hb hd ht (fun q => kt ((xi_lt hrx hry).mp q) H locs ls hM hS hL hl) (fun q => kf (by have := mt (xi_lt hrx hry).mpr q; omega) H locs ls hM hS hL hl)
theorem xw_icmp_ge (hx : p.tables.exec = Jvm.exec) (hb : c.code = cc) {x y off : Int} {tgt : Nat} (hd : decode cc pc = .ok (.if_icmp .ge off, 3)) (ht : (pc : Int) + off = (tgt : Int)) (hrx : xrg x) (hry : xrg y) (kt : y ≤ x → xW T p l e R s m args below meth c Q G nL tgt L st h k n) (kf : x < y → xW T p l e R s m args below meth c Q G nL (pc + 3) L st h k n) : xW T p l e R s m args below meth c Q G nL pc L (xI y :: xI x :: st) h k n :=
  fun H locs ls hM hS hL hl => lv_icmp_ge hx hb hd ht (fun q => kt ((xi_le hry hrx).mp q) H locs ls hM hS hL hl) (fun q => kf (by have := mt (xi_le hry hrx).mpr q; omega) H locs ls hM hS hL hl)
theorem xw_icmp_gt (hx : p.tables.exec = Jvm.exec) (hb : c.code = cc) {x y off : Int} {tgt : Nat} (hd : decode cc pc = .ok (.if_icmp .gt off, 3)) (ht : (pc : Int) + off = (tgt : Int)) (hrx : xrg x) (hry : xrg y) (kt : y < x → xW T p l e R s m args below meth c Q G nL tgt L st h k n) (kf : x ≤ y → xW T p l e R s m args below meth c Q G nL (pc + 3) L st h k n) : xW T p l e R s m args below meth c Q G nL pc L (xI y :: xI x :: st) h k n :=
  fun H locs ls hM hS hL hl => lv_icmp_gt hx hb hd ht (fun q => kt ((xi_lt hry hrx).mp q) H locs ls hM hS hL hl) (fun q => kf (by have := mt (xi_lt hry hrx).mpr q; omega) H locs ls hM hS hL hl)
theorem xw_icmp_le (hx : p.tables.exec = Jvm.exec) (hb : c.code = cc) {x y off : Int} {tgt : Nat} (hd : decode cc pc = .ok (.if_icmp .le off, 3)) (ht : (pc : Int) + off = (tgt : Int)) (hrx : xrg x) (hry : xrg y) (kt : x ≤ y → xW T p l e R s m args below meth c Q G nL tgt L st h k n) (kf : y < x → xW T p l e R s m args below meth c Q G nL (pc + 3) L st h k n) : xW T p l e R s m args below meth c Q G nL pc L (xI y :: xI x :: st) h k n :=
  fun H locs ls hM hS hL hl => lv_icmp_le hx hb hd ht (fun q => kt ((xi_le hrx hry).mp q) H locs ls hM hS hL hl) (fun q => kf (by have := mt (xi_le hrx hry).mpr q; omega) H locs ls hM hS hL hl)
theorem xw_icmp_eq (hx : p.tables.exec = Jvm.exec) (hb : c.code = cc) {x y off : Int} {tgt : Nat} (hd : decode cc pc = .ok (.if_icmp .eq off, 3)) (ht : (pc : Int) + off = (tgt : Int)) (hrx : xrg x) (hry : xrg y) (kt : x = y → xW T p l e R s m args below meth c Q G nL tgt L st h k n) (kf : x ≠ y → xW T p l e R s m args below meth c Q G nL (pc + 3) L st h k n) : xW T p l e R s m args below meth c Q G nL pc L (xI y :: xI x :: st) h k n :=
  fun H locs ls hM hS hL hl => lv_icmp_eq hx hb hd ht (fun q => kt ((xi_eq hrx hry).mp q) H locs ls hM hS hL hl) (fun q => kf (by have := mt (xi_eq hrx hry).mpr q; omega) H locs ls hM hS hL hl)
theorem xw_icmp_ne (hx : p.tables.exec = Jvm.exec) (hb : c.code = cc) {x y off : Int} {tgt : Nat} (hd : decode cc pc = .ok (.if_icmp .ne off, 3)) (ht : (pc : Int) + off = (tgt : Int)) (hrx : xrg x) (hry : xrg y) (kt : x ≠ y → xW T p l e R s m args below meth c Q G nL tgt L st h k n) (kf : x = y → xW T p l e R s m args below meth c Q G nL (pc + 3) L st h k n) : xW T p l e R s m args below meth c Q G nL pc L (xI y :: xI x :: st) h k n :=
  fun H locs ls hM hS hL hl => lv_icmp_ne hx hb hd ht (fun q => kt (mt (xi_eq hrx hry).mpr q) H locs ls hM hS hL hl) (fun q => kf ((xi_eq hrx hry).mp q) H locs ls hM hS hL hl)
theorem xw_if_lt (hx : p.tables.exec = Jvm.exec) (hb : c.code = cc) {x off : Int} {tgt : Nat} (hd : decode cc pc = .ok (.ifCond .lt off, 3)) (ht : (pc : Int) + off = (tgt : Int)) (hrx : xrg x) (kt : x < 0 → xW T p l e R s m args below meth c Q G nL tgt L st h k n) (kf : 0 ≤ x → xW T p l e R s m args below meth c Q G nL (pc + 3) L st h k n) : xW T p l e R s m args below meth c Q G nL pc L (xI x :: st) h k n :=
  fun H locs ls hM hS hL hl => lv_if_lt hx hb hd ht (fun q => kt ((xi_lt hrx xrg0).mp q) H locs ls hM hS hL hl) (fun q => kf (by have := mt (xi_lt hrx xrg0).mpr q; omega) H locs ls hM hS hL hl)
theorem xw_if_ge (hx : p.tables.exec = Jvm.exec) (hb : c.code = cc) {x off : Int} {tgt : Nat} (hd : decode cc pc = .ok (.ifCond .ge off, 3)) (ht : (pc : Int) + off = (tgt : Int)) (hrx : xrg x) (kt : 0 ≤ x → xW T p l e R s m args below meth c Q G nL tgt L st h k n) (kf : x < 0 → xW T p l e R s m args below meth c Q G nL (pc + 3) L st h k n) : xW T p l e R s m args below meth c Q G nL pc L (xI x :: st) h k n :=
  fun H locs ls hM hS hL hl => lv_if_ge hx hb hd ht (fun q => kt ((xi_le xrg0 hrx).mp q) H locs ls hM hS hL hl) (fun q => kf (by have := mt (xi_le xrg0 hrx).mpr q; omega) H locs ls hM hS hL hl)
theorem xw_if_gt (hx : p.tables.exec = Jvm.exec) (hb : c.code = cc) {x off : Int} {tgt : Nat} (hd : decode cc pc = .ok (.ifCond .gt off, 3)) (ht : (pc : Int) + off = (tgt : Int)) (hrx : xrg x) (kt : 0 < x → xW T p l e R s m args below meth c Q G nL tgt L st h k n) (kf : x ≤ 0 → xW T p l e R s m args below meth c Q G nL (pc + 3) L st h k n) : xW T p l e R s m args below meth c Q G nL pc L (xI x :: st) h k n :=
  fun H locs ls hM hS hL hl => lv_if_gt hx hb hd ht (fun q => kt ((xi_lt xrg0 hrx).mp q) H locs ls hM hS hL hl) (fun q => kf (by have := mt (xi_lt xrg0 hrx).mpr q; omega) H locs ls hM hS hL hl)
theorem xw_if_le (hx : p.tables.exec = Jvm.exec) (hb : c.code = cc) {x off : Int} {tgt : Nat} (hd : decode cc pc = .ok (.ifCond .le off, 3)) (ht : (pc : Int) + off = (tgt : Int)) (hrx : xrg x) (kt : x ≤ 0 → xW T p l e R s m args below meth c Q G nL tgt L st h k n) (kf : 0 < x → xW T p l e R s m args below meth c Q G nL (pc + 3) L st h k n) : xW T p l e R s m args below meth c Q G nL pc L (xI x :: st) h k n :=
  fun H locs ls hM hS hL hl => lv_if_le hx hb hd ht (fun q => kt ((xi_le hrx xrg0).mp q) H locs ls hM hS hL hl) (fun q => kf (by have := mt (xi_le hrx xrg0).mpr q; omega) H locs ls hM hS hL hl)
theorem xw_if_eq (hx : p.tables.exec = Jvm.exec) (hb : c.code = cc) {x off : Int} {tgt : Nat} (hd : decode cc pc = .ok (.ifCond .eq off, 3)) (ht : (pc : Int) + off = (tgt : Int)) (hrx : xrg x) (kt : x = 0 → xW T p l e R s m args below meth c Q G nL tgt L st h k n) (kf : x ≠ 0 → xW T p l e R s m args below meth c Q G nL (pc + 3) L st h k n) : xW T p l e R s m args below meth c Q G nL pc L (xI x :: st) h k n :=
  fun H locs ls hM hS hL hl => lv_if_eq hx hb hd ht (fun q => kt ((xi_eq hrx xrg0).mp q) H locs ls hM hS hL hl) (fun q => kf (by have := mt (xi_eq hrx xrg0).mpr q; omega) H locs ls hM hS hL hl)
theorem xw_if_ne (hx : p.tables.exec = Jvm.exec) (hb : c.code = cc) {x off : Int} {tgt : Nat} (hd : decode cc pc = .ok (.ifCond .ne off, 3)) (ht : (pc : Int) + off = (tgt : Int)) (hrx : xrg x) (kt : x ≠ 0 → xW T p l e R s m args below meth c Q G nL tgt L st h k n) (kf : x = 0 → xW T p l e R s m args below meth c Q G nL (pc + 3) L st h k n) : xW T p l e R s m args below meth c Q G nL pc L (xI x :: st) h k n :=
  fun H locs ls hM hS hL hl => lv_if_ne hx hb hd ht (fun q => kt (mt (xi_eq hrx xrg0).mpr q) H locs ls hM hS hL hl) (fun q => kf ((xi_eq hrx xrg0).mp q) H locs ls hM hS hL hl)
theorem xw_goto (hx : p.tables.exec = Jvm.exec) (hb : c.code = cc) {off : Int} {tgt : Nat} (hd : decode cc pc = .ok (.goto off, 3)) (ht : (pc : Int) + off = (tgt : Int)) (kk : xW T p l e R s m args below meth c Q G nL tgt L st h k n) : xW T p l e R s m args below meth c Q G nL pc L st h k n :=
  fun H locs ls hM hS hL hl => lv_goto hx hb hd ht (kk H locs ls hM hS hL hl)
theorem xw_tableOut (hx : p.tables.exec = Jvm.exec) (hb : c.code = cc) {dflt lo hi x : Int} {offs : Array Int} {len tgt : Nat} (hd : decode cc pc = .ok (.tableswitch dflt lo hi offs, len)) (hrx : xrg x) (hxo : x < lo ∨ hi < x) (ht : (pc : Int) + dflt = (tgt : Int)) (kk : xW T p l e R s m args below meth c Q G nL tgt L st h k n) : xW T p l e R s m args below meth c Q G nL pc L (xI x :: st) h k n :=
  fun H locs ls hM hS hL hl => lv_tableOut hx hb hd (by rw [xi_ti hrx]; exact hxo) ht (kk H locs ls hM hS hL hl)
theorem xw_tableIn (hx : p.tables.exec = Jvm.exec) (hb : c.code = cc) {dflt lo hi x off : Int} {offs : Array Int} {len tgt : Nat} (hd : decode cc pc = .ok (.tableswitch dflt lo hi offs, len)) (hrx : xrg x) (h1 : lo ≤ x) (h2 : x ≤ hi) (ho : offs[(x - lo).toNat]? = some off) (ht : (pc : Int) + off = (tgt : Int)) (kk : xW T p l e R s m args below meth c Q G nL tgt L st h k n) : xW T p l e R s m args below meth c Q G nL pc L (xI x :: st) h k n :=
  fun H locs ls hM hS hL hl => lv_tableIn hx hb hd (by rw [xi_ti hrx]; omega) (by rw [xi_ti hrx]; omega) (by rw [xi_ti hrx]; exact ho) ht (kk H locs ls hM hS hL hl)
/-! the heap -/
/-- a field reference of the class own: the kf-th field of class ci; of a nest mate, or not -/
def xFld (own : String) (idx ci kf : Nat) (ty : FieldType) (fin nest : Bool) : Prop := ∃ (C : String) (F : u_T) (N : Nat) (tys : Nat → FieldType), xCl[ci]? = some (C, F, N) ∧ kf < N ∧ (∀ w ∈ u_ws C F N, w ∈ xTB) ∧ (∀ k, k < N → parseFieldDescriptor (F k).2.2.1 = some (tys k)) ∧ (∀ a, a < N → ∀ b, b < N → a ≠ b → (F a).2.1 ≠ (F b).2.1) ∧ tys kf = ty ∧ (F kf).2.2.2 = fin ∧ (nest = false → Cond.fieldLink own idx (F kf).1 (F kf).2.1 (F kf).2.2.1 ∈ xTB ∧ (fin = true → (F kf).1 = own)) ∧ (nest = true → ∃ host : String, Cond.fieldLinkNest own idx (F kf).1 (F kf).2.1 (F kf).2.2.1 host ∈ xTB)
/-- a value of a field's type -/
def xfit : FieldType → xV → Bool
  | .int, .inl _ => true
  | .long, .inr (.inl _) => true
  | .object _, .inr (.inr _) => true
  | .array _, .inr (.inr _) => true
  | _, _ => false
theorem xfit_ok {G : xG} {ty : FieldType} {v : xV} (h : xfit ty v = true) : narrow ty (xc G v) = xc G v ∧ fits ty (xc G v) = true := by
  rcases v with z | z | z <;> cases ty <;> simp [xfit] at h
  · exact ⟨rfl, rfl⟩
  · exact ⟨rfl, rfl⟩
  · cases z <;> exact ⟨rfl, rfl⟩
  · cases z <;> exact ⟨rfl, rfl⟩
theorem xmt_P {H : Heap} (hM : xMt T G h H) {a ci : Nat} {fs : List xV} (ha : xrd T h a = some (.inl (ci, fs))) : va_P G.1 xCl [(xad G a, .inr (ci, fs.map (xc G)))] H := by
  intro j q hj
  have hz : j < 1 := (List.getElem?_eq_some_iff.mp hj).1
  rw [show j = 0 by omega] at hj
  cases hj
  exact (hM.2.2.2 a _ ha).1
theorem xw_get (hx : p.tables.exec = Jvm.exec) (hb : c.code = cc) (hts : ∀ w ∈ xTB, w.before args s = true) {own : String} (hown : s.vm.findClass own = some m.cls) (hK : xKn G s) {idx ci kf : Nat} {ty : FieldType} {fin nest : Bool} (hF : xFld own idx ci kf ty fin nest) (hd : decode cc pc = .ok (.getfield idx, 3)) {a : Nat} {fs : List xV} {v : xV} (ha : xrd T h a = some (.inl (ci, fs))) (hv : fs[kf]? = some v) (kk : xW T p l e R s m args below meth c Q G nL (pc + 3) L (v :: st) h k n) : xW T p l e R s m args below meth c Q G nL pc L (xR (some a) :: st) h k n := by
  intro H locs ls hM hS hL hl
  have hv' : (fs.map (xc G))[kf]? = some (xc G v) := by simp [hv]
  obtain ⟨C, F, N, tys, hc, hk, hin, -, -, -, -, hl1, hl2⟩ := hF
  cases nest with
  | false => exact va_get (D := G.1) hx hb hts hin hown hK.1 (xmt_P hM ha) 0 rfl hc kf hk (hts _ (hl1 rfl).1) (fun _ q => q) hv' hd (kk H locs ls hM hS hL hl)
  | true =>
    obtain ⟨host, hlink⟩ := hl2 rfl
    exact va_getN (D := G.1) hx hb hts hin hown hK.1 (xmt_P hM ha) 0 rfl hc kf hk (hts _ hlink) (fun _ q => q) hv' hd (kk H locs ls hM hS hL hl)
theorem xat_set {C : String} {F : u_T} {N q ci kf : Nat} {fs : List xV} {v : xV} {H1 : Heap} {cell : Cell} (hc : xCl[ci]? = some (C, F, N)) (hap : ∀ x y, x < N → y < N → x ≠ y → (G.1.2 ci) x ≠ (G.1.2 ci) y) (hk : kf < N) (hlen : kf < fs.length) (q2 : cell.cls = G.1.1 ci) (q3 : cell.vm = .none) (q4 : ∀ k, k < N → cell.slots[G.1.2 ci k]? = some (vp_V (fs.map (xc G)) k)) (e1 : H1[q]? = some (cell.setSlot (G.1.2 ci kf) (xc G v))) : xat G q (.inl (ci, fs.set kf v)) H1 := by
  refine ⟨_, hc, t_OB.to (V := updV (vp_V (fs.map (xc G))) kf (xc G v)) ⟨_, e1, q2, q3, t_set q4 hap hk _⟩ (fun j _ => ?_)⟩
  rw [vp_updV_set (by rw [List.length_map]; exact hlen), List.map_set]
theorem xw_put (hx : p.tables.exec = Jvm.exec) (hb : c.code = cc) (hts : ∀ w ∈ xTB, w.before args s = true) {own : String} (hown : s.vm.findClass own = some m.cls) (hK : xKn G s) {idx ci kf : Nat} {ty : FieldType} {fin nest : Bool} (hF : xFld own idx ci kf ty fin nest) (hnest : fin = true → meth.name = "<init>" ∧ nest = false) {v : xV} (hfit : xfit ty v = true) (hd : decode cc pc = .ok (.putfield idx, 3)) {a : Nat} (kk : xwf T h a ci kf v fun h' => xW T p l e R s m args below meth c Q G nL (pc + 3) L st h' k n) : xW T p l e R s m args below meth c Q G nL pc L (v :: xR (some a) :: st) h k n := by
  intro H locs ls hM hS hL hl
  obtain ⟨fs, h', ha, hlen, e1', e2', e3', kk⟩ := xwf_spec kk
  obtain ⟨C, F, N, tys, hc, hk, hin, hty0, hnm, hty, hfin, hl1, hl2⟩ := hF
  have hap := va_apart (D := G.1) (own := own) hts hin tys hty0 hnm hK.1 hc
  obtain ⟨r, h1, cell, q1, q2, q3, q4⟩ := (hM.2.2.2 a _ ha).1
  have hr : r = (C, F, N) := Option.some.inj (h1.symm.trans hc)
  subst hr
  have ha0 : a ≠ 0 := fun q => by
    obtain ⟨n', f', q'⟩ := (hM.2.2.2 a _ ha).2.mp q
    cases q'
  have hbase := xad_base (G := G) ha0
  obtain ⟨hS1, hfc, kC, hkC, hkind⟩ := hK.1.1 ci _ hc
  obtain ⟨cf, kf', fi, f, hi, hsl⟩ := hS1 kf hk
  have hlay := hts _ (hin _ (u_in_lay hk))
  unfold u_lay at hlay
  have hst := (u_facts hfc hkC (u_lays hts hin hk) hi).1
  obtain ⟨n1, n2⟩ := xfit_ok (G := G) hfit
  have hd1 : parseFieldDescriptor (F kf).2.2.1 = some ty := by rw [hty0 kf hk, hty]
  have put : ∀ H' : Heap, H'[xad G a]? = some (cell.setSlot (G.1.2 ci kf) (xc G v)) → H'.size = H.size → (∀ q, q ≠ xad G a → H'[q]? = H[q]?) → xMt T G h' H' := fun H' e1 e2 e3 => hM.put ha ha0 (fun n f q => by cases q) e2 e3 e1' e2' e3' (xat_set hc hap hk hlen q2 q3 q4 e1)
  cases fin with
  | false =>
    rw [if_neg (by rw [hfin]; decide)] at hlay
    have h6 := u_store hfc hkC hkind hlay hi hd1 n1 n2
    cases nest with
    | false =>
      refine W.putK hx hb (f := f) ⟨hown, hts _ (hl1 rfl).1, ⟨_, _, _, hi⟩, hst⟩ (by rw [q2]; exact h6) q1 q3 (by rw [hsl]; exact k2_hasslot (q4 kf hk)) rfl rfl hd fun H' e1 e2 e3 => ?_
      rw [hsl] at e1 ⊢
      exact kk H' _ ls (put H' e1 e2 e3) (hS.put e2 e3 hbase) hL hl
    | true =>
      obtain ⟨host, hlink⟩ := hl2 rfl
      refine va_WputK hx hb (f := f) hown (hts _ hlink) hi hst (by rw [q2]; exact h6) q1 q3 (by rw [hsl]; exact k2_hasslot (q4 kf hk)) rfl rfl hd fun H' e1 e2 e3 => ?_
      rw [hsl] at e1 ⊢
      exact kk H' _ ls (put H' e1 e2 e3) (hS.put e2 e3 hbase) hL hl
  | true =>
    rw [if_pos hfin] at hlay
    obtain ⟨hnm1, rfl⟩ := hnest rfl
    obtain ⟨hlink, hown2⟩ := hl1 rfl
    have hcf : m.cls = cf := by
      obtain ⟨_, _, c', _, _, _, -, -, hf', -, -, -, hown3, -⟩ := Cond.laysFinal_spec hlay
      have e1 : c' = cf := by have := hi.symm.trans hf'; simp at this; exact this.1.symm
      rw [hown2 rfl] at hown3
      rw [← e1]; exact Option.some.inj (hown.symm.trans hown3)
    have h6 := u_fits hfc hkC hkind (Or.inr hlay) hi hd1 n1 n2
    refine W.putFinK hx hb hown (hts _ hlink) hi hst hcf hnm1 (by rw [q2]; exact h6) q1 q3 (by rw [hsl]; exact k2_hasslot (q4 kf hk)) rfl rfl hd fun H' e1 e2 e3 => ?_
    rw [hsl] at e1 ⊢
    exact kk H' _ ls (put H' e1 e2 e3) (hS.put e2 e3 hbase) hL hl
end XROWS
