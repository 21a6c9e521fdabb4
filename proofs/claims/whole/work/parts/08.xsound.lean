/-! xop is sound: an instruction's xop gives the step of the real machine -/
theorem xst_mono {K K' : xLs → Prop} (hk : ∀ L, K L → K' L) {L : xLs} {i : Nat} {v : xV} (h : xst L i v K) : xst L i v K' := by
  induction L generalizing i K K' with
  | nil => exact h.elim
  | cons a L ih =>
    cases i with
    | zero => exact hk _ h
    | succ i =>
      unfold xst at h ⊢
      split at h
      · exact ih (fun L q => hk _ q) h
      · exact ih (fun L q => hk _ q) h
theorem xst2_mono : ∀ {L : xLs} {i : Nat} {v : Int} {K K' : xLs → Prop}, (∀ L, K L → K' L) → xst2 L i v K → xst2 L i v K'
  | [], i, _, _, _, _, h => by cases i <;> exact h.elim
  | [_], i, _, _, _, _, h => by rcases i with _ | i <;> exact h.elim
  | _ :: _ :: _, 0, _, _, _, hk, h => hk _ h
  | a :: b :: L, i + 1, z, K, K', hk, h => by
    unfold xst2 at h ⊢
    split at h
    · exact xst2_mono (L := b :: L) (fun L q => hk _ q) h
    · exact xst2_mono (L := b :: L) (fun L q => hk _ q) h
theorem xwf_mono {T : xT} {h : xH} {a ci kf : Nat} {v : xV} {K K' : xH → Prop} (hk : ∀ h, K h → K' h) (hw : xwf T h a ci kf v K) : xwf T h a ci kf v K' := by
  obtain ⟨M, D, nx⟩ := h
  unfold xwf at hw ⊢
  simp only at hw ⊢
  split at hw
  · have h1 := xcond hw
    rw [h1.1]
    simp only [cond_true]
    have h2 := h1.2
    split at h2 <;> first | exact hk _ h2 | exact h2.elim
  · exact hw.elim
  · split at hw
    · have h1 := xcond hw
      rw [h1.1]
      exact hk _ h1.2
    · exact hw.elim
theorem xwa_mono {T : xT} {h : xH} {a k : Nat} {v : xV} {K K' : xH → Prop} (hk : ∀ h, K h → K' h) (hw : xwa T h a k v K) : xwa T h a k v K' := by
  obtain ⟨M, D, nx⟩ := h
  unfold xwa at hw ⊢
  simp only at hw ⊢
  split at hw
  · split at hw <;> first | exact hk _ hw | exact hw.elim
  · exact hw.elim
  · split at hw
    · exact hk _ hw
    · exact hw.elim
def xMk (own : String) (i : Nat) (d : Nat × xMd × Nat × Nat) : Prop := match d.1 with
  | 0 => xLk own i d.2.1 d.2.2.1 ∧ Cond.static d.2.1.1 ∈ xTB
  | 1 => xLk own i d.2.1 d.2.2.1 ∧ Cond.instanceMethod d.2.1.1 ∈ xTB ∧ Cond.selects d.2.1.1.cls d.2.1.1 d.2.1.1 ∈ xTB ∧ ∃ (F : u_T) (N : Nat), xCl[d.2.2.2]? = some (d.2.1.1.cls, F, N)
  | 2 => xLk own i d.2.1 d.2.2.1 ∧ Cond.instanceMethod d.2.1.1 ∈ xTB ∧ d.2.1.1.name = "<init>" ∧ d.2.1.2.2.2 = none
  | 3 => Cond.methodLink own i objectInit ∈ xTB ∧ Cond.instanceMethod objectInit ∈ xTB ∧ Cond.code objectInit ⟨#[0xb1]⟩ 1 none ∈ xTB
  | 5 => Cond.methodLink own i Lib.Math.max.name ∈ xTB ∧ Cond.static Lib.Math.max.name ∈ xTB ∧ Cond.initialized "java/lang/Math" ∈ xTB ∧ Cond.code Lib.Math.max.name Lib.Math.max.code 2 (some .int) ∈ xTB
  | 6 => Cond.methodLink own i Lib.Math.min.name ∈ xTB ∧ Cond.static Lib.Math.min.name ∈ xTB ∧ Cond.initialized "java/lang/Math" ∈ xTB ∧ Cond.code Lib.Math.min.name Lib.Math.min.code 2 (some .int) ∈ xTB
  | 7 => Cond.methodLink own i Lib.Math.abs.name ∈ xTB ∧ Cond.static Lib.Math.abs.name ∈ xTB ∧ Cond.initialized "java/lang/Math" ∈ xTB ∧ Cond.code Lib.Math.abs.name Lib.Math.abs.code 1 (some .int) ∈ xTB
  | 4 => Cond.methodLink own i arraycopyName ∈ xTB ∧ Cond.native arraycopyName ∈ xTB ∧ Cond.static arraycopyName ∈ xTB ∧ Cond.initialized "java/lang/System" ∈ xTB
  | _ => False
def xTbOk (own : String) (tb : xTb) : Prop :=
  (∀ i d, (i, d) ∈ tb.1 → xFld own i d.1 d.2.1 d.2.2.1 d.2.2.2.1 d.2.2.2.2) ∧ (∀ i d, (i, d) ∈ tb.2.1 → xMk own i d) ∧ (∀ i d, (i, d) ∈ tb.2.2.1 → xNw own i d.1 d.2) ∧ (∀ i z, (i, z) ∈ tb.2.2.2.1 → Cond.constant own i (Int32.ofInt z) ∈ xTB) ∧ (∀ i z, (i, z) ∈ tb.2.2.2.2.1 → Cond.constantLong own i (Int64.ofInt z) ∈ xTB) ∧ (∀ i, i ∈ tb.2.2.2.2.2 → Cond.classLink own i "[[I" ∈ xTB)
/-- what the walk of a method's body rests on -/
def xEv (p : Program) (s : State) (m : MethodId) (args : Array Value) (meth : Method) (c : Code) (cc : ByteArray) (nL : Nat) (own : String) (tb : xTb) (G : xG) (ini : Bool) : Prop :=
  p.tables.exec = Jvm.exec ∧ c.code = cc ∧ c.maxLocals = nL ∧ (∀ w ∈ xTB, w.before args s = true) ∧ s.vm.findClass own = some m.cls ∧ xKn G s ∧ G.2.2.1 ≤ s.heap.size ∧ xTbOk own tb ∧ (ini = true → meth.name = "<init>")
section XSOUND
variable {T : xT} {p : Program} {l : Launch} {e : Env} {R : Room} {s : State} {m : MethodId} {args : Array Value} {below : List Frame} {meth : Method} {c : Code} {Q : State → Prop} {cc : ByteArray} {G : xG} {nL : Nat} {own : String} {tb : xTb} {ini : Bool} {rt : Option FieldType} {P : xP} {C : xC}
/-- the ends of the body -/
def xRet (T : xT) (p : Program) (l : Launch) (e : Env) (R : Room) (s : State) (m : MethodId) (args : Array Value) (below : List Frame) (meth : Method) (c : Code) (Q : State → Prop) (G : xG) (nL : Nat) (cc : ByteArray) (rt : Option FieldType) (P : xP) : Prop :=
  ∀ (pc : Nat) (op : Instr) (L : xLs) (st : List xV) (r : Option xV) (h : xH) (k n : Nat), decode cc pc = .ok (op, 1) → st = r.toList → P r h → k ≤ R.cells → n ≤ R.slots →
    (op = .ireturn ∧ (∃ z, r = some (xI z) ∧ (rt = some .int ∨ (rt = some .boolean ∧ (z = 0 ∨ z = 1))))) ∨ (op = .lreturn ∧ (∃ z, r = some (xJ z)) ∧ rt = some .long) ∨ (op = .areturn ∧ (∃ q, r = some (xR q)) ∧ ((∃ C, rt = some (.object C)) ∨ ∃ t, rt = some (.array t))) ∨ (op = .return_ ∧ r = none ∧ rt = none) → xW T p l e R s m args below meth c Q G nL pc L st h k n
theorem xop_ok (E : xEv p s m args meth c cc nL own tb G ini) (hC : ∀ μ as h k n rest K, C μ as h k n rest K → xcl T (R.frames, R.locals, R.cells, R.slots) G μ as h k n rest K) (hret : xRet T p l e R s m args below meth c Q G nL cc rt P) {op : Instr} {len tg pc : Nat} (hd : decode cc pc = .ok (op, len)) (hlen : xlen op = 0 ∨ xlen op = len) (htg : xtg pc tg op = true) {N : xN} {J : xS} (hN : ∀ L st h k n, N L st h k n → xW T p l e R s m args below meth c Q G nL (pc + len) L st h k n) (hJ : ∀ t L st h k n, J t L st h k n → xW T p l e R s m args below meth c Q G nL t L st h k n) {L : xLs} {st : List xV} {h : xH} {k n : Nat} (hop : xop tb T (R.frames, R.locals, R.cells, R.slots) rt ini C P op tg pc L st h k n N J) : xW T p l e R s m args below meth c Q G nL pc L st h k n := by
  obtain ⟨hx, hb, hml, hts, hown, hK, hbase, ⟨tF, tM, tN, tC, tL, tA⟩, hini⟩ := E
  cases op
  case iconst z =>
    obtain rfl : 1 = len := by simpa [xlen] using hlen
    exact xw_iconst hx hb hd (hN _ _ _ _ _ hop)
  case bipush z =>
    obtain rfl : 2 = len := by simpa [xlen] using hlen
    obtain ⟨hz, hop⟩ := hop
    refine xw_bipush hx hb hd ?_ (hN _ _ _ _ _ hop)
    apply Int32.toInt_inj.mp
    rw [Int8.toInt_toInt32, Int8.toInt_ofInt_of_le (by omega) (by omega), xi_ti ⟨by omega, by omega⟩]
  case sipush z =>
    obtain rfl : 3 = len := by simpa [xlen] using hlen
    obtain ⟨hz, hop⟩ := hop
    refine xw_sipush hx hb hd ?_ (hN _ _ _ _ _ hop)
    apply Int32.toInt_inj.mp
    rw [Int16.toInt_toInt32, Int16.toInt_ofInt_of_le (by omega) (by omega), xi_ti ⟨by omega, by omega⟩]
  case lconst z =>
    obtain rfl : 1 = len := by simpa [xlen] using hlen
    exact xw_lconst hx hb hd (hN _ _ _ _ _ hop)
  case ldc i =>
    obtain rfl : 2 = len := by simpa [xlen] using hlen
    obtain ⟨z, h1, h2⟩ := xo_spec (show xo _ _ from hop)
    exact xw_ldc hx hb hown (hts _ (tC _ _ (xlk_mem h1))) hd (hN _ _ _ _ _ h2)
  case ldc_w i =>
    obtain rfl : 3 = len := by simpa [xlen] using hlen
    obtain ⟨z, h1, h2⟩ := xo_spec (show xo _ _ from hop)
    exact xw_ldcw hx hb hown (hts _ (tC _ _ (xlk_mem h1))) hd (hN _ _ _ _ _ h2)
  case ldc2_w i =>
    obtain rfl : 3 = len := by simpa [xlen] using hlen
    obtain ⟨z, h1, h2⟩ := xo_spec (show xo _ _ from hop)
    exact xw_ldc2 hx hb hown (hts _ (tL _ _ (xlk_mem h1))) hd (hN _ _ _ _ _ h2)
  case iload_n i =>
    obtain rfl : 1 = len := by simpa [xlen] using hlen
    obtain ⟨z, h1, h2⟩ := xli_spec (show xli _ _ _ from hop)
    exact xw_iload_n hx hb hd h1 (hN _ _ _ _ _ h2)
  case iload i =>
    obtain rfl : 2 = len := by simpa [xlen] using hlen
    obtain ⟨z, h1, h2⟩ := xli_spec (show xli _ _ _ from hop)
    exact xw_iload hx hb hd h1 (hN _ _ _ _ _ h2)
  case lload_n i =>
    obtain rfl : 1 = len := by simpa [xlen] using hlen
    obtain ⟨z, h1, h2⟩ := xlj_spec (show xlj _ _ _ from hop)
    exact xw_lload_n hx hb hd h1 (hN _ _ _ _ _ h2)
  case lload i =>
    obtain rfl : 2 = len := by simpa [xlen] using hlen
    obtain ⟨z, h1, h2⟩ := xlj_spec (show xlj _ _ _ from hop)
    exact xw_lload hx hb hd h1 (hN _ _ _ _ _ h2)
  case aload_n i =>
    obtain rfl : 1 = len := by simpa [xlen] using hlen
    obtain ⟨z, h1, h2⟩ := xlr_spec (show xlr _ _ _ from hop)
    exact xw_aload_n hx hb hd h1 (hN _ _ _ _ _ h2)
  case aload i =>
    obtain rfl : 2 = len := by simpa [xlen] using hlen
    obtain ⟨z, h1, h2⟩ := xlr_spec (show xlr _ _ _ from hop)
    exact xw_aload hx hb hd h1 (hN _ _ _ _ _ h2)
  case istore_n i =>
    obtain rfl : 1 = len := by simpa [xlen] using hlen
    obtain ⟨z, r, rfl, h2⟩ := x1i_spec (show x1i _ _ from hop)
    exact xw_istore_n hx hb hd (xst_mono (fun L' h3 => hN _ _ _ _ _ h3) h2)
  case istore i =>
    obtain rfl : 2 = len := by simpa [xlen] using hlen
    obtain ⟨z, r, rfl, h2⟩ := x1i_spec (show x1i _ _ from hop)
    exact xw_istore hx hb hd (xst_mono (fun L' h3 => hN _ _ _ _ _ h3) h2)
  case lstore_n i =>
    obtain rfl : 1 = len := by simpa [xlen] using hlen
    obtain ⟨z, r, rfl, h2⟩ := x1j_spec (show x1j _ _ from hop)
    exact xw_lstore_n hx hb hd (xst2_mono (fun L' h3 => hN _ _ _ _ _ h3) h2)
  case lstore i =>
    obtain rfl : 2 = len := by simpa [xlen] using hlen
    obtain ⟨z, r, rfl, h2⟩ := x1j_spec (show x1j _ _ from hop)
    exact xw_lstore hx hb hd (xst2_mono (fun L' h3 => hN _ _ _ _ _ h3) h2)
  case astore_n i =>
    obtain rfl : 1 = len := by simpa [xlen] using hlen
    obtain ⟨z, r, rfl, h2⟩ := x1r_spec (show x1r _ _ from hop)
    exact xw_astore_n hx hb hd (xst_mono (fun L' h3 => hN _ _ _ _ _ h3) h2)
  case astore i =>
    obtain rfl : 2 = len := by simpa [xlen] using hlen
    obtain ⟨z, r, rfl, h2⟩ := x1r_spec (show x1r _ _ from hop)
    exact xw_astore hx hb hd (xst_mono (fun L' h3 => hN _ _ _ _ _ h3) h2)
  case iinc i q =>
    obtain rfl : 3 = len := by simpa [xlen] using hlen
    obtain ⟨z, h1, h2⟩ := xli_spec (show xli _ _ _ from hop)
    exact xw_iinc hx hb hd h1 (xst_mono (fun L' h3 => hN _ _ _ _ _ h3) h2)
  case iadd =>
    obtain rfl : 1 = len := by simpa [xlen] using hlen
    obtain ⟨x, y, r, rfl, h2⟩ := x2i_spec (show x2i _ _ from hop)
    exact xw_iadd hx hb hd (hN _ _ _ _ _ h2)
  case isub =>
    obtain rfl : 1 = len := by simpa [xlen] using hlen
    obtain ⟨x, y, r, rfl, h2⟩ := x2i_spec (show x2i _ _ from hop)
    exact xw_isub hx hb hd (hN _ _ _ _ _ h2)
  case imul =>
    obtain rfl : 1 = len := by simpa [xlen] using hlen
    obtain ⟨x, y, r, rfl, h2⟩ := x2i_spec (show x2i _ _ from hop)
    exact xw_imul hx hb hd (hN _ _ _ _ _ h2)
  case iand =>
    obtain rfl : 1 = len := by simpa [xlen] using hlen
    obtain ⟨x, y, r, rfl, h2⟩ := x2i_spec (show x2i _ _ from hop)
    exact xw_iand hx hb hd (hN _ _ _ _ _ h2)
  case ior =>
    obtain rfl : 1 = len := by simpa [xlen] using hlen
    obtain ⟨x, y, r, rfl, h2⟩ := x2i_spec (show x2i _ _ from hop)
    exact xw_ior hx hb hd (hN _ _ _ _ _ h2)
  case ixor =>
    obtain rfl : 1 = len := by simpa [xlen] using hlen
    obtain ⟨x, y, r, rfl, h2⟩ := x2i_spec (show x2i _ _ from hop)
    exact xw_ixor hx hb hd (hN _ _ _ _ _ h2)
  case ishl =>
    obtain rfl : 1 = len := by simpa [xlen] using hlen
    obtain ⟨x, y, r, rfl, h2⟩ := x2i_spec (show x2i _ _ from hop)
    exact xw_ishl hx hb hd (hN _ _ _ _ _ h2)
  case ishr =>
    obtain rfl : 1 = len := by simpa [xlen] using hlen
    obtain ⟨x, y, r, rfl, h2⟩ := x2i_spec (show x2i _ _ from hop)
    exact xw_ishr hx hb hd (hN _ _ _ _ _ h2)
  case iushr =>
    obtain rfl : 1 = len := by simpa [xlen] using hlen
    obtain ⟨x, y, r, rfl, h2⟩ := x2i_spec (show x2i _ _ from hop)
    exact xw_iushr hx hb hd (hN _ _ _ _ _ h2)
  case ladd =>
    obtain rfl : 1 = len := by simpa [xlen] using hlen
    obtain ⟨x, y, r, rfl, h2⟩ := x2j_spec (show x2j _ _ from hop)
    exact xw_ladd hx hb hd (hN _ _ _ _ _ h2)
  case lsub =>
    obtain rfl : 1 = len := by simpa [xlen] using hlen
    obtain ⟨x, y, r, rfl, h2⟩ := x2j_spec (show x2j _ _ from hop)
    exact xw_lsub hx hb hd (hN _ _ _ _ _ h2)
  case lmul =>
    obtain rfl : 1 = len := by simpa [xlen] using hlen
    obtain ⟨x, y, r, rfl, h2⟩ := x2j_spec (show x2j _ _ from hop)
    exact xw_lmul hx hb hd (hN _ _ _ _ _ h2)
  case irem =>
    obtain rfl : 1 = len := by simpa [xlen] using hlen
    obtain ⟨x, y, r, rfl, ⟨h1, h2, h3⟩, h4⟩ := x2i_spec (show x2i _ _ from hop)
    exact xw_irem hx hb hd h1 h2 h3 (hN _ _ _ _ _ h4)
  case ldiv =>
    obtain rfl : 1 = len := by simpa [xlen] using hlen
    obtain ⟨x, y, r, rfl, ⟨h1, h2, h3⟩, h4⟩ := x2j_spec (show x2j _ _ from hop)
    exact xw_ldiv hx hb hd h1 h2 h3 (hN _ _ _ _ _ h4)
  case lcmp =>
    obtain rfl : 1 = len := by simpa [xlen] using hlen
    obtain ⟨x, y, r, rfl, ⟨h1, h2⟩, h4⟩ := x2j_spec (show x2j _ _ from hop)
    exact xw_lcmp hx hb hd h1 h2 (hN _ _ _ _ _ h4)
  case ineg =>
    obtain rfl : 1 = len := by simpa [xlen] using hlen
    obtain ⟨x, r, rfl, h2⟩ := x1i_spec (show x1i _ _ from hop)
    exact xw_ineg hx hb hd (hN _ _ _ _ _ h2)
  case i2l =>
    obtain rfl : 1 = len := by simpa [xlen] using hlen
    obtain ⟨x, r, rfl, h1, h2⟩ := x1i_spec (show x1i _ _ from hop)
    exact xw_i2l hx hb hd h1 (hN _ _ _ _ _ h2)
  case l2i =>
    obtain rfl : 1 = len := by simpa [xlen] using hlen
    obtain ⟨x, r, rfl, h2⟩ := x1j_spec (show x1j _ _ from hop)
    exact xw_l2i hx hb hd (hN _ _ _ _ _ h2)
  case dup =>
    obtain rfl : 1 = len := by simpa [xlen] using hlen
    obtain ⟨v, r, rfl, hv, h2⟩ := x1w_spec (show x1w st (fun v r => N L (v :: v :: r) h k n) from hop)
    exact xw_dup hx hb hd hv (hN _ _ _ _ _ h2)
  case pop =>
    obtain rfl : 1 = len := by simpa [xlen] using hlen
    obtain ⟨v, r, rfl, hv, h2⟩ := x1w_spec (show x1w st (fun _ r => N L r h k n) from hop)
    exact xw_pop hx hb hd hv (hN _ _ _ _ _ h2)
  case dup2 =>
    obtain rfl : 1 = len := by simpa [xlen] using hlen
    obtain ⟨v, r, rfl, hv, h2⟩ := x1w_spec (show x1w st (fun v r => x1w r fun w r => N L (v :: w :: v :: w :: r) h k n) from hop)
    obtain ⟨w, r, rfl, hw, h3⟩ := x1w_spec h2
    replace h2 := h3
    exact xw_dup2 hx hb hd hv hw (hN _ _ _ _ _ h2)
  case goto off =>
    obtain rfl : 3 = len := by simpa [xlen] using hlen
    exact xw_goto hx hb hd (of_decide_eq_true htg) (hJ _ _ _ _ _ _ hop)
  case if_icmp cnd off =>
    obtain rfl : 3 = len := by simpa [xlen] using hlen
    obtain ⟨x, y, r, rfl, h2⟩ := x2i_spec (show x2i _ _ from hop)
    obtain ⟨⟨r1, r2⟩, h3⟩ := h2
    have h1 := of_decide_eq_true (show decide _ = true from htg)
    cases cnd
    case eq => exact xw_icmp_eq hx hb hd h1 r1 r2 (fun q => hJ _ _ _ _ _ _ (h3.1 q)) (fun q => hN _ _ _ _ _ (h3.2 q))
    case ne => exact xw_icmp_ne hx hb hd h1 r1 r2 (fun q => hJ _ _ _ _ _ _ (h3.1 q)) (fun q => hN _ _ _ _ _ (h3.2 q))
    case lt => exact xw_icmp_lt hx hb hd h1 r1 r2 (fun q => hJ _ _ _ _ _ _ (h3.1 q)) (fun q => hN _ _ _ _ _ (h3.2 q))
    case ge => exact xw_icmp_ge hx hb hd h1 r1 r2 (fun q => hJ _ _ _ _ _ _ (h3.1 q)) (fun q => hN _ _ _ _ _ (h3.2 q))
    case gt => exact xw_icmp_gt hx hb hd h1 r1 r2 (fun q => hJ _ _ _ _ _ _ (h3.1 q)) (fun q => hN _ _ _ _ _ (h3.2 q))
    case le => exact xw_icmp_le hx hb hd h1 r1 r2 (fun q => hJ _ _ _ _ _ _ (h3.1 q)) (fun q => hN _ _ _ _ _ (h3.2 q))
  case ifCond cnd off =>
    obtain rfl : 3 = len := by simpa [xlen] using hlen
    obtain ⟨x, r, rfl, h2⟩ := x1i_spec (show x1i _ _ from hop)
    obtain ⟨r1, h3⟩ := h2
    have h1 := of_decide_eq_true (show decide _ = true from htg)
    cases cnd
    case eq => exact xw_if_eq hx hb hd h1 r1 (fun q => hJ _ _ _ _ _ _ (h3.1 q)) (fun q => hN _ _ _ _ _ (h3.2 q))
    case ne => exact xw_if_ne hx hb hd h1 r1 (fun q => hJ _ _ _ _ _ _ (h3.1 q)) (fun q => hN _ _ _ _ _ (h3.2 q))
    case lt => exact xw_if_lt hx hb hd h1 r1 (fun q => hJ _ _ _ _ _ _ (h3.1 q)) (fun q => hN _ _ _ _ _ (h3.2 q))
    case ge => exact xw_if_ge hx hb hd h1 r1 (fun q => hJ _ _ _ _ _ _ (h3.1 q)) (fun q => hN _ _ _ _ _ (h3.2 q))
    case gt => exact xw_if_gt hx hb hd h1 r1 (fun q => hJ _ _ _ _ _ _ (h3.1 q)) (fun q => hN _ _ _ _ _ (h3.2 q))
    case le => exact xw_if_le hx hb hd h1 r1 (fun q => hJ _ _ _ _ _ _ (h3.1 q)) (fun q => hN _ _ _ _ _ (h3.2 q))
  case tableswitch dflt lo hi offs =>
    obtain ⟨x, r, rfl, hsz, r1, h3, h4⟩ := x1i_spec (show x1i _ _ from hop)
    by_cases hxo : x < lo ∨ hi < x
    · obtain ⟨t, h5, h6⟩ := xto_spec (h3 hxo)
      exact xw_tableOut hx hb hd r1 hxo h5 (hJ _ _ _ _ _ _ h6)
    · obtain ⟨off, h5, h6⟩ := xsw_spec h4 (by omega) (by omega)
      obtain ⟨t, h7, h8⟩ := xto_spec h6
      exact xw_tableIn hx hb hd r1 (by omega) (by omega) (by rw [← Array.getElem?_toList]; exact h5) h7 (hJ _ _ _ _ _ _ h8)
  case getfield i =>
    obtain rfl : 3 = len := by simpa [xlen] using hlen
    obtain ⟨d, h1, h2⟩ := xo_spec (show xo _ _ from hop)
    obtain ⟨ci, kf, dd⟩ := d
    obtain ⟨a0, r, rfl, h2a⟩ := x1r_spec h2
    obtain ⟨a, rfl, h2b⟩ := xo_spec h2a
    obtain ⟨fs, v, h3, h4, h5⟩ := xgf_spec h2b
    exact xw_get hx hb hts hown hK (tF _ _ (xlk_mem h1)) hd h3 h4 (hN _ _ _ _ _ h5)
  case putfield i =>
    obtain rfl : 3 = len := by simpa [xlen] using hlen
    obtain ⟨d, h1, h2⟩ := xo_spec (show xo _ _ from hop)
    split at h2
    · rename_i ci kf ty fin nest v a r
      have h3 := xcond h2
      have hq := h3.1
      simp only [Bool.and_eq_true, Bool.or_eq_true, Bool.not_eq_true'] at hq
      exact xw_put hx hb hts hown hK (tF _ _ (xlk_mem h1)) (fun q => by
        rcases hq.2 with h9 | h9
        · rw [h9] at q; cases q
        · exact ⟨hini h9.1, h9.2⟩) hq.1 hd (xwf_mono (fun h' h3 => hN _ _ _ _ _ h3) h3.2)
    · exact h2.elim
  case arraylength =>
    obtain rfl : 1 = len := by simpa [xlen] using hlen
    obtain ⟨a0, r, rfl, h2⟩ := x1r_spec (show x1r _ _ from hop)
    obtain ⟨a, rfl, h2b⟩ := xo_spec h2
    obtain ⟨t, N1, f, h3, h4⟩ := xar_spec h2b
    have ht := (xcond h4).1
    replace h4 := (xcond h4).2
    rw [Bool.or_eq_true] at ht
    by_cases h9 : t = 9
    · exact xw_alen hx hb hK hd h3 (Or.inl ⟨h9, rfl⟩) (hN _ _ _ _ _ h4)
    · have hlt : t < xTys.length := by
        rcases ht with ht | ht
        · exact absurd (xbeq ht) h9
        · simpa [Nat.blt_eq] using ht
      exact xw_alen hx hb hK hd h3 (Or.inr ⟨h9, List.getElem?_eq_getElem hlt⟩) (hN _ _ _ _ _ h4)
  case iaload =>
    obtain rfl : 1 = len := by simpa [xlen] using hlen
    unfold xop at hop
    simp only at hop
    split at hop
    · obtain ⟨t, N1, f, h3, h4⟩ := xar_spec hop
      have ht := (xcond h4).1
      obtain ⟨⟨q0, q1, q2⟩, h5⟩ := (xcond h4).2
      rw [Bool.or_eq_true] at ht
      rcases ht with ht | ht
      · obtain rfl := xbeq ht
        exact xw_iald hx hb hK hd h3 (Or.inr ⟨by decide, xTy0⟩) q0 q1 q2 (hN _ _ _ _ _ h5)
      · obtain rfl := xbeq ht
        exact xw_iald hx hb hK hd h3 (Or.inl ⟨rfl, rfl⟩) q0 q1 q2 (hN _ _ _ _ _ h5)
    · exact hop.elim
  case laload =>
    obtain rfl : 1 = len := by simpa [xlen] using hlen
    unfold xop at hop
    simp only at hop
    split at hop
    · obtain ⟨t, N1, f, h3, h4⟩ := xar_spec hop
      have ht := (xcond h4).1
      obtain ⟨⟨q0, q1, q2⟩, h5⟩ := (xcond h4).2
      obtain rfl := xbeq ht
      exact xw_lald hx hb hK hd h3 (Or.inr ⟨by decide, xTy1⟩) q0 q1 q2 (hN _ _ _ _ _ h5)
    · exact hop.elim
  case aaload =>
    obtain rfl : 1 = len := by simpa [xlen] using hlen
    unfold xop at hop
    simp only at hop
    split at hop
    · obtain ⟨t, N1, f, h3, h4⟩ := xar_spec hop
      have ht := (xcond h4).1
      obtain ⟨⟨q0, q1, q2⟩, h5⟩ := (xcond h4).2
      obtain rfl := xbeq ht
      exact xw_aald hx hb hK hd h3 (ty := .array .int) (Or.inr ⟨by decide, rfl⟩) rfl q0 q1 q2 (hN _ _ _ _ _ h5)
    · exact hop.elim
  case iastore =>
    obtain rfl : 1 = len := by simpa [xlen] using hlen
    unfold xop at hop
    simp only at hop
    split at hop
    · obtain ⟨t, N1, f, h3, h4⟩ := xar_spec hop
      have ht := (xcond h4).1
      obtain ⟨⟨q0, q1, q2⟩, h5⟩ := (xcond h4).2
      obtain rfl := xbeq ht
      exact xw_iast hx hb hK hd h3 (by decide) xTy0 q0 q1 q2 (xwa_mono (fun h' h6 => hN _ _ _ _ _ h6) h5)
    · exact hop.elim
  case lastore =>
    obtain rfl : 1 = len := by simpa [xlen] using hlen
    unfold xop at hop
    simp only at hop
    split at hop
    · obtain ⟨t, N1, f, h3, h4⟩ := xar_spec hop
      have ht := (xcond h4).1
      obtain ⟨⟨q0, q1, q2⟩, h5⟩ := (xcond h4).2
      obtain rfl := xbeq ht
      exact xw_last hx hb hK hd h3 (by decide) xTy1 q0 q1 q2 (xwa_mono (fun h' h6 => hN _ _ _ _ _ h6) h5)
    · exact hop.elim
  case new i =>
    obtain rfl : 3 = len := by simpa [xlen] using hlen
    obtain ⟨⟨ci, fs⟩, h1, h2⟩ := xo_spec (show xo _ _ from hop)
    obtain ⟨M, D, nx⟩ := h
    obtain ⟨hq, h2⟩ := h2
    exact xw_new hx hb hts hown hK hbase (tN _ _ (xlk_mem h1)) hd hq.1 hq.2 (hN _ _ _ _ _ h2)
  case newarray at_ =>
    obtain ⟨M, D, nx⟩ := h
    cases at_
    case int =>
      obtain rfl : 2 = len := by simpa [xlen] using hlen
      obtain ⟨z, r, rfl, ⟨q0, q1, q2, q3⟩, h2⟩ := x1i_spec (show x1i _ _ from hop)
      exact xw_newa hx hb hts hK (at_ := .int) (t := 0) (v0 := xI 0) (by decide) xTy0 (fun cA q => q) xWi rfl hd q0 (by show z.toNat * 4 ≤ _; omega) (by omega) q2 q3 (hN _ _ _ _ _ h2)
    case long =>
      obtain rfl : 2 = len := by simpa [xlen] using hlen
      obtain ⟨z, r, rfl, ⟨q0, q1, q2, q3⟩, h2⟩ := x1i_spec (show x1i _ _ from hop)
      exact xw_newa hx hb hts hK (at_ := .long) (t := 1) (v0 := xJ 0) (by decide) xTy1 (fun cA q => q) xWj rfl hd q0 (by show z.toNat * 8 ≤ _; omega) (by omega) q2 q3 (hN _ _ _ _ _ h2)
    all_goals
      obtain ⟨z, r, rfl, -, h2⟩ := x1i_spec (show x1i _ _ from hop)
      exact h2.elim
  case multianewarray i dims =>
    obtain rfl : 4 = len := by simpa [xlen] using hlen
    obtain ⟨M, D, nx⟩ := h
    unfold xop at hop
    simp only at hop
    split at hop
    · obtain ⟨⟨rfl, hi, q1, q2, q3, q4, q5, q6⟩, h2⟩ := hop
      exact xw_mna hx hb hts hown hK (tA _ hi) xWi hd q1 q2 q3 q4 q5 q6 (hN _ _ _ _ _ h2)
    · exact hop.elim
  case invokestatic i =>
    obtain rfl : 3 = len := by simpa [xlen] using hlen
    obtain ⟨d, h1, h2⟩ := xo_spec (show xo _ _ from hop)
    have hmk := tM _ _ (xlk_mem h1)
    unfold xMk at hmk
    split at h2
    · simp only at hmk
      obtain ⟨hlk, hst⟩ := hmk
      obtain ⟨bs, st', h3, h4, rfl⟩ := xtk_spec h2
      rw [List.append_nil] at h3
      obtain ⟨hcat, fr, lo, mc, ms, hrm, hct⟩ := hC _ _ _ _ _ _ _ h3
      exact xw_callS hx hb hml hts hown hK hbase hlk hst hd h4 hrm hct hcat (fun r h' hq => hN _ _ _ _ _ (xrt_spec hq))
    · simp only at hmk
      obtain ⟨w1, w2, w3, w4⟩ := hmk
      obtain ⟨x, y, r, rfl, ⟨q1, q2, ⟨q3, q4, q5⟩, q6, q7⟩, h3⟩ := x2i_spec h2
      exact xw_max hx hb hml hts hown w1 w2 w3 w4 hd q1 q2 q4 (by rw [xct_eq]; simp only at q5; omega) q6 q7 (hN _ _ _ _ _ h3)
    · simp only at hmk
      obtain ⟨w1, w2, w3, w4⟩ := hmk
      obtain ⟨x, y, r, rfl, ⟨q1, q2, ⟨q3, q4, q5⟩, q6, q7⟩, h3⟩ := x2i_spec h2
      exact xw_min hx hb hml hts hown w1 w2 w3 w4 hd q1 q2 q4 (by rw [xct_eq]; simp only at q5; omega) q6 q7 (hN _ _ _ _ _ h3)
    · simp only at hmk
      obtain ⟨w1, w2, w3, w4⟩ := hmk
      obtain ⟨x, r, rfl, ⟨q1, -, ⟨q3, q4, q5⟩, q6, q7⟩, h3⟩ := x1i_spec h2
      exact xw_abs hx hb hml hts hown w1 w2 w3 w4 hd q1 q4 (by rw [xct_eq]; simp only at q5; omega) q6 q7 (hN _ _ _ _ _ h3)
    · simp only at hmk
      obtain ⟨w1, w2, w3, w4⟩ := hmk
      obtain ⟨M, D, nx⟩ := h
      split at h2
      · simp only at h2
        split at h2
        · rename_i ha0 ha1
          obtain ⟨⟨q6, q7, q8, q9, q10, q1, q2, q3, q4, q5⟩, h5⟩ := h2
          refine xw_copy hx hb hml hts hown hK w1 w2 w3 w4 xTy0 hd ha0 ha1 q1 q2 q3 q4 q5 (by omega) (by omega) q9 ?_ (hN _ _ _ _ _ h5)
          rw [xct_eq]
          have : nativeFrameWords "java/lang/System" "arraycopy" 5 + 11 ≤ 22 := by decide +kernel
          omega
        · exact h2.elim
      · exact h2.elim
    · exact h2.elim
  case invokevirtual i =>
    obtain rfl : 3 = len := by simpa [xlen] using hlen
    obtain ⟨d, h1, h2⟩ := xo_spec (show xo _ _ from hop)
    have hmk := tM _ _ (xlk_mem h1)
    unfold xMk at hmk
    split at h2
    · simp only at hmk
      obtain ⟨hlk, hin, hsel, hci⟩ := hmk
      obtain ⟨bs, st', h3, h4, rfl⟩ := xtk_spec h2
      rw [List.append_nil] at h3
      obtain ⟨a, r, rfl, h3⟩ := x1r_spec h3
      obtain ⟨a, rfl, h3⟩ := xo_spec h3
      obtain ⟨fs, ha, h3⟩ := xcv_spec h3
      obtain ⟨hcat, fr, lo, mc, ms, hrm, hct⟩ := hC _ _ _ _ _ _ _ h3
      exact xw_callV hx hb hml hts hown hK hbase hlk hin hsel hci hd ha h4 hrm hct hcat (fun r h' hq => hN _ _ _ _ _ (xrt_spec hq))
    · exact h2.elim
  case invokespecial i =>
    obtain rfl : 3 = len := by simpa [xlen] using hlen
    obtain ⟨d, h1, h2⟩ := xo_spec (show xo _ _ from hop)
    have hmk := tM _ _ (xlk_mem h1)
    unfold xMk at hmk
    split at h2
    · simp only at hmk
      obtain ⟨hlk, hin, hnm, hrt⟩ := hmk
      obtain ⟨bs, st', h3, h4, rfl⟩ := xtk_spec h2
      rw [List.append_nil] at h3
      obtain ⟨a, r, rfl, h3⟩ := x1r_spec h3
      obtain ⟨a, rfl, h3⟩ := xo_spec h3
      obtain ⟨hcat, fr, lo, mc, ms, hrm, hct⟩ := hC _ _ _ _ _ _ _ h3
      exact xw_callI hx hb hml hts hown hK hbase hlk hin hnm hrt hd h4 hrm hct hcat (fun r h' hq => hN _ _ _ _ _ (xrt_spec hq))
    · simp only at hmk
      obtain ⟨w1, w2, w3⟩ := hmk
      obtain ⟨a, r, rfl, h2⟩ := x1r_spec h2
      obtain ⟨a, rfl, hq, h2⟩ := xo_spec h2
      intro H locs ls hM hS hL hl
      exact W.objInit hx hb hown (hts _ w1) (hts _ w2) (hts _ w3) rfl (by rw [hml]; exact hl.1) rfl hd hq.2.1 (by rw [List.map_map]; show 2 * 0 + _ + 12 ≤ _; have := xct_eq (G := G) r; simp only [Function.comp_def] at *; omega) (hN _ _ _ _ _ h2 H locs ls hM hS hL hl)
    · exact h2.elim
  case ireturn =>
    obtain rfl : 1 = len := by simpa [xlen] using hlen
    unfold xop at hop
    simp only at hop
    split at hop
    · obtain ⟨q1, q2, hop⟩ := xend_spec hop
      exact hret _ _ _ _ _ _ _ _ hd rfl hop q1 q2 (Or.inl ⟨rfl, _, rfl, Or.inl rfl⟩)
    · obtain ⟨q1, q2, hz, hop⟩ := xend_spec hop
      exact hret _ _ _ _ _ _ _ _ hd rfl hop q1 q2 (Or.inl ⟨rfl, _, rfl, Or.inr ⟨rfl, hz⟩⟩)
    · exact hop.elim
  case lreturn =>
    obtain rfl : 1 = len := by simpa [xlen] using hlen
    unfold xop at hop
    simp only at hop
    split at hop
    · obtain ⟨q1, q2, hop⟩ := xend_spec hop
      exact hret _ _ _ _ _ _ _ _ hd rfl hop q1 q2 (Or.inr (Or.inl ⟨rfl, ⟨_, rfl⟩, rfl⟩))
    · exact hop.elim
  case return_ =>
    obtain rfl : 1 = len := by simpa [xlen] using hlen
    unfold xop at hop
    simp only at hop
    split at hop
    · obtain ⟨q1, q2, hop⟩ := xend_spec hop
      exact hret _ _ _ _ _ _ _ _ hd rfl hop q1 q2 (Or.inr (Or.inr (Or.inr ⟨rfl, rfl, rfl⟩)))
    · exact hop.elim
  all_goals exact (show False from hop).elim
end XSOUND
