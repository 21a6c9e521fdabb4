/-! contracts and calls -/
def xws (μ : xMd) : List Cond := .code μ.1 μ.2.1 μ.2.2.1 μ.2.2.2 :: xTB
def xPc (T : xT) (G : xG) (as : List xV) (h : xH) : Array Value → State → Prop := fun v U => v = (as.map (xc G)).toArray ∧ xMt T G h U.heap ∧ xKn G U ∧ G.2.2.1 ≤ U.heap.size
def xQc (T : xT) (G : xG) (Q : Option xV → xH → Prop) : Array Value → State → Outcome → State → Prop := fun _ st o t => ∃ (r : Option xV) (h' : xH), o = .returned (r.map (xc G)) ∧ Q r h' ∧ xMt T G h' t.heap ∧ va_F (xA G) st t
/-- the method μ, called with as on the heap h, comes back, and Q holds of its answer and the heap; it asks fr frames, lo words of locals; makes at most mc cells of ms slots -/
def xCt (T : xT) (G : xG) (μ : xMd) (fr lo mc ms : Nat) (as : List xV) (h : xH) (Q : Option xV → xH → Prop) : Prop :=
  ∀ l : Launch, Met l μ.1 (xws μ) { frames := fr, cells := mc, slots := ms, locals := lo } (xPc T G as h) (xQc T G Q) mc ms (xA G)
theorem xPc_blind {T : xT} {G : xG} {as : List xV} {h : xH} : FrameBlind (xPc T G as h) := fun a U g mk q => ⟨q.1, q.2.1, q.2.2.1.same (u := U) (U := U.calling g mk a) (Vm.Alike.refl U.vm) rfl, q.2.2.2⟩
/-- a call site: own's pool number idx names μ, with na parameters -/
def xLk (own : String) (idx : Nat) (μ : xMd) (na : Nat) : Prop := (Cond.methodLink own idx μ.1 ∈ xTB ∨ (own = "DrumTongue" ∧ idx = 18 ∧ μ.1 = y_Ear_init)) ∧ Cond.code μ.1 μ.2.1 μ.2.2.1 μ.2.2.2 ∈ xTB ∧ Cond.initialized μ.1.cls ∈ xTB ∧ μ.1.cls ≠ "java/lang/invoke/MethodHandle" ∧ μ.1.cls ≠ "java/lang/invoke/VarHandle" ∧ (parseMethodDescriptor μ.1.desc).map (fun d => d.parameters.length) = some na
section XCALL
variable {T : xT} {p : Program} {l : Launch} {e : Env} {R : Room} {s : State} {m : MethodId} {args : Array Value} {below : List Frame} {meth : Method} {c : Code} {Q : State → Prop} {cc : ByteArray} {G : xG} {nL : Nat} {pc : Nat} {L : xLs} {st : List xV} {h : xH} {k n : Nat}
theorem xw_run {H : Heap} {locs : List Loc} {ls : Array Slot} {st0 rest : List Value} {mc ms : Nat} {Q1 : Option xV → xH → Prop} {a : Array Value} (hr : va_Run p l e R s m args below meth c H locs k n mc ms (F0 m pc ls st0) rest (xQc T G Q1 a) (xA G)) (hS : va_S (xA G) s.heap H locs)
    (kk : ∀ (r : Option xV) (h' : xH), Q1 r h' → ∀ (H1 : Heap) (locs1 : List Loc), xMt T G h' H1 → va_S (xA G) s.heap H1 locs1 → W p l e R s m args below meth c H1 locs1 (k + mc) (n + ms) Q (F0 m (pc + 3) ls ((r.map (xc G)).toList ++ rest))) : W p l e R s m args below meth c H locs k n Q (F0 m pc ls st0) := by
  intro S hT X
  obtain ⟨v, st₀, t, T', L1, h0, X', hL, e1, e2, ⟨r, h', hv, hq, hm, hz, hk⟩, sts⟩ := hr S hT X
  have hv' : v = r.map (xc G) := Outcome.returned.inj hv
  subst hv'
  rw [h0] at hz hk
  obtain ⟨t2, a1, b1⟩ := kk r h' hq T'.heap (locs ++ L1) (by rw [e1]; exact hm)
    ⟨Nat.le_trans hS.1 (by rw [e1]; exact hz), fun q h1 h2 => by rw [e1, hk q (Nat.lt_of_lt_of_le h1 hS.1) h2]; exact hS.2.1 q h1 h2, fun q hq => by
      rcases List.mem_append.mp hq with h | h
      · exact hS.2.2 q h
      · exact hL q h⟩ T' rfl X'
  exact ⟨t2, sts t2 a1, b1⟩
theorem xTB_good (w : Cond) (h : w ∈ xTB) : (w.onTables && w.keeps) = true ∨ ∃ ty, w = .arrayClass ty := good_of_word (List.mem_filter.mp h).2
theorem xws_good {μ : xMd} (h : Cond.code μ.1 μ.2.1 μ.2.2.1 μ.2.2.2 ∈ xTB) : GoodIn xTB (xws μ) := by
  intro w hw
  rcases List.mem_cons.mp hw with rfl | hw
  · exact ⟨h, xTB_good _ h⟩
  · exact ⟨hw, xTB_good _ hw⟩
/-- how many words a stack takes -/
def xct : List xV → Nat
  | [] => 0
  | .inr (.inl _) :: r => 2 + xct r
  | _ :: r => 1 + xct r
theorem xct_eq {G : xG} : ∀ st : List xV, (st.map fun v => (xc G v).category).sum = xct st
  | [] => rfl
  | .inl z :: r => by rw [List.map_cons, List.sum_cons, xct_eq r]; rfl
  | .inr (.inl z) :: r => by rw [List.map_cons, List.sum_cons, xct_eq r]; rfl
  | .inr (.inr none) :: r => by rw [List.map_cons, List.sum_cons, xct_eq r]; rfl
  | .inr (.inr (some a)) :: r => by rw [List.map_cons, List.sum_cons, xct_eq r]; rfl
theorem xroom {st st0 : List xV} {ls : Array Slot} (h : xct st ≤ 8) : 2 * (F0 m pc ls (st0.map (xc G))).monitorRoom + ((st.map (xc G)).map fun v => v.category).sum ≤ 8 := lv_room (by rw [List.map_map]; have := xct_eq (G := G) st; simp only [Function.comp_def]; omega)
/-- the numbers of a call: frames, words of locals, cells, slots that are left -/
abbrev xRm : Type := Nat × Nat × Nat × Nat
def xfits (R : xRm) (μ : xMd) (fr lo mc ms k n : Nat) : Prop := fr + 1 ≤ R.1 ∧ 8 + (μ.2.2.1 + 11) + lo ≤ R.2.1 ∧ k + mc ≤ R.2.2.1 ∧ n + ms ≤ R.2.2.2
theorem xw_callS (hx : p.tables.exec = Jvm.exec) (hb : c.code = cc) (hml : c.maxLocals = nL) (hts : ∀ w ∈ xTB, w.before args s = true) {own : String} (hown : s.vm.findClass own = some m.cls) (hK : xKn G s) (hbase : G.2.2.1 ≤ s.heap.size) {idx na : Nat} {μ : xMd} (hlk : xLk own idx μ na) (hstat : Cond.static μ.1 ∈ xTB) (hd : decode cc pc = .ok (.invokestatic idx, 3)) {as : List xV} (hna : as.length = na) {fr lo mc ms : Nat} (hrm : xfits (R.frames, R.locals, R.cells, R.slots) μ fr lo mc ms k n) {Q1 : Option xV → xH → Prop} (hct : xCt T G μ fr lo mc ms as h Q1) (hcat : xct st ≤ 8)
    (kk : ∀ (r : Option xV) (h' : xH), Q1 r h' → xW T p l e R s m args below meth c Q G nL (pc + 3) L (r.toList ++ st) h' (k + mc) (n + ms)) : xW T p l e R s m args below meth c Q G nL pc L (as.reverse ++ st) h k n := by
  intro H locs ls hM hS hL hl
  obtain ⟨hlink, hcode, hini, hc1, hc2, hdesc⟩ := hlk
  have hp : PreS s H (xPc T G as h) (as.map (xc G)) := ⟨xPc_blind, fun U hU hW => ⟨rfl, by rw [hU]; exact hM, hK.warm hW, by rw [hU]; exact Nat.le_trans hbase hS.1⟩⟩
  have hR : fr + 1 ≤ R.frames ∧ 8 + (μ.2.2.1 + 11) + lo ≤ R.locals := ⟨hrm.1, hrm.2.1⟩
  have hgo : ∀ (hrun : va_Run p l e R s m args below meth c H locs k n mc ms (F0 m pc ls ((as.reverse ++ st).map (xc G))) (st.map (xc G)) (xQc T G Q1 (as.map (xc G)).toArray) (xA G)), W p l e R s m args below meth c H locs k n Q (F0 m pc ls ((as.reverse ++ st).map (xc G))) := fun hrun =>
    xw_run hrun hS fun r h' hq H1 locs1 hM1 hS1 => by
      have := kk r h' hq H1 locs1 ls hM1 hS1 hL hl
      cases r <;> exact this
  rcases hlink with hlink | ⟨rfl, rfl, hlink⟩
  · exact hgo (va_runS (As := as.map (xc G)) (rest := st.map (xc G)) (Ts := xTB) ⟨hx, hb, hml, hown, hts⟩ (hct l) ⟨callB_of na hts (xws_good hcode) rfl rfl rfl (hts _ hini) (hts _ hlink) ⟨hc1, hc2, hdesc⟩ hR, hts _ hstat⟩ hp rfl (by rw [List.length_map]; exact hna) hl.1 (by simp) (xroom hcat) hd ⟨hrm.2.2.1, hrm.2.2.2⟩)
  · exact hgo (va_runSN (As := as.map (xc G)) (rest := st.map (xc G)) (Ts := xTB) ⟨hx, hb, hml, hown, hts⟩ (hct l) ⟨va_cnB na hts (xws_good hcode) rfl rfl rfl (hlink ▸ hK.2.2.2.2.2) (hts _ hini) ⟨hc1, hc2, hdesc⟩ hR, hts _ hstat, trivial⟩ hp rfl (by rw [List.length_map]; exact hna) hl.1 (by simp) (xroom hcat) hd ⟨hrm.2.2.1, hrm.2.2.2⟩)
theorem xw_callV (hx : p.tables.exec = Jvm.exec) (hb : c.code = cc) (hml : c.maxLocals = nL) (hts : ∀ w ∈ xTB, w.before args s = true) {own : String} (hown : s.vm.findClass own = some m.cls) (hK : xKn G s) (hbase : G.2.2.1 ≤ s.heap.size) {idx na : Nat} {μ : xMd} (hlk : xLk own idx μ na) (hinst : Cond.instanceMethod μ.1 ∈ xTB) (hsel : Cond.selects μ.1.cls μ.1 μ.1 ∈ xTB) {ci : Nat} (hci : ∃ (F : u_T) (N : Nat), xCl[ci]? = some (μ.1.cls, F, N)) (hd : decode cc pc = .ok (.invokevirtual idx, 3)) {a : Nat} {fs as : List xV} (ha : xrd T h a = some (.inl (ci, fs))) (hna : as.length = na) {fr lo mc ms : Nat} (hrm : xfits (R.frames, R.locals, R.cells, R.slots) μ fr lo mc ms k n) {Q1 : Option xV → xH → Prop} (hct : xCt T G μ fr lo mc ms (xR (some a) :: as) h Q1) (hcat : xct st ≤ 8)
    (kk : ∀ (r : Option xV) (h' : xH), Q1 r h' → xW T p l e R s m args below meth c Q G nL (pc + 3) L (r.toList ++ st) h' (k + mc) (n + ms)) : xW T p l e R s m args below meth c Q G nL pc L (as.reverse ++ xR (some a) :: st) h k n := by
  intro H locs ls hM hS hL hl
  obtain ⟨hlink, hcode, hini, hc1, hc2, hdesc⟩ := hlk
  obtain ⟨F, N, hci⟩ := hci
  have hp : PreV s H μ.1.cls (xad G a) (xPc T G (xR (some a) :: as) h) (as.map (xc G)) := ⟨xPc_blind, va_recv hK.1 (xmt_P hM ha) (q0 := 0) hci rfl, fun U hU hW => ⟨rfl, by rw [hU]; exact hM, hK.warm hW, by rw [hU]; exact Nat.le_trans hbase hS.1⟩⟩
  have hR : fr + 1 ≤ R.frames ∧ 8 + (μ.2.2.1 + 11) + lo ≤ R.locals := ⟨hrm.1, hrm.2.1⟩
  have hgo : ∀ (hrun : va_Run p l e R s m args below meth c H locs k n mc ms (F0 m pc ls ((as.reverse ++ xR (some a) :: st).map (xc G))) (st.map (xc G)) (xQc T G Q1 (Value.ref (xad G a) :: as.map (xc G)).toArray) (xA G)), W p l e R s m args below meth c H locs k n Q (F0 m pc ls ((as.reverse ++ xR (some a) :: st).map (xc G))) := fun hrun =>
    xw_run hrun hS fun r h' hq H1 locs1 hM1 hS1 => by
      have := kk r h' hq H1 locs1 ls hM1 hS1 hL hl
      cases r <;> exact this
  rcases hlink with hlink | ⟨rfl, rfl, hlink⟩
  · exact hgo (va_runV (C := μ.1.cls) (As := as.map (xc G)) (rest := st.map (xc G)) (Ts := xTB) ⟨hx, hb, hml, hown, hts⟩ (hct l) ⟨callB_of na hts (xws_good hcode) rfl rfl rfl (hts _ hini) (hts _ hlink) ⟨hc1, hc2, hdesc⟩ hR, hts _ hinst, hts _ hsel⟩ hp rfl (by rw [List.length_map]; exact hna) hl.1 (by simp [xc]) (xroom hcat) hd ⟨hrm.2.2.1, hrm.2.2.2⟩)
  · exact hgo (va_runVN (C := μ.1.cls) (As := as.map (xc G)) (rest := st.map (xc G)) (Ts := xTB) ⟨hx, hb, hml, hown, hts⟩ (hct l) ⟨va_cnB na hts (xws_good hcode) rfl rfl rfl (hlink ▸ hK.2.2.2.2.2) (hts _ hini) ⟨hc1, hc2, hdesc⟩ hR, hts _ hinst, hts _ hsel⟩ hp rfl (by rw [List.length_map]; exact hna) hl.1 (by simp [xc]) (xroom hcat) hd ⟨hrm.2.2.1, hrm.2.2.2⟩)
theorem xw_callI (hx : p.tables.exec = Jvm.exec) (hb : c.code = cc) (hml : c.maxLocals = nL) (hts : ∀ w ∈ xTB, w.before args s = true) {own : String} (hown : s.vm.findClass own = some m.cls) (hK : xKn G s) (hbase : G.2.2.1 ≤ s.heap.size) {idx na : Nat} {μ : xMd} (hlk : xLk own idx μ na) (hinst : Cond.instanceMethod μ.1 ∈ xTB) (hnm : μ.1.name = "<init>") (hrt : μ.2.2.2 = none) (hd : decode cc pc = .ok (.invokespecial idx, 3)) {a : Nat} {as : List xV} (hna : as.length = na) {fr lo mc ms : Nat} (hrm : xfits (R.frames, R.locals, R.cells, R.slots) μ fr lo mc ms k n) {Q1 : Option xV → xH → Prop} (hct : xCt T G μ fr lo mc ms (xR (some a) :: as) h Q1) (hcat : xct st ≤ 8)
    (kk : ∀ (r : Option xV) (h' : xH), Q1 r h' → xW T p l e R s m args below meth c Q G nL (pc + 3) L (r.toList ++ st) h' (k + mc) (n + ms)) : xW T p l e R s m args below meth c Q G nL pc L (as.reverse ++ xR (some a) :: st) h k n := by
  intro H locs ls hM hS hL hl
  obtain ⟨y, bytes, maxL, rt⟩ := μ
  obtain rfl : rt = none := hrt
  obtain ⟨hlink, hcode, hini, hc1, hc2, hdesc⟩ := hlk
  have hp : PreS s H (xPc T G (xR (some a) :: as) h) (Value.ref (xad G a) :: as.map (xc G)) := ⟨xPc_blind, fun U hU hW => ⟨rfl, by rw [hU]; exact hM, hK.warm hW, by rw [hU]; exact Nat.le_trans hbase hS.1⟩⟩
  have hR : fr + 1 ≤ R.frames ∧ 8 + (maxL + 11) + lo ≤ R.locals := ⟨hrm.1, hrm.2.1⟩
  have hgo : ∀ (hrun : va_Run p l e R s m args below meth c H locs k n mc ms (F0 m pc ls ((as.reverse ++ xR (some a) :: st).map (xc G))) (st.map (xc G)) (xQc T G Q1 (Value.ref (xad G a) :: as.map (xc G)).toArray) (xA G)), W p l e R s m args below meth c H locs k n Q (F0 m pc ls ((as.reverse ++ xR (some a) :: st).map (xc G))) := fun hrun =>
    xw_run hrun hS fun r h' hq H1 locs1 hM1 hS1 => by
      have := kk r h' hq H1 locs1 ls hM1 hS1 hL hl
      cases r <;> exact this
  rcases hlink with hlink | ⟨rfl, rfl, hlink⟩
  · exact hgo (va_runI (As := as.map (xc G)) (rest := st.map (xc G)) (Ts := xTB) ⟨hx, hb, hml, hown, hts⟩ (hct l) ⟨callB_of na hts (xws_good (μ := (y, bytes, maxL, none)) hcode) rfl rfl rfl (hts _ hini) (hts _ hlink) ⟨hc1, hc2, hdesc⟩ hR, hnm, hts _ hinst⟩ hp rfl (by rw [List.length_map]; exact hna) hl.1 (by simp [xc]) (xroom hcat) hd ⟨hrm.2.2.1, hrm.2.2.2⟩)
  · exact hgo (va_runIN (As := as.map (xc G)) (rest := st.map (xc G)) (Ts := xTB) ⟨hx, hb, hml, hown, hts⟩ (hct l) ⟨va_cnB na hts (xws_good (μ := (y, bytes, maxL, none)) hcode) rfl rfl rfl (hlink ▸ hK.2.2.2.2.2) (hts _ hini) ⟨hc1, hc2, hdesc⟩ hR, hnm, hts _ hinst⟩ hp rfl (by rw [List.length_map]; exact hna) hl.1 (by simp [xc]) (xroom hcat) hd ⟨hrm.2.2.1, hrm.2.2.2⟩)
end XCALL
