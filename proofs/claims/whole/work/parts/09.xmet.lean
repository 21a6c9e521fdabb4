/-! code by blocks; the walk of a body; a method's contract out of it -/
abbrev xCd : Type := List (Instr × Nat × Nat)
abbrev xBk : Type := List (Nat × xCd)
def xsq (tb : xTb) (T : xT) (R : xRm) (rt : Option FieldType) (ini : Bool) (C : xC) (P : xP) (J : xS) (code : xCd) : xS :=
  List.rec (motive := fun _ => xS) J (fun q _ ih => match q with
    | (op, nx, tg) => fun pc L st h k n => xop tb T R rt ini C P op tg pc L st h k n (ih nx) J) code
def xin : Nat → List Nat → Bool
  | _, [] => false
  | i, j :: r => match Nat.beq i j with
    | true => true
    | false => xin i r
def xfd (B : xBk) (pc : Nat) : xCd := match xlk B pc with
  | some c => c
  | none => []
/-- the walk from a pc on, over at most so many jumps, till a pc of cut -/
def xwp (tb : xTb) (T : xT) (R : xRm) (rt : Option FieldType) (ini : Bool) (C : xC) (P : xP) (cut : List Nat) (B : xBk) (X : xS) (f : Nat) : xS :=
  Nat.rec (motive := fun _ => xS) X (fun _ ih => fun pc => match xin pc cut with
    | true => X pc
    | false => xsq tb T R rt ini C P ih (xfd B pc) pc) f
def xcl1 (cc : ByteArray) : Nat → xCd → Bool
  | _, [] => true
  | pc, (op, nx, tg) :: r => decide (decode cc pc = .ok (op, nx - pc)) && (xlen op == 0 || xlen op == nx - pc) && xtg pc tg op && Nat.ble pc nx && xcl1 cc nx r
def xck (cc : ByteArray) (B : xBk) : Bool := B.all fun q => xcl1 cc q.1 q.2
/-- X is told by what comes behind each instruction -/
def xClo (cc : ByteArray) (tb : xTb) (T : xT) (R : xRm) (rt : Option FieldType) (ini : Bool) (C : xC) (P : xP) (X : xS) : Prop :=
  (∀ (pc len tg : Nat) (op : Instr), decode cc pc = .ok (op, len) → (xlen op = 0 ∨ xlen op = len) → xtg pc tg op = true → ∀ (N : xN) (J : xS), (∀ L st h k n, N L st h k n → X (pc + len) L st h k n) → (∀ t L st h k n, J t L st h k n → X t L st h k n) → ∀ L st h k n, xop tb T R rt ini C P op tg pc L st h k n N J → X pc L st h k n) ∧
  ∀ pc L st h k n k' n', k ≤ k' → n ≤ n' → X pc L st h k' n' → X pc L st h k n
section XMET
variable {cc : ByteArray} {tb : xTb} {T : xT} {R : xRm} {rt : Option FieldType} {ini : Bool} {C : xC} {P : xP} {X : xS} {B : xBk}
theorem xsq_ok (hX : xClo cc tb T R rt ini C P X) {J : xS} (hJ : ∀ t L st h k n, J t L st h k n → X t L st h k n) : ∀ (code : xCd) (pc : Nat), xcl1 cc pc code = true → ∀ L st h k n, xsq tb T R rt ini C P J code pc L st h k n → X pc L st h k n
  | [], pc, _, L, st, h, k, n, hs => hJ _ _ _ _ _ _ hs
  | (op, nx, tg) :: r, pc, hc, L, st, h, k, n, hs => by
    simp only [xcl1, Bool.and_eq_true, Bool.or_eq_true, decide_eq_true_eq, beq_iff_eq] at hc
    have hle := Nat.le_of_ble_eq_true hc.1.2
    exact hX.1 pc (nx - pc) tg op hc.1.1.1.1 hc.1.1.1.2 hc.1.1.2 _ J (fun L st h k n q => by rw [Nat.add_sub_cancel' hle]; exact xsq_ok hX hJ r nx hc.2 L st h k n q) hJ L st h k n hs
theorem xfd_ok (hB : xck cc B = true) (pc : Nat) : xcl1 cc pc (xfd B pc) = true := by
  unfold xfd
  cases h : xlk B pc with
  | none => rfl
  | some code =>
    have := List.all_eq_true.mp hB _ (xlk_mem h)
    exact this
theorem xwp_ok (hX : xClo cc tb T R rt ini C P X) (hB : xck cc B = true) {cut : List Nat} : ∀ (f pc : Nat) (L : xLs) (st : List xV) (h : xH) (k n : Nat), xwp tb T R rt ini C P cut B X f pc L st h k n → X pc L st h k n
  | 0, _, _, _, _, _, _, hs => hs
  | f + 1, pc, L, st, h, k, n, hs => by
    have hs : (match xin pc cut with | true => X pc | false => xsq tb T R rt ini C P (xwp tb T R rt ini C P cut B X f) (xfd B pc) pc) L st h k n := hs
    cases hq : xin pc cut with
    | true => rw [hq] at hs; exact hs
    | false => rw [hq] at hs; exact xsq_ok hX (fun t L st h k n q => xwp_ok hX hB f t L st h k n q) _ _ (xfd_ok hB pc) _ _ _ _ _ hs
/-- the walk from pc on; a cut at pc itself is passed -/
theorem xgo (hX : xClo cc tb T R rt ini C P X) (hB : xck cc B = true) (cut : List Nat) (f : Nat) {pc : Nat} {L : xLs} {st : List xV} {h : xH} {k n : Nat} (hs : xsq tb T R rt ini C P (xwp tb T R rt ini C P cut B X f) (xfd B pc) pc L st h k n) : X pc L st h k n :=
  xsq_ok hX (fun t L st h k n q => xwp_ok hX hB f t L st h k n q) _ _ (xfd_ok hB pc) _ _ _ _ _ hs
end XMET
/-- the locals at the entry -/
def xen : List xV → xLs
  | [] => []
  | .inr (.inl z) :: r => some (xJ z) :: none :: xen r
  | v :: r => some v :: xen r
theorem xen_args {G : xG} {q : Nat × Value} : ∀ {as : List xV} {i : Nat} {j : Nat}, q ∈ xls G i (xen as ++ List.replicate j none) → q ∈ lv_args i (as.map (xc G))
  | [], i, 0, h => by simp [xen, xls] at h
  | [], i, j + 1, h => by
    rw [xen, List.nil_append, List.replicate_succ, xls] at h
    exact xen_args (as := []) (i := i + 1) (j := j) (by simpa [xen] using h)
  | .inr (.inl z) :: r, i, j, h => by
    simp only [xen, List.cons_append, xls, List.mem_cons] at h
    simp only [List.map_cons, lv_args, List.mem_cons]
    rcases h with h | h
    · exact Or.inl h
    · exact Or.inr (xen_args (as := r) h)
  | .inl z :: r, i, j, h => by
    simp only [xen, List.cons_append, xls, List.mem_cons] at h
    simp only [List.map_cons, lv_args, List.mem_cons]
    rcases h with h | h
    · exact Or.inl h
    · exact Or.inr (xen_args (as := r) h)
  | .inr (.inr none) :: r, i, j, h => by
    simp only [xen, List.cons_append, xls, List.mem_cons] at h
    simp only [List.map_cons, lv_args, List.mem_cons]
    rcases h with h | h
    · exact Or.inl h
    · exact Or.inr (xen_args (as := r) h)
  | .inr (.inr (some a)) :: r, i, j, h => by
    simp only [xen, List.cons_append, xls, List.mem_cons] at h
    simp only [List.map_cons, lv_args, List.mem_cons]
    rcases h with h | h
    · exact Or.inl h
    · exact Or.inr (xen_args (as := r) h)
theorem lg_sl_cons (v : Value) (r : List Value) : lg_sl (v :: r) = lg_sl [v] ++ lg_sl r := by simp [lg_sl]
theorem xen_len {G : xG} : ∀ as : List xV, (lg_sl (as.map (xc G))).length = (xen as).length
  | [] => rfl
  | .inl z :: r => by rw [List.map_cons, lg_sl_cons, List.length_append, xen_len r, show (xen (.inl z :: r)).length = (xen r).length + 1 from rfl, Nat.add_comm]; rfl
  | .inr (.inl z) :: r => by rw [List.map_cons, lg_sl_cons, List.length_append, xen_len r, show (xen (.inr (.inl z) :: r)).length = (xen r).length + 2 from rfl, Nat.add_comm]; rfl
  | .inr (.inr none) :: r => by rw [List.map_cons, lg_sl_cons, List.length_append, xen_len r, show (xen (.inr (.inr none) :: r)).length = (xen r).length + 1 from rfl, Nat.add_comm]; rfl
  | .inr (.inr (some a)) :: r => by rw [List.map_cons, lg_sl_cons, List.length_append, xen_len r, show (xen (.inr (.inr (some a)) :: r)).length = (xen r).length + 1 from rfl, Nat.add_comm]; rfl
theorem xCt_of {T : xT} {G : xG} {μ : xMd} {fr lo mc ms : Nat} {as : List xV} {h : xH} {Q : Option xV → xH → Prop} {own : String} {tb : xTb} (ini : Bool) (hcls : μ.1.cls = own) (hpl : plainName own = true) (htb : xTbOk own tb) (hini : ini = true → μ.1.name = "<init>") (L0 : xLs) (hlen : (xen as).length ≤ μ.2.2.1) (hL0 : xen as ++ List.replicate (μ.2.2.1 - (xen as).length) none = L0)
    (body : ∀ (X : xS) (C : xC), (∀ μ' as' h' k n rest K, xcl T (fr, lo, mc, ms) G μ' as' h' k n rest K → C μ' as' h' k n rest K) → xClo μ.2.1 tb T (fr, lo, mc, ms) μ.2.2.2 ini C Q X → X 0 L0 [] h 0 0) : xCt T G μ fr lo mc ms as h Q := by
  intro l
  refine Met.ofW (cc := μ.2.1) (maxL := μ.2.2.1) (ret := μ.2.2.2) (by rw [hcls]; exact hpl) rfl ?_
  intro p e s m args below meth c s₁ B hml hv
  obtain ⟨rfl, hM, hK, hbase⟩ := hv
  have hx := B.exec
  have hb := B.bytes
  have hr := B.returns
  have hts0 := atoms_spec (ws := xws μ) B.pre
  have hts : ∀ w ∈ xTB, w.before (as.map (xc G)).toArray s = true := fun w hw => hts0 w (List.mem_cons_of_mem _ hw)
  have hown : s.vm.findClass own = some m.cls := by rw [← hcls]; exact findClass_of_methodNamed B.named
  have hlocks := B.notSynchronized
  have hnm : ini = true → meth.name = "<init>" := fun q => (name_of_methodNamed B.named B.method).1.trans (hini q)
  have E : xEv p s m (as.map (xc G)).toArray meth c μ.2.1 μ.2.2.1 own tb G ini := ⟨hx, hb, hml, hts, hown, hK, hbase, htb, hnm⟩
  have hret : xRet T p l e (headSpec (xws μ) { frames := fr, cells := mc, slots := ms, locals := lo }).room s m (as.map (xc G)).toArray below meth c (MQ below (xQc T G Q) (as.map (xc G)).toArray s mc ms (xA G)) G μ.2.2.1 μ.2.1 μ.2.2.2 Q := by
    intro pc op L st r h k n hd hst hP hk hn hop
    have hq : ∀ (H : Heap) (t : State), xMt T G h H → t.heap = H → va_F (xA G) s t → xQc T G Q (as.map (xc G)).toArray s (.returned (r.map (xc G))) t := fun H t hM ht hF => ⟨r, h, rfl, hP, by rw [ht]; exact hM, hF⟩
    intro H locs ls hM hS hL hl
    refine W.widen hk hn ?_
    rcases hop with ⟨rfl, z, rfl, hrt⟩ | ⟨rfl, ⟨z, rfl⟩, hrt⟩ | ⟨rfl, ⟨q, rfl⟩, hrt⟩ | ⟨rfl, rfl, hrt⟩
    · subst hst
      rcases hrt with hrt | ⟨hrt, hz⟩
      · exact xw_iret hx hb (hr.trans hrt) rfl hlocks hd hq H locs ls hM hS hL hl
      · exact xw_iret hx hb (hr.trans hrt) (by rcases hz with rfl | rfl <;> rfl) hlocks hd hq H locs ls hM hS hL hl
    · subst hst
      exact xw_lret hx hb (hr.trans hrt) hlocks hd hq H locs ls hM hS hL hl
    · subst hst
      rcases hrt with ⟨C, hrt⟩ | ⟨t, hrt⟩
      · exact xw_aret hx hb (hr.trans hrt) (Or.inl ⟨_, rfl⟩) hlocks hd hq H locs ls hM hS hL hl
      · exact xw_aret hx hb (hr.trans hrt) (Or.inr ⟨_, rfl⟩) hlocks hd hq H locs ls hM hS hL hl
    · exact xw_vret hx hb (hr.trans hrt) hlocks hd hq st hst H locs ls hM hS hL hl
  have hgo := body (xW T p l e (headSpec (xws μ) { frames := fr, cells := mc, slots := ms, locals := lo }).room s m (as.map (xc G)).toArray below meth c (MQ below (xQc T G Q) (as.map (xc G)).toArray s mc ms (xA G)) G μ.2.2.1) (xcl T (fr, lo, mc, ms) G) (fun _ _ _ _ _ _ _ q => q)
    ⟨fun pc len tg op hd hln htg N J hN hJ L st h k n hop => xop_ok E (fun _ _ _ _ _ _ _ q => q) hret hd hln htg hN hJ hop, fun pc L st h k n k' n' hk hn hX H locs ls hM hS hL hl => W.widen hk hn (hX H locs ls hM hS hL hl)⟩
  have hl := lv_entry (as.map (xc G)) (n := μ.2.2.1) (by rw [xen_len]; exact hlen)
  rw [lg_entry_eq]
  subst hL0
  refine hgo s.heap [] _ hM va_S.rf ?_ ⟨hl.1, hl.2.1, fun q hq => hl.2.2 q (xen_args hq)⟩
  rw [List.length_append, List.length_replicate]
  omega
theorem xall {α : Type} {l : List (Nat × α)} {F : Nat → α → Prop} (h : ∀ q ∈ l, F q.1 q.2) : ∀ i d, (i, d) ∈ l → F i d := fun i d hq => h (i, d) hq
