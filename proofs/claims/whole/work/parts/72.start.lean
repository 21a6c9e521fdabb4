/-! THE CLAIM OUT OF ONE WALK OF THE LAW'S BODY. Your part is whole_start (and what it stands on); all else here is the same for every law, but numbers. -/
def R_law : String := "DrumTongueLaw"
def lw_P (b : Addr) (xs : List Int32) (args : Array Value) (s : State) : Prop := args = #[.ref b] ∧ s.IntsAt b xs ∧ xs.length ≤ 2560 ∧ (Jvm.Cond.and given_1 narrow_1).before args s = true
def lw_Q (_ : Array Value) (s : State) (o : Outcome) (t : State) : Prop := o = .returned (some (.int 1)) ∧ Framed s o t [] 600000 7302249
def lw_Z (below : List Frame) (a : Array Value) (s : State) : State → Prop := fun t => ∃ o, t.status = .running ∧ Ended t below o ∧ lw_Q a s o t
/-- the law's own end, with 1 on the stack, nothing written that was there before, its room as the claim has it -/
theorem lw_ret {p : Program} {l : Launch} {e : Env} {s : State} {m : MethodId} {below : List Frame} {meth : Method} {c : Code} {b : Nat} (hx : p.tables.exec = Jvm.exec) (hb : c.code = code) (hr : meth.sig.returnType = ret) (hlocks : meth.locks = false) {pc : Nat} {H : Heap} {ls : Array Slot} (hdg : decode code pc = .ok (.ireturn, 1)) : W p l e room_1 s m #[Value.ref b] below meth c H [] 600000 7302249 (lw_Z below #[Value.ref b] s) (F0 m pc ls [.int 1]) := by
  intro T hT X
  obtain ⟨fs, hret, hrun, hended, hW, hframe⟩ := X.leave (v := some (.int 1)) (hlocks := hlocks) (fun h => by rw [hr] at h; cases h)
  have hmeth' : T.vm.method? m = some meth := X.method'
  refine ⟨T.setFrames fs, ?_, .returned (some (.int 1)), hrun, hended, rfl, ⟨_, rfl⟩, hW, hframe⟩
  jvm_step X.here [X.here.top, hx, hb, hdg, hmeth', hr, ret, narrow_b1]
  (try refine ⟨rfl, ?_⟩); (try refine ⟨rfl, ?_⟩)
  first | (intro acts; rw [hret _ acts rfl rfl rfl]) | rw [hret _ _ rfl rfl rfl]
  exact Steps.refl _
/-- what holds at the law's entry: the machine, the code, the tables' words (any of lw_tbl by 'hts w (by decide +kernel)'), the script of L ints xs at the cell b, what the Statement gives of the start (any of its parts by flat_of_before) -/
def lw_At (p : Program) (s : State) (m : MethodId) (meth : Method) (c : Code) (b L : Nat) (xs : Nat → Int32) : Prop :=
  p.tables.exec = Jvm.exec ∧ c.code = code ∧ meth.sig.returnType = ret ∧ c.maxLocals = 4 ∧ s.vm.findClass R_law = some m.cls ∧ (∀ w ∈ lw_tbl, w.before #[Value.ref b] s = true) ∧ va_X b L xs s s.heap ∧ b < s.heap.size ∧ meth.locks = false ∧ (Jvm.Cond.and given_1 narrow_1).before #[Value.ref b] s = true
-- ===== YOUR PART BEGINS =====
theorem xKn_cls {s : State} {A : Array Value} (hts : ∀ w ∈ xTB, w.before A s = true) {own : String} {idx ci : Nat} {fs : List xV} (h : xNw own idx ci fs) {q : vw_C} (hc : xCl[ci]? = some q) : ∃ (cC : ClassId) (iS : Nat → Nat), u_Kn s q.1 q.2.1 q.2.2 cC iS := by
  obtain ⟨C, F, N, tys, e, hw, -, -, hi, -⟩ := h
  cases hc.symm.trans e
  exact u_known hts hw (hts _ hi)
theorem xKn_arr {s : State} {A : Array Value} {ty : FieldType} (h : (Cond.arrayClass ty).before A s = true) (hty : ∀ C, ty ≠ .object C) : ∃ cA : ClassId, ArrOfT s cA ty ∧ va_RA s cA ty := by
  obtain ⟨cA, k, comp, h1, h2, h3⟩ := Cond.arrayClass_spec h
  refine ⟨cA, fun n z => ⟨fun k h => (by cases h), k, h2, comp, h3⟩, ?_⟩
  unfold va_RA
  split
  · exact absurd rfl (hty _)
  · exact h1
theorem xKn_grid {s : State} {A : Array Value} (h : (Cond.arrayOver (.array .int)).before A s = true) : ∃ cA : ClassId, ArrOfT s cA (.array .int) ∧ va_RA s cA (.array .int) := by
  obtain ⟨comp, cA, k, h0, h1, h2, h3⟩ := Cond.arrayOver_specA h
  exact ⟨cA, fun n z => ⟨fun k h => (by cases h), k, h1, comp, h2⟩, h3⟩
/-- what the law's walk stands on, at its entry -/
theorem xKn_start {s : State} {b L : Nat} {xs : Nat → Int32} (hts : ∀ w ∈ lw_tbl, w.before #[Value.ref b] s = true) (hX : va_X b L xs s s.heap) (hbl : b < s.heap.size) : ∃ G : xG, xKn G s ∧ G.2.2.1 = s.heap.size ∧ G.2.2.2.1 = b ∧ xMt xN0 G (fun _ _ => 0, xDs L xs, 1) s.heap := by
  have htb : ∀ w ∈ xTB, w.before #[Value.ref b] s = true := fun w hw => hts w (List.mem_filter.mp hw).1
  obtain ⟨c0, i0, h0⟩ := xKn_cls htb xn_X_16 (show xCl[0]? = some (RX0, TX0, 2) from rfl)
  obtain ⟨c1, i1, h1⟩ := xKn_cls htb xn_X_32 (show xCl[1]? = some (RX1, TX1, 10) from rfl)
  obtain ⟨c2, i2, h2⟩ := xKn_cls htb xn_X_23 (show xCl[2]? = some (RX2, TX2, 11) from rfl)
  obtain ⟨c3, i3, h3⟩ := xKn_cls htb xn_Tails_11 (show xCl[3]? = some (RX3, TX3, 3) from rfl)
  obtain ⟨c4, i4, h4⟩ := xKn_cls htb xn_Tongue_23 (show xCl[4]? = some (RX4, TX4, 3) from rfl)
  obtain ⟨c5, i5, h5⟩ := xKn_cls htb xn_X_7 (show xCl[5]? = some (RX5, TX5, 12) from rfl)
  obtain ⟨c6, i6, h6⟩ := xKn_cls htb xn_Law_7 (show xCl[6]? = some (RX6, TX6, 4) from rfl)
  obtain ⟨c7, i7, h7⟩ := xKn_cls htb xn_Law_10 (show xCl[7]? = some (RX7, TX7, 39) from rfl)
  obtain ⟨a0, g0⟩ := xKn_arr (htb _ xWi) (fun C q => by cases q)
  obtain ⟨a1, g1⟩ := xKn_arr (htb _ xWj) (fun C q => by cases q)
  have hov := hts (Cond.arrayOver (.array .int)) (by decide +kernel)
  obtain ⟨a2, g2⟩ := xKn_grid hov
  have hnest := hts (.methodLinkNest "DrumTongue" 18 y_Ear_init "DrumTongue") (by decide +kernel)
  obtain ⟨scr, x1, x2, x3, x4, x5⟩ := hX
  refine ⟨((fun k => [c0, c1, c2, c3, c4, c5, c6, c7].getD k c0, fun k => [i0, i1, i2, i3, i4, i5, i6, i7].getD k i0), fun t => [a0, a1, a2].getD t a0, s.heap.size, b, scr), ⟨⟨?_, fun k q h => by simp at h⟩, ?_, x2, x3, hov, va_tabs (by decide +kernel) rfl hnest⟩, rfl, rfl, hbl, Nat.le_refl 1, rfl, ?_⟩
  · intro c q hq
    match c, hq with
    | 0, hq => cases hq; exact h0
    | 1, hq => cases hq; exact h1
    | 2, hq => cases hq; exact h2
    | 3, hq => cases hq; exact h3
    | 4, hq => cases hq; exact h4
    | 5, hq => cases hq; exact h5
    | 6, hq => cases hq; exact h6
    | 7, hq => cases hq; exact h7
    | c + 8, hq => simp [xCl] at hq
  · intro t ty ht
    match t, ht with
    | 0, ht => cases ht; exact g0
    | 1, ht => cases ht; exact g1
    | 2, ht => cases ht; exact g2
    | t + 3, ht => simp [xTys] at ht
  · intro a e he
    have he : xDs L xs a = some e := he
    by_cases ha : a = 0
    · subst ha
      have he : some (Sum.inr (9, L, fun j => xI (xs j).toInt)) = some e := he
      cases he
      refine ⟨?_, ⟨fun _ => ⟨_, _, rfl⟩, fun _ => rfl⟩⟩
      unfold xat
      simp only [if_true]
      refine ⟨x1, x4, fun j hj => ?_⟩
      rw [x5 j hj]
      show some (Value.int (xs j)) = some (Value.int (Int32.ofInt (xs j).toInt))
      rw [Int32.ofInt_toInt]
    · simp only [xDs, xup, if_neg ha] at he
      cases he
section XLAST
variable {p : Program} {l : Launch} {e : Env} {s : State} {m : MethodId} {below : List Frame} {meth : Method} {c : Code} {b L : Nat} {xs : Nat → Int32} {G : xG}
abbrev xWl (p : Program) (l : Launch) (e : Env) (s : State) (m : MethodId) (below : List Frame) (meth : Method) (c : Code) (b : Nat) (G : xG) (T : xT) : xS := xW T p l e room_1 s m #[Value.ref b] below meth c (lw_Z below #[Value.ref b] s) G 4
theorem xEv_law (C0 : lw_At p s m meth c b L xs) (hK : xKn G s) (hG : G.2.2.1 = s.heap.size) : xEv p s m #[Value.ref b] meth c code 4 "DrumTongueLaw" tb_Law G false := by
  obtain ⟨hx, hb, hr, hml, hown, hts, hX, hbl, hlocks, hgv⟩ := id C0
  exact ⟨hx, hb, hml, fun w hw => hts w (List.mem_filter.mp hw).1, hown, hK, Nat.le_of_eq hG, tk_Law, fun q => by cases q⟩
theorem xRet_law (C0 : lw_At p s m meth c b L xs) (hG : G.2.2.1 = s.heap.size) (T : xT) : xRet T p l e room_1 s m #[Value.ref b] below meth c (lw_Z below #[Value.ref b] s) G 4 code ret (fun r _ => r = some (xI 1)) := by
  obtain ⟨hx, hb, hr, hml, hown, hts, hX, hbl, hlocks, hgv⟩ := id C0
  intro pc op L st r h k n hd hst hP hk hn hop
  subst hP
  rcases hop with ⟨rfl, -⟩ | ⟨-, ⟨z, hz⟩, -⟩ | ⟨-, ⟨q, hq⟩, -⟩ | ⟨-, hq, -⟩
  · subst hst
    intro H locs ls hM hS hL hl
    refine W.widen (k := 600000) (n := 7302249) hk hn ?_
    refine va_forget (fun q hq => by have := hS.2.2 q hq; show s.heap.size ≤ q.base; rw [← hG]; exact this) ?_
    exact lw_ret hx hb hr hlocks hd
  · cases hz
  · cases hq
  · cases hq
theorem xClo_law (C0 : lw_At p s m meth c b L xs) (hK : xKn G s) (hG : G.2.2.1 = s.heap.size) (T : xT) : xClo code tb_Law T (2048, 84000, 600000, 7302249) ret false (xcl T (2048, 84000, 600000, 7302249) G) (fun r _ => r = some (xI 1)) (xWl p l e s m below meth c b G T) :=
  ⟨fun pc len tg op hd hln htg N J hN hJ L st h k n hop => xop_ok (R := room_1) (xEv_law C0 hK hG) (fun _ _ _ _ _ _ _ q => q) (xRet_law C0 hG T) hd hln htg hN hJ hop, fun pc L st h k n k' n' hk hn hX H locs ls hM hS hL hl => W.widen hk hn (hX H locs ls hM hS hL hl)⟩
end XLAST
/-- the law, from its entry to its end -/
theorem whole_start {p : Program} {e : Env} {s : State} {m : MethodId} {below : List Frame} {meth : Method} {c : Code} (l : Launch) (hflags : l.flags = flags0) {b L : Nat} {xs : Nat → Int32} (hL : L ≤ 2560) (C0 : lw_At p s m meth c b L xs) : W p l e room_1 s m #[Value.ref b] below meth c s.heap [] 0 0 (lw_Z below #[Value.ref b] s) (entryFrame m ([Value.ref b] : List Value).toArray 4) := by
  obtain ⟨hx, hb, hr, hml, hown, hts, hX, hbl, hlocks, hgv⟩ := id C0
  obtain ⟨G, hK, hG, hGb, hM⟩ := xKn_start hts hX hbl
  have hl := lv_entry ([.ref b]) (n := 4) (Nat.le_of_ble_eq_true rfl)
  rw [lg_entry_eq]
  generalize (lg_sl ([.ref b]) ++ List.replicate (4 - (lg_sl ([.ref b])).length) Slot.unset).toArray = ls at hl ⊢
  have hl : lv_has ls 4 [(0, .ref b)] := hl
  have h2 : xL2 (xDs L xs) 95 94 4003 (xWl p l e s m below meth c b G xT0) (xcl xT0 (2048, 84000, 600000, 7302249) G) (fun r _ => r = some (xI 1)) := by
    refine ⟨fun μ' as M rest K dd hm hd hml hct => ⟨hct, dd, 40 * dd, 0, 0, ⟨by show dd + 1 ≤ 2048; omega, by show 8 + (μ'.2.2.1 + 11) + 40 * dd ≤ 84000; omega, by show 94 + 0 ≤ 600000; decide, by show 4003 + 0 ≤ 7302249; decide⟩, fun l => xmono (hm G (xDs L xs) 95 l) fun a st o t hq => ?_⟩, fun r M' h => h, xClo_law C0 hK hG xT0⟩
    obtain ⟨r, h', e1, ⟨M', rfl, hk⟩, e2, e3⟩ := hq
    exact ⟨r, _, e1, hk, e2, e3⟩
  have h3 : xWl p l e s m below meth c b G xT0 18 (xLl 0) [] (xM0, xDs L xs, 95) 94 4003 := w_loop h2 hL L xM0 0 INV0 (by omega) (by omega) (by omega)
  have h4 : xWl p l e s m below meth c b G xN0 18 (xLl 0) [] (fun _ _ => 0, xFin (xDs L xs), 95) 94 4003 := fun H locs ls hM hS hL hl => h3 H locs ls (xMt_fin hM) hS hL hl
  have h1 : xL1 (fun _ _ => 0) (xWl p l e s m below meth c b G xN0) (xcl xN0 (2048, 84000, 600000, 7302249) G) (fun r h => r = some (xI 1)) := by
    refine ⟨fun μ' as D nx rest K k n d' mc' ms' hm hd hml hct hmc hms => ⟨hct, d', 40 * d', mc', ms', ⟨by show d' + 1 ≤ 2048; omega, by show 8 + (μ'.2.2.1 + 11) + 40 * d' ≤ 84000; omega, hmc, hms⟩, fun l => xmono (hm G (fun _ _ => 0) l) fun a st o t hq => ?_⟩, fun r D' nx' h => h.elim, xClo_law C0 hK hG xN0⟩
    obtain ⟨r, h', e1, ⟨D', nx', rfl, hk⟩, e2, e3⟩ := hq
    exact ⟨r, _, e1, hk, e2, e3⟩
  have h0 := w_enter h1 h4
  refine h0 s.heap [] ls hM va_S.rf rfl ?_
  have e : xls G 0 [some (xR (some 0)), none, none, none] = [(0, .ref b)] := by rw [← hGb]; rfl
  rw [e]
  exact hl
-- ===== YOUR PART ENDS =====
set_option maxHeartbeats 4000000 in
theorem lw_walk (l : Launch) (hflags : l.flags = flags0) (b : Addr) (xs : List Int32) : MetFree l x (headSpec (Jvm.Cond.code x code maxLocals ret :: tables_1) room_1) (lw_P b xs) (fun _ _ _ _ _ => True) lw_Q := by
  refine MetFree.of_bodyS (code := code) (maxLocals := maxLocals) (ret := ret) (by decide) ?_ ?_
  · intro args s m h hn
    obtain ⟨meth, c, h1, h2, h3, h4, h5, h6, -, -⟩ := Cond.code_spec hn (atoms_spec (ws := Jvm.Cond.code x code maxLocals ret :: tables_1) h _ List.mem_cons_self)
    exact ⟨meth, c, h1, h2, h3, h4, h5, h6⟩
  · intro p e s m args below meth c s₁ B hml0 hP _
    obtain ⟨rfl, hx, hbd, hgv⟩ := hP
    obtain ⟨scr, harrAt, hlist, hof, hsmall⟩ := hx
    obtain ⟨hcb, hkn, -, -⟩ := State.arrayAt?_spec harrAt
    have hown : s.vm.findClass R_law = some m.cls := findClass_of_methodNamed B.named
    have hts0 : ∀ c ∈ (Jvm.Cond.code x code maxLocals ret :: tables_1), c.before #[Value.ref b] s = true := atoms_spec (ws := Jvm.Cond.code x code maxLocals ret :: tables_1) B.pre
    have hts : ∀ w ∈ lw_tbl, w.before #[Value.ref b] s = true := k2_hts_sels lw_privs (fun w hw => hts0 w (List.mem_cons_of_mem _ hw)) lw_privs_ok
    have hml : c.maxLocals = 4 := B.maxLocals_eq (hts0 _ List.mem_cons_self)
    have X₀ : Stand p l e room_1 s m #[Value.ref b] below meth c s₁ [] 0 0 := Stand.of_body B
    have hh0 : s₁.heap = s.heap := by rw [B.state]; rfl
    have hsz : scr.slots.size = xs.length := by rw [← Array.length_toList, hlist, List.length_map]
    have hval : ∀ j : Nat, j < xs.length → scr.slots[j]? = some (.int (xs.getD j 0)) := fun j hj => by
      rw [← Array.getElem?_toList, hlist]
      simp [hj]
    have hbl : b < s.heap.size := (Array.getElem?_eq_some_iff.mp hcb).1
    have hX : va_X b xs.length (fun j => xs.getD j 0) s s.heap := ⟨scr, hcb, hof, hkn, hsz, hval⟩
    have K : W p l e room_1 s m #[Value.ref b] below meth c s₁.heap [] 0 0 (lw_Z below #[Value.ref b] s) (entryFrame m ([Value.ref b] : List Value).toArray 4) := by
      rw [hh0]
      exact whole_start l hflags hbd ⟨B.exec, B.bytes, B.returns, hml, hown, hts, hX, hbl, B.notSynchronized, hgv⟩
    obtain ⟨t, a1, o, b1, b2, b3⟩ := K s₁ rfl X₀
    exact ⟨t, o, a1, b1, b2, b3⟩
theorem lw_pre_spec {args : Array Value} {s : State} (h : (Jvm.Cond.and given_1 narrow_1).before args s = true) (hr : rest_1_c.before args s = true) : ∃ (b : Addr) (xs : List Int32), lw_P b xs args s := by
  have hs := flat_of_before _ h
  have hq := flat_of_before _ hr
  have hc : (Cond.count 1).before args s = true := hs _ (by decide +kernel)
  have harr : (Cond.arrayOf (.arg 0) .int).before args s = true := hs _ (by decide +kernel)
  have hle : (Cond.le (.length (.arg 0)) (.int 2560)).before args s = true := hs _ (by decide +kernel)
  have hlen : (Cond.isInt (.length (.arg 0))).before args s = true := hq _ (by decide +kernel)
  have hall : (Cond.all (.arg 0) (.isInt (.elem (.arg 0) (.index 0)))).before args s = true := hq _ (by decide +kernel)
  obtain ⟨b, xs, hb, hx⟩ := State.ints_of_pre rfl harr hlen hall
  have hsm : xs.length < 2 ^ 31 := hx.choose_spec.2.2.2
  have hev : (Term.length (.arg 0)).eval args s none [] s = some (.int xs.length.toInt32) := hx.length_eval hb
  have hv := Cond.le_ints hev (show (Term.int 2560).eval args s none [] s = some (.int 2560) from rfl)
  have hd : xs.length.toInt32 ≤ 2560 := by
    simpa [Cond.before, Cond.holds, hv] using hle
  have hN : xs.length ≤ 2560 := (Int32.ofNat_le_ofNat hsm (by decide)).mp (show Int32.ofNat xs.length ≤ Int32.ofNat 2560 from hd)
  exact ⟨b, xs, Cond.one_arg hc (show args[0]? = some (.ref b) from hb), hx, hN, h⟩
theorem lw_comes (l : Launch) (hflags : l.flags = flags0) : Comes l x (Jvm.Cond.code x code maxLocals ret :: tables_1) room_1 (fun tb e args s => Calls_1 tb e args s ∧ rest_1 tb e args s ∧ Pre_1 tb e args s)
    (fun _ _ args s o t => lw_Q args s o t) := by
  intro p e ha hc hk s m args below hf hfit hheap happ hpre
  obtain ⟨b, xs, hP⟩ := lw_pre_spec hpre.2.2 hpre.2.1
  obtain ⟨k, o, h1, h2, h3, hQ⟩ := lw_walk l hflags b xs p e ha hc hk s m args below hf ((Spec.applies_iff_loose hf).mp happ).1 hP trivial
  exact ⟨k, o, h1, h2, h3, hQ⟩
theorem lw_frame {s t : State} {o : Outcome} {args : Array Value} (h : Framed s o t [] 600000 7302249) :
    Framed s o t (fieldLocs frame_1_writes args s ++ arrayLocs frame_1_arrays args s ++ staticLocs frame_1_statics s) 600000 7302249 := h
theorem lw_limb (L : Cond) (hL : ∀ (args : Array Value) (s t : State), L.after args s (.returned (some (.int 1))) t = true) :
    ArmFor flags0 classFile x code maxLocals ret World_1 tables_1 room_1 Calls_1 rest_1 Pre_1
      (fun tb e a s o t => postC L tb e a s o t ∧ Framed s o t (fieldLocs frame_1_writes a s ++ arrayLocs frame_1_arrays a s ++ staticLocs frame_1_statics s) 600000 7302249) := by
  intro l hflags _ _ p e ha hc hk s m args below hf hfit hheap happ hpre
  obtain ⟨k, o, h1, h2, h3, rfl, hF⟩ := lw_comes l hflags p e ha hc hk s m args below hf hfit hheap happ hpre
  exact ⟨k, _, h1, h2, h3, hL args s _, lw_frame hF⟩
theorem i_vc : Claimed_1_1 ∧ Claimed_1_2 := ⟨lw_limb limb_1_1 (fun args s t => by simp [limb_1_1, Cond.after, Cond.holds, Cond.value]), lw_limb limb_1_2 (fun args s t => Cond.after_iff.mpr (by
  first | (rw [show limb_1_2 = Cond.eq .result (.int 1) from rfl, Cond.eq_ints (x := 1) (y := 1) rfl rfl]; simp; done) | (simp [limb_1_2, Cond.value, Term.eval]; done)))⟩
