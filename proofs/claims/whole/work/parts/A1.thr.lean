/-! Methods that throw: a new exception, contracts TX, rows. -/
theorem th_.lays {A : Nat → Prop} {U : State} {n d : String} {args : Array Value} (h : th_ A U U.heap n d) : (Cond.laysStatic Bundle.tN n d).before args U = true := by
  obtain ⟨c, k, i, f, a, cell, v, h0, h1, h2, h3, h4, h5, h6, h7, h8, h9, h10, h11⟩ := h
  have h0' : U.vm.findClass Bundle.tN = some c := h0
  have h1' : U.fieldFound? Bundle.tN n d = some (c, k, i, f) := h1
  simp [Cond.before, Cond.holds, Cond.value, h0', h1', h2, h3, h4, h5, h6, h7, h8]
theorem th_.isRef {A : Nat → Prop} {U : State} {n d : String} {args : Array Value} (h : th_ A U U.heap n d) : (Cond.isRef (.static Bundle.tN n d)).before args U = true := by
  obtain ⟨c, k, i, f, a, cell, v, h0, h1, h2, h3, h4, h5, h6, h7, h8, h9, h10, h11⟩ := h
  have h1' : U.fieldFound? Bundle.tN n d = some (c, k, i, f) := h1
  have e : (Term.static Bundle.tN n d).eval args U none [] U = some v := by
    simp [Term.eval, State.fieldNamed?, h1', h2, h3, h5, h6, h9]
  simp only [Cond.before, Cond.holds, Cond.value, e]
  cases v <;> first | rfl | (simp [Value.isRef] at h10)
theorem tw_sel {l : Launch} {e : Env} {s : State} {args : Array Value} {cls : String} {y : MethodName} {c : ClassId} {mY : MethodId} (ha : l.admits e) (hw : (Cond.selects cls y y).before args s = true) (hc : s.vm.findClass cls = some c) (hn : s.methodNamed? y = some mY) (hy : y.cls ≠ "java/lang/invoke/MethodHandle" ∧ y.cls ≠ "java/lang/invoke/VarHandle") : selectMethod e.platform s.vm c mY = .method mY := by
  obtain ⟨c2, r2, m2, q1, q2, q3, q4, -⟩ := Cond.selects_spec hw
  cases hc.symm.trans q1
  cases (State.methodFound?_of_named hn hy).symm.trans q2
  cases hn.symm.trans q3
  rw [Launch.admits_selectMethod ha]; exact q4
section TW
variable {p : Program} {l : Launch} {e : Env} {R : Room} {s : State} {m : MethodId} {args : Array Value} {below : List Frame} {meth : Method} {c : Code} {T0 : State} {locs : List Loc} {cells slots : Nat}
set_option maxHeartbeats 2000000 in
/-- the constructor of a new exception has run: her cell holds something, nothing else has moved -/
theorem tw_made (X : Stand p l e R s m args below meth c T0 locs cells slots) (hexec : p.tables.exec = Jvm.exec) (htr : e.platform.stackTraces = false) {own cls : String} {ic ix : Nat} {rx : ByteArray}
    (hrx : decode rx 0 = .ok (.aload_n 0, 1) ∧ decode rx 1 = .ok (.aload_n 1, 1) ∧ decode rx 2 = .ok (.invokespecial ix, 3) ∧ decode rx 5 = .ok (.return_, 1))
    (hown : s.vm.findClass own = some m.cls) (hcls : Bundle.fit cls = true) (ha : xa_ args s own ic cls ix rx)
    (hst : ∀ (c : ClassId) (k : Class) (i : Nat) (f : Field) (q : Nat), s.fieldFound? Bundle.tN "UNASSIGNED_STACK" Bundle.steD = some (c, k, i, f) → k.statics = some q → ∀ x ∈ locs, x.base ≠ q)
    {a : Addr} {cX : ClassId} {kX : Class} (hfX : s.vm.findClass cls = some cX) (hkX : s.vm.classes[cX]? = some kX) (hcell : T0.heap[a]? = some (freshCell cX kX)) (hnew : s.heap.size ≤ a)
    {msg : Value} (hmsg : msg.isRef = true) {g : JFrame} (hg : g.method = m) (hsize : g.locals.size = c.maxLocals) {rest : List Value} (hstack : g.stack = msg :: .ref a :: rest)
    (hd : decode c.code g.pc = .ok (.invokespecial ic, 3)) (hF : 5 < R.frames) (hL : 2 * g.monitorRoom + (rest.map fun v => v.category).sum + 81 ≤ R.locals) :
    ∃ (vm' : Vm) (ce : Cell), ce.cls = cX ∧ ce.vm = .none ∧ Stand p l e R s m args below meth c ((T0.setVm vm').setCell a ce) locs cells slots ∧
      ∀ tg, Steps p.tables e below (((T0.setVm vm').setCell a ce).setTop { g with pc := g.pc + 3, stack := rest }) tg → Steps p.tables e below (T0.setTop g) tg := by
  have hpf := X.admits.platform
  have h1 : e.platform.frameOwnsMonitors = true := by rw [hpf]
  have h2 : e.platform.finalization = false := by rw [hpf]
  have h3 : e.platform.magicAccessors = ({} : Platform).magicAccessors := by rw [hpf]
  obtain ⟨w1, w2, w3, w4, hw⟩ := ha
  obtain ⟨T, Z0, L, -, Y⟩ := ThrowableC.of_atoms (args := args) h1 h2 h3 w1
  obtain ⟨Z, M, LZ, LM, hZ⟩ := Init0T.ofS_atoms (args := args) h3 L Y w2
  obtain ⟨P1, L1, hm1, hm1s⟩ := PassC.ofS_atoms (args := args) (s := s) h3 (X := cls) (Y := xR) (Bundle.fit_spec hcls).1 (by decide) hrx.1 hrx.2.1 hrx.2.2.1 hrx.2.2.2 w3
  obtain ⟨P2, Qs, hlenQ, L2, hLQ, hm2, hq1, hq2⟩ := Bundle.chainS (args := args) h3 hZ [xE] xR (by decide +kernel) (by decide +kernel) w4
  have hs1 : P1.sup = firstOf (Z.m T.toThrowableT) ((P2 :: Qs).map (·.toPassT)) := Option.some.inj (hm1s.symm.trans hm2)
  have hs2 : PassesOn (Z.m T.toThrowableT) ((P2 :: Qs).map (·.toPassT)) := ⟨hq1, hq2⟩
  have hLs : ∀ P, P ∈ P2 :: Qs → P.LinksS e.platform s := fun P hP => by
    rcases List.mem_cons.mp hP with rfl | hP
    · exact L2
    · exact hLQ P hP
  have hlen2 : (P2 :: Qs).length = 2 := by rw [List.length_cons, hlenQ]; rfl
  cases Option.some.inj (hfX.symm.trans (findClass_of_methodNamed hm1))
  obtain ⟨c1, k1, q1, hk, hord, -, -, -⟩ := Cond.instantiable_spec (hw (.instantiable cls 6) (by simp [xo_]))
  cases Option.some.inj (q1.symm.trans hfX)
  cases Option.some.inj (hkX.symm.trans hk)
  obtain ⟨cS0, hS0, hiss⟩ := Y.statics
  obtain ⟨u0, hu0⟩ := Cond.staticRefV Y.unassigned L.unassignedStatic L.statics hS0 hiss (hw (.isRef (.static Bundle.tN "UNASSIGNED_STACK" Bundle.steD)) (by simp [xo_]))
  obtain ⟨sen, hsen⟩ := Cond.staticRefV Y.sentinel L.sentinelStatic L.statics hS0 hiss (hw (.isRef (.static Bundle.tN "SUPPRESSED_SENTINEL" Bundle.listD)) (by simp [xo_]))
  obtain ⟨cS, hS, heS, -, hkeep⟩ := X.same.2.2.2.2.2 T.aS cS0 hS0
  have hno : ∀ i, (⟨T.aS, i⟩ : Loc) ∉ locs := fun i h => hst _ _ _ _ _ Y.unassigned L.statics _ h rfl
  have hunk : cS.vm ≠ .unknown := fun hu => by
    rw [heS] at hu
    have hu2 : cS0.vm = .unknown := hu
    rw [hu2] at hiss; cases hiss
  have hne : T.aS ≠ a := Nat.ne_of_lt (Nat.lt_of_lt_of_le (Array.getElem?_eq_some_iff.mp hS0).1 hnew)
  obtain ⟨ci, ib, fB, b1, b2, b3, b4, -, b5, b6, b7⟩ := Cond.ownField (t := .object "java/lang/Object") Y.found L.cls (by decide +kernel) (hw (.fieldLink Bundle.tN 198 Bundle.tN "backtrace" "Ljava/lang/Object;") (by simp [xo_])) (hw (.lays Bundle.tN Bundle.tN "backtrace" "Ljava/lang/Object;") (by simp [xo_])) e.platform h3
  obtain ⟨iM, hffM⟩ := Y.msg
  obtain ⟨tC, dC, eC, nC⟩ := Cond.laysAt hfX hk Y.cause (hw (.lays cls Bundle.tN "cause" "Ljava/lang/Throwable;") (by simp [xo_]))
  obtain ⟨tS, dS, eS, nS⟩ := Cond.laysAt hfX hk Y.stack (hw (.lays cls Bundle.tN "stackTrace" Bundle.steD) (by simp [xo_]))
  obtain ⟨tP, dP, eP, nP⟩ := Cond.laysAt hfX hk Y.supp (hw (.lays cls Bundle.tN "suppressedExceptions" Bundle.listD) (by simp [xo_]))
  obtain ⟨tM, dM, eM, nM⟩ := Cond.laysAt hfX hk hffM (hw (.lays cls Bundle.tN "detailMessage" "Ljava/lang/String;") (by simp [xo_]))
  obtain ⟨tB, dB, eB, nB⟩ := Cond.laysAt hfX hk b7 (hw (.lays cls Bundle.tN "backtrace" "Ljava/lang/Object;") (by simp [xo_]))
  have aC := Cond.laysApart eB eC nB nC (by rw [b5, Y.causeName]; decide)
  have aS := Cond.laysApart eB eS nB nS (by rw [b5, Y.stackName]; decide)
  have aP := Cond.laysApart eB eP nB nP (by rw [b5, Y.suppName]; decide)
  have hB : (freshCell P1.m.cls kX).slots[fB.slot]? = some .null := by
    have q := fresh_default (c := P1.m.cls) tB
    rw [b6] at q
    exact q
  have hskip : SkipFacts T e.platform s (fun u => u) u0 ((preparedCellV T.toThrowableT (freshCell P1.m.cls kX) a u0 sen).withEntry T0.cur) := by
    refine ⟨{ ci198 := ci, i198 := ib, fBack := fB }, ⟨b1, b2, b3, b4⟩, ?_, fun _ _ => rfl⟩
    simpa [preparedCellV, Cell.setSlot, Cell.withEntry, Array.getElem?_setIfInBounds, aC, aS, aP, aC.symm, aS.symm, aP.symm] using hB
  obtain ⟨tm, -, -, -, vm1, g1, -, -, -, -, -, -, -, hW1, st1⟩ := Steps.initColdS (tb := p.tables) (e := e) (below := below) (s := s) (U := T0) X.here hexec X.warmed h3 hown (t := Bundle.initS cls) rfl rfl (Bundle.fit_spec hcls).2
    (hw (.methodLink own ic (Bundle.initS cls)) (by simp [xo_])) (w3 (.instanceMethod (Bundle.initS cls)) (by simp [Bundle.passSAtoms])) (bytes := rx) (maxL := 2) (w3 (.code (Bundle.initS cls) rx 2 none) (by simp [Bundle.passSAtoms]))
    (f := g) hg (a := a) (msg := msg) (rest := rest) hstack hd
  cases Option.some.inj (g1.symm.trans hm1)
  obtain ⟨vm2, X2, st2⟩ := (X.noted hW1).ctorMessageOffV hexec (g := { g with stack := rest }) hg hsize T L Z LZ M LM (P1 :: P2 :: Qs)
    (fun P hP => by rcases List.mem_cons.mp hP with rfl | hP; exact L1; exact hLs P hP) ⟨hs1, hs2⟩ (u0 := u0) (sen := sen) (self := a) hmsg (cell := freshCell P1.m.cls kX) (cellS := cS)
    hcell (fun _ => by simp) (by simp) rfl rfl
    (tw_sel X.admits (hw (.selects cls Bundle.tFill0 Bundle.tFill0) (by simp [xo_])) hfX Y.fill0 (by decide)) (tw_sel X.admits (hw (.selects cls Bundle.tFill Bundle.tFill) (by simp [xo_])) hfX Y.fill (by decide))
    hS hne hunk (by rw [hkeep _ (hno _)]; exact hu0) (by rw [hkeep _ (hno _)]; exact hsen)
    (Takes.of_laid hk hord tC (by rw [Y.causeType]; rfl)) (Takes.of_laid hk hord tS (by rw [Y.stackType]; exact fits_refV_array _ u0)) (Takes.of_laid hk hord tP (by rw [Y.suppType]; exact fits_refV_object _ sen))
    (Takes.of_laid hk hord tM (by rw [Y.msgType]; exact fits_refV_object _ ⟨msg, hmsg⟩)) Y.objLocals hskip htr [] hd
    (by rw [List.length_cons, hlen2]; omega) (by rw [List.length_cons, hlen2]; exact hL)
  refine ⟨vm2, plainBareV T.toThrowableT (freshCell P1.m.cls kX) a u0 sen msg, rfl, rfl, X2.forget (fun y hy => ?_), fun tg ht => st1 _ (fun acts => ?_)⟩
  · have hb : y.base = a := by
      simp only [List.mem_cons, List.not_mem_nil, or_false] at hy
      rcases hy with rfl | rfl | rfl | rfl | rfl <;> rfl
    rw [hb]; exact hnew
  · rw [doInvoke_state]
    exact st2 _ ht
end TW
def FT_ (first : State) (o : Outcome) (t : State) (L : List Loc) (k n : Nat) : Prop := (∃ x, o = .threw x) ∧ first.WarmedH t.vm ∧ first.sameButNew ({ t with vm := first.vm } : State) L k n
/-- a contract whose end is a throw -/
def MetT (l : Launch) (y : MethodName) (ws : List Cond) (rm : Room) (Pc : Array Value → State → Prop) (Qc : Array Value → State → Outcome → State → Prop) (mc ms : Nat) (free : Addr → Prop) : Prop :=
  MetFree l y (headSpec ws rm) Pc (fun _ _ _ _ _ => True) (fun a st o t => Qc a st o t ∧ ∃ L, FT_ st o t L mc ms ∧ ∀ q ∈ L, free q.base)
def MQT (below : List Frame) (Qc : Array Value → State → Outcome → State → Prop) (a : Array Value) (s : State) (mc ms : Nat) (free : Addr → Prop) : State → Prop := fun t =>
  ∃ o, t.status = .running ∧ Ended t below o ∧ Qc a s o t ∧ ∃ L, FT_ s o t L mc ms ∧ ∀ q ∈ L, free q.base
/-- it threw a C; the world behind it -/
def Qt_ (G : mt_G) (C : String) (P : mt_M → Prop) (A : Nat → Prop) : Array Value → State → Outcome → State → Prop := fun _ s o t => (∃ (q : Addr) (ce : Cell) (mem' : mt_M), o = .threw q ∧ t.heap[q]? = some ce ∧ ce.vm = .none ∧ t.vm.findClass C = some ce.cls ∧ P mem' ∧ va_P G.2.1 vwCl (wd G mem') t.heap) ∧ va_F A s t
def rmt (d : Nat) : Room := { frames := d, cells := 1, slots := 6, locals := 64 * d }
def TX (G : mt_G) (l : Launch) (y : MethodName) (cc : ByteArray) (nL : Nat) (ret : Option FieldType) (d : Nat) (vs : List Value) (mem : mt_M) (C : String) (P : mt_M → Prop) : Prop :=
  ∀ sz : Nat, MetT l y (Cond.code y cc nL ret :: mt_T) (rmt d) (va_Pc vs (Pw_ G mem sz)) (Qt_ G C P (As_ G sz)) 1 6 (As_ G sz)
def OX (G : mt_G) (X : mt_X) (d : Nat) (C : String) (P : mt_M → Prop) : Prop := match X with
  | (_, l, _, R, s, _, args, below, meth, c, A, Q) => Q = MQT below (Qt_ G C P A) args s 1 6 A ∧ meth.locks = false ∧ R = rmt d ∧ c.exceptionTable.isEmpty = true ∧ l.stackTraces = false
theorem TX.intro {G : mt_G} {l : Launch} {y : MethodName} {cc : ByteArray} {nL : Nat} {ret : Option FieldType} {d : Nat} {vs : List Value} {mem : mt_M} {C : String} {P : mt_M → Prop} {own : String} (hl : l.stackTraces = false) (hpl : plainName y.cls = true) (hown : y.cls = own) (hlen : (lg_sl vs).length ≤ nL)
    (body : ∀ X : mt_X, OK G X cc own nL → OX G X d C P → JJ G X 0 0 mem 0 (lo0 vs nL) []) : TX G l y cc nL ret d vs mem C P := by
  intro sz
  refine MetFree.of_bodyS (code := cc) (maxLocals := nL) (ret := ret) hpl ?_ ?_
  · intro args s m h hn
    obtain ⟨meth, c, h1, h2, h3, h4, h5, h6, -, -⟩ := Cond.code_spec hn (atoms_spec (ws := Cond.code y cc nL ret :: mt_T) h _ List.mem_cons_self)
    exact ⟨meth, c, h1, h2, h3, h4, h5, h6⟩
  · intro p e s m args below meth c s₁ B hml hv _
    obtain ⟨rfl, hsz, hP, hK, hi, hE⟩ := hv
    have hts := atoms_spec (ws := Cond.code y cc nL ret :: mt_T) B.pre
    have hown9 : s.vm.findClass y.cls = some m.cls := findClass_of_methodNamed B.named
    rw [hown] at hown9
    subst hsz
    have hb := body (p, l, e, rmt d, s, m, vs.toArray, below, meth, c, As_ G s.heap.size, MQT below (Qt_ G C P (As_ G s.heap.size)) vs.toArray s 1 6 (As_ G s.heap.size))
      ⟨B.exec, B.bytes, hml, hown9, fun w hw => hts w (List.mem_cons_of_mem _ hw), hK, hi, fun r hr => Or.inl ⟨r, hr, rfl⟩, fun q hq => Or.inr hq, hE⟩ ⟨rfl, B.notSynchronized, rfl, BodyLoose.noHandlers B (hts _ List.mem_cons_self), hl⟩
    have hh0 : s₁.heap = s.heap := by rw [B.state]; rfl
    have hW := hb s.heap [] _ hP va_S.rf (lo0_ok vs hlen)
    obtain ⟨t, a1, o, b1, b2, b3⟩ := hW s₁ hh0 (Stand.of_body B)
    rw [← lg_entry_eq] at a1
    exact ⟨t, o, a1, b1, b2, b3.1, b3.2⟩
