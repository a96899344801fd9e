/-! Rows of methods that throw. -/
/-- what is known of an exception's class -/
def xk_ (C : String) (ix : Nat) (rx : ByteArray) : Prop := Bundle.fit C = true ∧ (decode rx 0 = .ok (.aload_n 0, 1) ∧ decode rx 1 = .ok (.aload_n 1, 1) ∧ decode rx 2 = .ok (.invokespecial ix, 3) ∧ decode rx 5 = .ok (.return_, 1)) ∧ Cond.instantiable C 6 ∈ mt_T ∧ Cond.initialized C ∈ mt_T ∧
  ∀ {args : Array Value} {s : State}, (∀ w ∈ mt_T, w.before args s = true) → (∀ w ∈ mt_face, w.before args s = true) → (Cond.laysStatic Bundle.tN "UNASSIGNED_STACK" Bundle.steD).before args s = true → (Cond.laysStatic Bundle.tN "SUPPRESSED_SENTINEL" Bundle.listD).before args s = true → (Cond.isRef (.static Bundle.tN "UNASSIGNED_STACK" Bundle.steD)).before args s = true → (Cond.isRef (.static Bundle.tN "SUPPRESSED_SENTINEL" Bundle.listD)).before args s = true → ∀ {own : String} {ic : Nat}, Cond.methodLink own ic (Bundle.initS C) ∈ mt_T → xa_ args s own ic C ix rx
theorem xk_N : xk_ xN 13 xc13 := ⟨by decide +kernel, by decide +kernel, wx_37, wx_48, fun gT gF u1 u2 u3 u4 _ _ hl => xw_xN gT gF u1 u2 u3 u4 hl⟩
theorem xk_A : xk_ xA 7 Bundle.six := ⟨by decide +kernel, by decide +kernel, wx_52, wx_61, fun gT gF u1 u2 u3 u4 _ _ hl => xw_xA gT gF u1 u2 u3 u4 hl⟩
theorem xk_I : xk_ xI 7 Bundle.six := ⟨by decide +kernel, by decide +kernel, wx_65, wx_74, fun gT gF u1 u2 u3 u4 _ _ hl => xw_xI gT gF u1 u2 u3 u4 hl⟩
theorem xk_U : xk_ xU 7 Bundle.six := ⟨by decide +kernel, by decide +kernel, wx_78, wx_87, fun gT gF u1 u2 u3 u4 _ _ hl => xw_xU gT gF u1 u2 u3 u4 hl⟩
/-- the world stays when only the cell behind it changes -/
theorem va_P.past {G : mt_G} {mem : mt_M} {H : Heap} {f ce : Cell} (hP : va_P G.2.1 vwCl (wd G mem) H) : va_P G.2.1 vwCl (wd G mem) ((H.push f).setIfInBounds H.size ce) :=
  hP.kept fun k q hk => by
    have hl := (hP k q hk).lt
    rw [Array.getElem?_setIfInBounds_ne (by omega), Array.getElem?_push_lt hl]
    exact (Array.getElem?_eq_getElem hl).symm
theorem va_S.past {A : Nat → Prop} {H0 H : Heap} {locs : List Loc} {f ce : Cell} (hS : va_S A H0 H locs) : va_S A H0 ((H.push f).setIfInBounds H.size ce) locs :=
  ⟨by rw [Array.size_setIfInBounds, Array.size_push]; exact Nat.le_succ_of_le hS.1, fun q h1 h2 => by
    have hl : q < H.size := Nat.lt_of_lt_of_le h1 hS.1
    rw [Array.getElem?_setIfInBounds_ne (by omega), Array.getElem?_push_lt hl, ← hS.2.1 q h1 h2]
    exact (Array.getElem?_eq_getElem hl).symm, hS.2.2⟩
section JJThr
variable {G : mt_G} {X : mt_X} {cc : ByteArray} {own : String} {nL d : Nat} {mem : mt_M} {pc : Nat} {lo : List (Option Value)} {st : List Value} {C : String} {P : mt_M → Prop}
set_option maxHeartbeats 1000000 in
theorem jj_thr (h : OK G X cc own nL) (he : OX G X d C P) {iC iS ic ix : Nat} {rx : ByteArray} {tx : String} (i : Nat) (K : xk_ C ix rx) (hk : Cond.classLink own iC C ∈ mt_T) (hl : Cond.methodLink own ic (Bundle.initS C) ∈ mt_T) (hq : mt_str[i]? = some (own, iS, tx))
    (d0 : decode cc pc = .ok (.new iC, 3)) (d3 : decode cc (pc + 3) = .ok (.dup, 1)) (d4 : decode cc (pc + 3 + 1) = .ok (.ldc iS, 2)) (d6 : decode cc (pc + 3 + 1 + 2) = .ok (.invokespecial ic, 3)) (d9 : decode cc (pc + 3 + 1 + 2 + 3) = .ok (.athrow, 1))
    (hcat : (st.map fun v => v.category).sum ≤ 8) (hd : 6 ≤ d) (hlo : lo.length = nL) (hp : P mem) : JJ G X 0 0 mem pc lo st := by
  obtain ⟨p, l, e, R, s, m, args, below, meth, c, A, Q⟩ := X
  obtain ⟨hx, hb, hml, ho, hts, hK, hi, hA, hN, hE⟩ := h
  obtain ⟨rfl, hlk, rfl, het, hst⟩ := he
  obtain ⟨kf, kr, ki, kn, kw⟩ := K
  intro H locs ls hP hS hL
  refine W.newc hx hb ho (hts _ hk) (hts _ ki) (hts _ kn) rfl d0 (Nat.le_refl _) (Nat.le_refl _) (fun cC kC f1 f2 f3 f4 => ?_)
  refine lv_dup (pc := pc + 3) (ls := ls) (va := .ref H.size) (rest := st) hx hb d3 rfl ?_
  refine va_ldcS (pc := pc + 3 + 1) (ls := ls) (rest := .ref H.size :: .ref H.size :: st) hx hb ho (hE.2.1 i _ hq) d4 ?_
  intro T hT Z
  have hE10 := hE.2.2.2.2.2.2.2.2.2.1
  have hE11 := hE.2.2.2.2.2.2.2.2.2.2
  have htr : e.platform.stackTraces = false := by rw [Z.admits.platform]; exact hst
  obtain ⟨vm', ce, e1, e2, Z', stp⟩ := tw_made (a := H.size) (g := F0 m (pc + 3 + 1 + 2) ls (.ref (G.2.2.2.1 i) :: .ref H.size :: .ref H.size :: st)) (rest := .ref H.size :: st) Z hx htr kr ho kf
    (kw hts (fun w hw => va_Nw.use (mt_faceF hw).1 (hE.2.2.2.2.2.2.2.1 w hw)) (th_.lays hE10) (th_.lays hE11) (th_.isRef hE10) (th_.isRef hE11) hl)
    (fun c9 k9 i9 f9 q9 g1 g2 x hx9 hb9 => by
      obtain ⟨c8, k8, i8, f8, a8, cell8, v8, z0, z1, z2, z3, z4, z5, z6, z7, z8, z9, z10, z11⟩ := hE10
      have e9 := g1.symm.trans z1
      have e8 : k9 = k8 := by
        have := Option.some.inj e9
        exact (Prod.mk.inj (Prod.mk.inj this).2).1
      rw [e8, z3] at g2
      have e7 : a8 = q9 := Option.some.inj g2
      exact z11 (by rw [e7, ← hb9]; exact hS.2.2 x hx9))
    f1 f2 (by rw [hT]; simp) hS.1 (msg := .ref (G.2.2.2.1 i)) rfl rfl ((hL.1.trans hlo).trans hml.symm) rfl (by rw [hb]; exact d6) (by show 5 < d; omega)
    (by
      have q : (((Value.ref H.size :: st).map fun v => v.category).sum) = 1 + (st.map fun v => v.category).sum := by simp [Value.category]
      show 2 * 0 + ((Value.ref H.size :: st).map fun v => v.category).sum + 81 ≤ 64 * d
      omega)
  obtain ⟨w1, w2, w3, w4, w5⟩ := Z'.athrowLeaves hx (g := F0 m (pc + 3 + 1 + 2 + 3) ls (.ref H.size :: st)) rfl rfl rfl (fun x hx9 => by
      rw [Array.isEmpty_iff.mp het] at hx9; cases hx9) (a := H.size) (rest := st) rfl (by rw [hb]; exact d9) hlk
  have hU : (((T.setVm vm').setCell H.size ce).setFrames (.throwing H.size :: below)).heap = (H.push { cls := cC, slots := kC.instanceTypes.map defaultValue, vm := .none }).setIfInBounds H.size ce := by
    show T.heap.setIfInBounds H.size ce = _
    rw [hT]
  refine ⟨_, stp _ w1, .threw H.size, w2, w3, ⟨⟨H.size, ce, mem, rfl, by rw [hU]; simp, e2, ?_, hp, by rw [hU]; exact hP.past⟩, (va_S.past hS).F hU⟩, locs, ⟨⟨_, rfl⟩, w4, w5⟩, hS.2.2⟩
  rw [w4.alike.findClass, e1]; exact f1
/-- room, in a method that throws -/
theorem ro_oX (he : OX G X d C P) {d1 nL1 : Nat} (hd : d1 < d) (hL : nL1 ≤ 45) : ro_ X d1 nL1 0 0 := by
  obtain ⟨p, l, e, R, s, m, args, below, meth, c, A, Q⟩ := X
  obtain ⟨-, -, rfl, -, -⟩ := he
  exact ⟨hd, by show 8 + (nL1 + 11) + 64 * d1 ≤ 64 * d; omega, Nat.zero_le _, Nat.zero_le _⟩
end JJThr
section TRun
variable {p : Program} {l : Launch} {e : Env} {R : Room} {s : State} {m : MethodId} {args : Array Value} {below : List Frame} {meth : Method} {c : Code} {H : Heap} {locs : List Loc} {cells slots : Nat}
variable {y : MethodName} {bytes cc : ByteArray} {maxL nL mc ms n index : Nat} {ret : Option FieldType} {ws : List Cond} {rm : Room} {Pc : Array Value → State → Prop} {Qc : Array Value → State → Outcome → State → Prop} {free : Addr → Prop} {Ts : List Cond} {own C : String} {b : Addr} {As rest : List Value} {g : JFrame}
/-- a callee that throws, from its invocation on -/
theorem tk_run {U : State} (X : Stand p l e R s m args below meth c U locs cells slots) (hM : MetT l y ws rm Pc Qc mc ms free) (hbl : FrameBlind Pc) (cb : CallB R s args own index y bytes maxL ret ws rm mc ms n) (hg : g.method = m) (hsize : g.locals.size = c.maxLocals) {ig : Instr} (hdg : decode c.code g.pc = .ok (ig, 3)) (hW : 2 * g.monitorRoom + (g.stack.map fun v => v.category).sum ≤ 8) {mk : MethodId} (hn : U.methodNamed? y = some mk) {a : Array Value} (hc1 : cells + mc ≤ R.cells) (hc2 : slots + ms ≤ R.slots) (hP : Pc a U) :
    ∃ (v : Addr) (t T' : State) (L : List Loc), Stand p l e R s m args below meth c T' (locs ++ L) (cells + mc) (slots + ms) ∧ (∀ q ∈ L, free q.base) ∧ T'.heap = t.heap ∧ T'.vm = t.vm ∧ Qc a (U.calling g mk a) (.threw v) t ∧ Steps p.tables e below (doInvoke e (U.setTop g) [] mk a).1 ((T'.setTop g).pushFrame (.throwing v)) := by
  obtain ⟨hrc, hrs, hfr, hlo, hws, hcw, -, hini, -⟩ := cb
  obtain ⟨methY, cY, hmY, hcY, -, hlY, -, -, -, -⟩ := Cond.code_spec hn (hws _ hcw a U X.warmed)
  obtain ⟨kY, hkY, -⟩ := className_of_methodNamed hn
  have hinit : kY.init = .initialized := Cond.initialized_spec (args := a) (findClass_of_methodNamed hn) hkY (word_at X.warmed (Or.inl rfl) hini)
  have h : At U g.method c below := by rw [hg]; exact X.here
  have happ : (headSpec ws rm).appliesLoose y e.platform (U.calling g mk a) = true :=
    Spec.appliesLoose_calling (g := g) h hdg hn hkY hinit (X.room_calling (g := g) (R' := rm) hsize hmY hcY hfr (by rw [hlY]; omega) (by rw [hrc]; exact hc1) (by rw [hrs]; exact hc2)) (atoms_intro fun w hw => hws w hw _ _ X.warmed)
  obtain ⟨mid, hmid⟩ := h.above
  have hfr2 : (U.setTop g).frames = (.java g :: mid) ++ below := by rw [State.frames_setTop' g h.top, hmid]; rfl
  obtain ⟨oc, z, hsteps, -, hend, hq⟩ := Steps.callFree hM p X.admits X.cas X.clock (acts := []) hfr2 happ (hbl _ _ _ _ hP) trivial
  have hq2 : Qc a (U.calling g mk a) oc z ∧ ∃ L, FT_ (U.calling g mk a) oc z L mc ms ∧ ∀ q ∈ L, free q.base := hq
  obtain ⟨hqc, L, ⟨⟨v, rfl⟩, hW2, e2, q2, q3, q4, q5, q6⟩, hL⟩ := hq2
  rw [State.frames_setTop' g h.top] at hend
  have hf2 : z.frames = .throwing v :: .java g :: U.frames.tail := hend
  have hWU : U.WarmedH z.vm := hW2
  have e3 : z = ({ (U.calling g mk a).setFrames z.frames with heap := z.heap, slotsUsed := z.slotsUsed } : State).setVm z.vm := by
    have t9 : z = ({ z with vm := (U.calling g mk a).vm } : State).setVm z.vm := rfl
    rw [e2] at t9
    exact t9
  obtain ⟨g0, hg0⟩ := Option.isSome_iff_exists.mp h.top
  obtain ⟨r, hr⟩ := State.topJava?_eq_some.mp hg0
  have hz : z = ((({ U with heap := z.heap, slotsUsed := z.slotsUsed } : State).setVm z.vm).setTop g).pushFrame (.throwing v) := by
    have hr9 : (({ U with heap := z.heap, slotsUsed := z.slotsUsed } : State).setVm z.vm).frames = .java g0 :: r := hr
    refine e3.trans ?_
    rw [hf2, State.calling_eq h.top, State.setFrames_setFrames, State.pushFrame, State.frames_setTop _ hr9, State.setTop_of_frames _ hr9, State.setFrames_setFrames, hr]
    rfl
  have hsame : U.sameButNew ({ U with heap := z.heap, slotsUsed := z.slotsUsed } : State) L mc ms := by
    refine ⟨?_, q2, q3, q4, q5, q6⟩
    obtain ⟨t8, ht8, -⟩ := State.frames_cons hr
    show ({ U with heap := z.heap, slotsUsed := z.slotsUsed } : State) = { U.setFrames U.frames with heap := z.heap, slotsUsed := z.slotsUsed }
    rw [State.setFrames_self ht8]
  subst hg
  refine ⟨v, z, ({ U with heap := z.heap, slotsUsed := z.slotsUsed } : State).setVm z.vm, L,
    ⟨X.admits, X.cas, X.clock, X.frames, X.room, X.hears, X.method, X.code, (X.here.setHeapUsed z.heap z.slotsUsed).setVm hWU.alike, X.tail, State.WarmedH.trans X.warmed hWU, X.limits, X.bytes, X.same.trans (hsame.setVm s.vm)⟩, hL, rfl, rfl, hqc, ?_⟩
  rw [← hz]
  exact hsteps
/-- a call, and what was thrown lies over the frame -/
def va_RunT (p : Program) (l : Launch) (e : Env) (R : Room) (s : State) (m : MethodId) (args : Array Value) (below : List Frame) (meth : Method) (c : Code) (H : Heap) (locs : List Loc) (cells slots mc ms : Nat) (g : JFrame) (rest : List Value) (Qa : State → Outcome → State → Prop) (free : Addr → Prop) : Prop :=
  ∀ T : State, T.heap = H → Stand p l e R s m args below meth c T locs cells slots → ∃ (v : Addr) (st₀ t T' : State) (L : List Loc), st₀.heap = H ∧ Stand p l e R s m args below meth c T' (locs ++ L) (cells + mc) (slots + ms) ∧ (∀ q ∈ L, free q.base) ∧ T'.heap = t.heap ∧ T'.vm = t.vm ∧ Qa st₀ (.threw v) t ∧
    Steps p.tables e below (T.setTop g) ((T'.setTop { g with stack := rest }).pushFrame (.throwing v))
theorem rt_V (S : CallFix p m c cc nL s args Ts own) (hM : MetT l y ws rm Pc Qc mc ms free) (cw : CallW R s args own C index y bytes maxL ret ws rm mc ms n) (hp : PreV s H C b Pc As)
    (hg : g.method = m) (hn : As.length = n) (hsize : g.locals.size = nL) (hstack : g.stack = As.reverse ++ .ref b :: rest) (hW : 2 * g.monitorRoom + (rest.map fun v => v.category).sum ≤ 8) (hdg : decode cc g.pc = .ok (.invokevirtual index, 3)) (hf : cells + mc ≤ R.cells ∧ slots + ms ≤ R.slots) :
    va_RunT p l e R s m args below meth c H locs cells slots mc ms g rest (Qc (Value.ref b :: As).toArray) free := by
  have cb := cw.1
  obtain ⟨⟨-, -, -, -, -, -, hcode, -, hy, hlen, hl⟩, hin, hse⟩ := cw
  obtain ⟨hx, hb, hml, ho, -⟩ := S
  obtain ⟨hbl, ⟨cellB, hcB, hoB, hclB⟩, hPc⟩ := hp
  intro T hT X
  obtain ⟨mk, methM, hnm, hmM, hstM, habM⟩ := Cond.instanceMethod_spec hin
  obtain ⟨methM', cM, hmM', -, -, -, -, -, -, hsig⟩ := Cond.code_spec hnm hcode
  cases hmM.symm.trans hmM'
  obtain ⟨c2, r2, m2, q1, q2, q3, q4, kP, hkP, hkPi⟩ := Cond.selects_spec hse
  cases hclB.symm.trans q1
  cases (State.methodFound?_of_named hnm hy).symm.trans q2
  cases hnm.symm.trans q3
  obtain ⟨vm₁, X₁, s1⟩ := X.invokevirtual hx ho hl hnm hmM hstM hkP hkPi hy (a := b) (cell := cellB) (by rw [hT]; exact hcB) (fun z h => by rw [h] at hoB; cases hoB)
    (by rw [Launch.admits_selectMethod X.admits]; exact q4) hmM habM hkP hkPi (g := g) hg (argsL := As) (rest := rest) (hn.trans (hlen _ hsig)) hstack (by rw [hb]; exact hdg)
  obtain ⟨v, t, T', L, X', hL, e1, e2, hq, s3⟩ := tk_run (g := { g with stack := rest }) (a := (Value.ref b :: As).toArray) X₁ hM hbl cb hg (hsize.trans hml.symm) (by rw [hb]; exact hdg) hW (X₁.named hnm) hf.1 hf.2 (hPc (T.setVm vm₁) hT X₁.warmed)
  exact ⟨v, (T.setVm vm₁).calling { g with stack := rest } mk (Value.ref b :: As).toArray, t, T', L, hT, X', hL, e1, e2, hq, s1 _ fun acts => by rw [doInvoke_state]; exact s3⟩
theorem rt_S (S : CallFix p m c cc nL s args Ts own) (hM : MetT l y ws rm Pc Qc mc ms free) (cw : CallB R s args own index y bytes maxL ret ws rm mc ms n ∧ (Cond.static y).before args s = true) (hp : PreS s H Pc As)
    (hg : g.method = m) (hn : As.length = n) (hsize : g.locals.size = nL) (hstack : g.stack = As.reverse ++ rest) (hW : 2 * g.monitorRoom + (rest.map fun v => v.category).sum ≤ 8) (hdg : decode cc g.pc = .ok (.invokestatic index, 3)) (hf : cells + mc ≤ R.cells ∧ slots + ms ≤ R.slots) :
    va_RunT p l e R s m args below meth c H locs cells slots mc ms g rest (Qc As.toArray) free := by
  have cb := cw.1
  obtain ⟨⟨-, -, -, -, -, -, hcode, hini, hy, hlen, hl⟩, hstt⟩ := cw
  obtain ⟨hx, hb, hml, ho, -⟩ := S
  intro T hT X
  obtain ⟨mk, hnm⟩ := Cond.code_named hcode
  obtain ⟨methM, cM, hmM, -, -, -, -, -, -, hsig⟩ := Cond.code_spec hnm hcode
  have hstat : methM.isStatic = true := Cond.static_spec hnm hmM hstt
  obtain ⟨kP, hkP, -⟩ := className_of_methodNamed hnm
  have hinitP : kP.init = .initialized := Cond.initialized_spec (findClass_of_methodNamed hnm) hkP hini
  obtain ⟨vm₁, X₁, s1⟩ := X.invokestatic hx ho hl hnm hmM hstat hkP hinitP hy (g := g) hg (argsL := As) (rest := rest) (hn.trans (hlen _ hsig)) hstack (by rw [hb]; exact hdg)
  obtain ⟨v, t, T', L, X', hL, e1, e2, hq, s3⟩ := tk_run (g := { g with stack := rest }) (a := As.toArray) X₁ hM hp.1 cb hg (hsize.trans hml.symm) (by rw [hb]; exact hdg) hW (X₁.named hnm) hf.1 hf.2 (hp.2 (T.setVm vm₁) hT X₁.warmed)
  exact ⟨v, (T.setVm vm₁).calling { g with stack := rest } mk As.toArray, t, T', L, hT, X', hL, e1, e2, hq, s1 _ fun acts => by rw [doInvoke_state]; exact s3⟩
end TRun
section JJPass
variable {G : mt_G} {X : mt_X} {cc : ByteArray} {own : String} {nL d d1 nL1 np idx : Nat} {mem : mt_M} {pc : Nat} {lo : List (Option Value)} {st vs : List Value} {C : String} {P P1 : mt_M → Prop} {y : MethodName} {c1 : ByteArray} {ret : Option FieldType}
/-- what a callee threw goes on out of the method -/
theorem jj_out {p : Program} {l : Launch} {e : Env} {R : Room} {s : State} {m : MethodId} {args : Array Value} {below : List Frame} {meth : Method} {c : Code} {A : Nat → Prop} {a : Array Value} {st0 : List Value} {H : Heap} {locs : List Loc} {ls : Array Slot} {T : State}
    (hA : ∀ r, r < mt_N → A (G.1 r)) (hN : ∀ q : Nat, s.heap.size ≤ q → A q) (hS : va_S A s.heap H locs) (hT : T.heap = H) (Z : Stand p l e R s m args below meth c T locs 0 0) (hlk : meth.locks = false) (het : c.exceptionTable.isEmpty = true)
    (run : va_RunT p l e R s m args below meth c H locs 0 0 1 6 (F0 m pc ls st0) st (Qt_ G C P1 (As_ G H.size) a) (As_ G H.size)) (hp : ∀ mem', P1 mem' → P mem') :
    ∃ t, Steps p.tables e below (T.setTop (F0 m pc ls st0)) t ∧ MQT below (Qt_ G C P A) args s 1 6 A t := by
  have hin := As_in hA hN hS
  obtain ⟨v, st₀, t, T', L, h0, X', hL', e1, e2, ⟨⟨q, ce, mem', hv, g1, g2, g3, g4, hb⟩, hz, hk⟩, stp⟩ := run T hT Z
  cases hv
  rw [h0] at hz hk
  obtain ⟨w1, w2, w3, w4, w5⟩ := X'.leaveThrown v (g := F0 m pc ls st) rfl rfl rfl (fun x hx9 => by
      rw [Array.isEmpty_iff.mp het] at hx9; cases hx9) hlk
  have hU : (T'.setFrames (.throwing v :: below)).heap = t.heap := e1
  have hV : (T'.setFrames (.throwing v :: below)).vm = t.vm := e2
  refine ⟨_, stp.trans w1, .threw v, w2, w3, ⟨⟨v, ce, mem', rfl, by rw [hU]; exact g1, g2, by rw [hV]; exact g3, hp mem' g4, by rw [hU]; exact hb⟩, ?_, ?_⟩, locs ++ L, ⟨⟨_, rfl⟩, w4, w5⟩, ?_⟩
  · rw [hU]; exact Nat.le_trans hS.1 hz
  · intro q h1 h2
    rw [hU, hk q (Nat.lt_of_lt_of_le h1 hS.1) (fun z => h2 (hin q z))]
    exact hS.2.1 q h1 h2
  · intro q hq
    rcases List.mem_append.mp hq with h | h
    · exact hS.2.2 q h
    · exact hin _ (hL' q h)
theorem jj_passV (h : OK G X cc own nL) (he : OX G X d C P) {r ci N : Nat} {fs : List Value} {T : u_T} {st0 : List Value} (Cn : TX G X.2.1 y c1 nL1 ret d1 (vr G r :: vs) mem C P1) (hw : cV_ own idx y c1 nL1 ret np) (hd : d1 < d) (hL1 : nL1 ≤ 45) (hl : lo.length = nL) (hn : vs.length = np) (hr : r < mt_N) (hc : ce_ G (mem r) r = .inr (ci, fs)) (hcl : vwCl[ci]? = some (y.cls, T, N)) (hst : st0 = vs.reverse ++ vr G r :: st) (hcat : (st.map fun v => v.category).sum ≤ 8) (dd : decode cc pc = .ok (.invokevirtual idx, 3))
    (hp : ∀ mem', P1 mem' → P mem') : JJ G X 0 0 mem pc lo st0 := by
  obtain ⟨p, l, e, R, s, m, args, below, meth, c, A, Q⟩ := X
  subst hst
  obtain ⟨hx, hb, hml, ho, hts, hK, hi, hA, hN, hE⟩ := h
  obtain ⟨rfl, hlk, rfl, het, hst⟩ := he
  intro H locs ls hP hS hL T hT Z
  exact jj_out hA hN hS hT Z hlk het (rt_V (nL := nL) (Ts := mt_T) (own := own) (C := y.cls) (b := G.1 r) (As := vs) (n := np) ⟨hx, hb, hml, ho, hts⟩ (Cn H.size) (cwV np hts (cV_good hw) rfl rfl rfl ⟨rfl, hw.2⟩ ⟨hd, by show 8 + (nL1 + 11) + 64 * d1 ≤ 64 * d; omega⟩)
    ⟨Pw_blind, va_recv hK hP hcl (by rw [wd_get hr, hc]), fun U hU hW => ⟨rfl, Pw_call hP hK hi hA hN hE hS hU hW⟩⟩ rfl hn (hL.1.trans hl) rfl (lv_room hcat) dd ⟨Nat.le_refl _, Nat.le_refl _⟩) hp
theorem jj_passS (h : OK G X cc own nL) (he : OX G X d C P) {st0 : List Value} (Cn : TX G X.2.1 y c1 nL1 ret d1 vs mem C P1) (hw : cS_ own idx y c1 nL1 ret np) (hd : d1 < d) (hL1 : nL1 ≤ 45) (hl : lo.length = nL) (hn : vs.length = np) (hst : st0 = vs.reverse ++ st) (hcat : (st.map fun v => v.category).sum ≤ 8) (dd : decode cc pc = .ok (.invokestatic idx, 3))
    (hp : ∀ mem', P1 mem' → P mem') : JJ G X 0 0 mem pc lo st0 := by
  obtain ⟨p, l, e, R, s, m, args, below, meth, c, A, Q⟩ := X
  subst hst
  obtain ⟨hx, hb, hml, ho, hts, hK, hi, hA, hN, hE⟩ := h
  obtain ⟨rfl, hlk, rfl, het, hst⟩ := he
  intro H locs ls hP hS hL T hT Z
  exact jj_out hA hN hS hT Z hlk het (rt_S (nL := nL) (Ts := mt_T) (own := own) (As := vs) (n := np) ⟨hx, hb, hml, ho, hts⟩ (Cn H.size) (cwS np hts (cS_good hw) rfl rfl rfl ⟨hw.2.1, hw.2.2⟩ ⟨hd, by show 8 + (nL1 + 11) + 64 * d1 ≤ 64 * d; omega⟩)
    ⟨Pw_blind, fun U hU hW => ⟨rfl, Pw_call hP hK hi hA hN hE hS hU hW⟩⟩ rfl hn (hL.1.trans hl) rfl (lv_room hcat) dd ⟨Nat.le_refl _, Nat.le_refl _⟩) hp
end JJPass
