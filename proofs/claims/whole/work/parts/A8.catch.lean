/-! The law's helpers: contracts with handlers; rows that catch. -/
def CW (G : mt_G) (l : Launch) (y : MethodName) (cc : ByteArray) (nL : Nat) (hh : List (Nat × Nat × Nat × Nat)) (d : Nat) (vs : List Value) (mem : mt_M) (P : Option Value → mt_M → Prop) : Prop :=
  ∀ sz : Nat, Met l y (Cond.codeWith y cc nL (some .int) hh :: mt_T) (rmt d) (va_Pc vs (Pw_ G mem sz)) (Qc_ G P (As_ G sz)) 1 6 (As_ G sz)
def OW (G : mt_G) (X : mt_X) (hh : List (Nat × Nat × Nat × Nat)) (d : Nat) (P : Option Value → mt_M → Prop) : Prop := match X with
  | (_, _, _, R, s, _, args, below, meth, c, A, Q) => Q = MQ below (Qc_ G P A) args s 1 6 A ∧ meth.sig.returnType = some .int ∧ meth.locks = false ∧ R = rmt d ∧ c.exceptionTable.toList.map (fun h => (h.startPc, h.endPc, h.handlerPc, h.catchType)) = hh
theorem CW.intro {G : mt_G} {l : Launch} {y : MethodName} {cc : ByteArray} {nL : Nat} {hh : List (Nat × Nat × Nat × Nat)} {d : Nat} {vs : List Value} {mem : mt_M} {P : Option Value → mt_M → Prop} {own : String} (hpl : plainName y.cls = true) (hown : y.cls = own) (hlen : (lg_sl vs).length ≤ nL)
    (body : ∀ X : mt_X, X.2.1 = l → OK G X cc own nL → OW G X hh d P → JJ G X 0 0 mem 0 (lo0 vs nL) []) : CW G l y cc nL hh d vs mem P := by
  intro sz
  refine va_MetW (cc := cc) (maxL := nL) (ret := some .int) (hh := hh) hpl rfl ?_
  intro p e s m args below meth c s₁ B hml hv
  obtain ⟨rfl, hsz, hP, hK, hi, hE⟩ := hv
  have hts := atoms_spec (ws := Cond.codeWith y cc nL (some .int) hh :: mt_T) B.pre
  have hown9 : s.vm.findClass y.cls = some m.cls := findClass_of_methodNamed B.named
  rw [hown] at hown9
  subst hsz
  rw [lg_entry_eq]
  obtain ⟨m9, meth9, c9, n1, n2, n3, -, -, n4, -, -, -⟩ := Cond.codeWith_spec (hts _ List.mem_cons_self)
  cases Option.some.inj (B.named.symm.trans n1)
  cases Option.some.inj (B.method.symm.trans n2)
  cases Option.some.inj ((Stand.of_body B).code.symm.trans n3)
  have hb := body (p, l, e, rmt d, s, m, vs.toArray, below, meth, c, As_ G s.heap.size, MQ below (Qc_ G P (As_ G s.heap.size)) vs.toArray s 1 6 (As_ G s.heap.size)) rfl
    ⟨B.exec, B.bytes, hml, hown9, fun w hw => hts w (List.mem_cons_of_mem _ hw), hK, hi, fun r hr => Or.inl ⟨r, hr, rfl⟩, fun q hq => Or.inr hq, hE⟩ ⟨rfl, B.returns, B.notSynchronized, rfl, n4⟩
  exact hb s.heap [] _ hP va_S.rf (lo0_ok vs hlen)
/-- a search for a handler that ends, tables warmer -/
def fz_ (e : Env) (s : State) (f : JFrame) (a : Addr) (h : Handler) (vm' : Vm) : Prop := ∀ (Q : Handler → Pre) (E : CtlPost) (d : Bool) (acts : List Action), wp (findHandler f a) Q E e d acts s ↔ Q h d acts (s.setVm vm')
theorem fz_go {e : Env} {s : State} {f : JFrame} {a : Addr} {x : ExceptionTableEntry} {t : List ExceptionTableEntry} {c : ClassId} {cell : Cell} {Q : Handler → Pre} {E : CtlPost} {d : Bool} {acts : List Action} (hx : covers x f.pc = true) (h0 : x.catchType ≠ 0) (hl : s.vm.ClassLinks e.platform f.method.cls x.catchType c) (hcell : s.heap[a]? = some cell) (hobj : ∀ k, cell.vm ≠ .statics k) (hk : ∃ k, s.vm.classes[cell.cls]? = some k) (hc : ∃ k, s.vm.classes[c]? = some k) :
    wp (findHandler.go f a (x :: t)) Q E e d acts s ↔ if s.vm.assignable cell.cls c = true then Q (.found x.handlerPc) d acts (s.setVm (s.vm.noted f.method.cls x.catchType (.cls c))) else wp (findHandler.go f a t) Q E e d acts (s.setVm (s.vm.noted f.method.cls x.catchType (.cls c))) := by
  simp only [covers] at hx
  obtain ⟨h1, h2⟩ := (resolveClass_links e.toSetting hl).op (op := VmOp.resolveClass f.method.cls x.catchType) rfl
  have hal : s.vm.Alike (s.vm.noted f.method.cls x.catchType (.cls c)) := (Vm.Alike.refl s.vm).noted _ _ _
  obtain ⟨k1, hk1⟩ := hk
  obtain ⟨k2, hk2⟩ := hc
  obtain ⟨k3, hk3, -⟩ := hal.2.2 _ _ hk1
  obtain ⟨k4, hk4, -⟩ := hal.2.2 _ _ hk2
  have hfa : (s.vm.noted f.method.cls x.catchType (.cls c)).assignable cell.cls c = s.vm.assignable cell.cls c := hal.assignable _ _
  cases hfit : s.vm.assignable cell.cls c with
  | true =>
    rw [hfit] at hfa
    simp [findHandler.go, hx, h0, h1, h2, hcell, hobj, hk3, hk4, hfa, VmOp.dirties, VmOp.acts]
  | false =>
    rw [hfit] at hfa
    simp [findHandler.go, hx, h0, h1, h2, hcell, hobj, hk3, hk4, hfa, VmOp.dirties, VmOp.acts]
theorem fz_list {e : Env} {s0 : State} {f : JFrame} {a : Addr} {cell : Cell} (hobj : ∀ k, cell.vm ≠ .statics k) (hk0 : ∃ k, s0.vm.classes[cell.cls]? = some k) (x : ExceptionTableEntry) (rest : List ExceptionTableEntry) (hx : covers x f.pc = true) (h0 : x.catchType ≠ 0) {cx : ClassId} (hlx : s0.vm.ClassLinks e.platform f.method.cls x.catchType cx) (hyes : s0.vm.assignable cell.cls cx = true) :
    ∀ (pre : List ExceptionTableEntry) (S : State), s0.WarmedH S.vm → S.heap[a]? = some cell → (∀ y ∈ pre, y.catchType ≠ 0 ∧ ∃ c, s0.vm.ClassLinks e.platform f.method.cls y.catchType c ∧ s0.vm.assignable cell.cls c = false) → ∃ vm', s0.WarmedH vm' ∧ ∀ (Q : Handler → Pre) (E : CtlPost) (d : Bool) (acts : List Action), wp (findHandler.go f a (pre ++ x :: rest)) Q E e d acts S ↔ Q (.found x.handlerPc) d acts (S.setVm vm')
  | [], S, hW, hcell, _ => by
    obtain ⟨k0, hk0⟩ := hk0
    obtain ⟨k1, hk1, -⟩ := hW.alike.2.2 _ _ hk0
    obtain ⟨dk, _, _, kt, hd, _, _, _, _, hkt, _, hopen⟩ := hlx.here
    obtain ⟨k2, hk2, -⟩ := hW.alike.2.2 _ _ hkt
    refine ⟨_, hW.noted hd hopen (State.rightAt_cls hlx), fun Q E d acts => ?_⟩
    rw [List.nil_append, fz_go hx h0 (hW.classLinks hlx) hcell hobj ⟨k1, hk1⟩ ⟨k2, hk2⟩, if_pos (by rw [hW.alike.assignable]; exact hyes)]
  | y :: ys, S, hW, hcell, hp => by
    have hk0c := hk0
    obtain ⟨k0, hk0⟩ := hk0
    obtain ⟨k1, hk1, -⟩ := hW.alike.2.2 _ _ hk0
    obtain ⟨y0, c, hl, hno⟩ := hp y List.mem_cons_self
    have hr : ∀ z ∈ ys, z.catchType ≠ 0 ∧ ∃ c, s0.vm.ClassLinks e.platform f.method.cls z.catchType c ∧ s0.vm.assignable cell.cls c = false := fun z hz => hp z (List.mem_cons_of_mem _ hz)
    by_cases hcov : covers y f.pc = true
    · obtain ⟨dk, _, _, kt, hd, _, _, _, _, hkt, _, hopen⟩ := hl.here
      obtain ⟨k2, hk2, -⟩ := hW.alike.2.2 _ _ hkt
      obtain ⟨vm', h1, h2⟩ := fz_list hobj hk0c x rest hx h0 hlx hyes ys (S.setVm (S.vm.noted f.method.cls y.catchType (.cls c))) (hW.noted hd hopen (State.rightAt_cls hl)) hcell hr
      refine ⟨vm', h1, fun Q E d acts => ?_⟩
      rw [List.cons_append, fz_go hcov y0 (hW.classLinks hl) hcell hobj ⟨k1, hk1⟩ ⟨k2, hk2⟩, if_neg (by rw [hW.alike.assignable, hno]; decide)]
      exact h2 Q E d acts
    · obtain ⟨vm', h1, h2⟩ := fz_list hobj hk0c x rest hx h0 hlx hyes ys S hW hcell hr
      refine ⟨vm', h1, fun Q E d acts => ?_⟩
      rw [List.cons_append, W.findHandler_go_skip (by simpa using hcov)]
      exact h2 Q E d acts
theorem fz_step {e : Env} {s : State} {a : Addr} {f : JFrame} {r : List Frame} {pc : Nat} {vm' : Vm} (h : fz_ e s f a (.found pc) vm') : (stepThrowing e s a (.java f :: r)).Is ((s.setVm vm').setFrames (.java { f with pc := pc, stack := [.ref a] } :: r)) [] := by
  simp only [stepThrowing, searchFrame, vmDo]
  generalize hr : Sem.go _ e false [] s = res
  obtain ⟨as, rfl, ha⟩ := Sem.eq_ok_of hr (a := Handler.found pc) (s' := s.setVm vm') (acts' := []) (by simp [h _ _ _ _])
  exact ⟨rfl, ha⟩
theorem fz_caught {tb : Tables} {e : Env} {s target : State} {g : JFrame} {c : Code} {below : List Frame} {a : Addr} (h : At s g.method c below) {pc : Nat} {vm' : Vm} (hfind : fz_ e ((s.setTop g).pushFrame (.throwing a)) g a (.found pc) vm') (hrest : Steps tb e below ((s.setVm vm').setTop { g with pc := pc, stack := [.ref a] }) target) : Steps tb e below ((s.setTop g).pushFrame (.throwing a)) target := by
  obtain ⟨hgo, hw⟩ := h.throwing a
  refine Steps.head hgo hw ?_
  rw [stepThread_throwing (frames_entered h.top _), (fz_step (s := (s.setTop g).pushFrame (.throwing a)) hfind).1]
  obtain ⟨g0, hg⟩ := Option.isSome_iff_exists.mp h.top
  obtain ⟨r, hr⟩ := State.topJava?_eq_some.mp hg
  have hr2 : (s.setVm vm').frames = .java g0 :: r := hr
  have e9 : (((s.setTop g).pushFrame (.throwing a)).setVm vm') = (((s.setVm vm').setTop g).pushFrame (.throwing a)) := by
    rw [State.setTop_of_frames _ hr2, State.setTop_of_frames _ hr]; rfl
  rw [e9, State.pushFrame, State.setFrames_setFrames, State.setTop_of_frames _ hr2, State.setFrames_setFrames]
  rw [State.setTop_of_frames _ hr2] at hrest
  rw [hr]
  exact hrest
section JJCatch
variable {G : mt_G} {X : mt_X} {cc : ByteArray} {own : String} {nL d k n : Nat} {mem : mt_M} {pc : Nat} {lo : List (Option Value)} {st vs : List Value} {P : Option Value → mt_M → Prop} {hh : List (Nat × Nat × Nat × Nat)}
theorem ro_oW (he : OW G X hh d P) {d1 nL1 : Nat} (hd : d1 < d) (hL : nL1 ≤ 45) : ro_ X d1 nL1 0 0 := by
  obtain ⟨p, l, e, R, s, m, args, below, meth, c, A, Q⟩ := X
  obtain ⟨-, -, -, rfl, -⟩ := he
  exact ⟨hd, by show 8 + (nL1 + 11) + 64 * d1 ≤ 64 * d; omega, Nat.zero_le _, Nat.zero_le _⟩
theorem jj_iretW (h : OK G X cc own nL) (he : OW G X hh d P) (hk : k ≤ 1) (hn : n ≤ 6) {z : Int} (hd : decode cc pc = .ok (.ireturn, 1)) (hp : P (some (vi z)) mem) : JJ G X k n mem pc lo [vi z] := by
  obtain ⟨p, l, e, R, s, m, args, below, meth, c, A, Q⟩ := X
  intro H locs ls hP hS hL
  obtain ⟨rfl, hr, hlk, hR, -⟩ := he
  intro T hT Z
  obtain ⟨t, a1, o, b1, b2, b3, L, b4, b5⟩ := (W.iret (Qc := Qc_ G P A) (free := A) (cells := k) (slots := n) h.1 h.2.1 hr (fun t ht9 _ => ⟨⟨some (vi z), mem, rfl, hp, by rw [ht9]; exact hP⟩, hS.F ht9⟩) hS.2.2 hd hlk) T hT Z
  exact ⟨t, a1, o, b1, b2, b3, L, ⟨b4.1, b4.2.1, b4.2.2.mono hk hn⟩, b5⟩
/-- the long of the out row -/
theorem jj_lastore (h : OK G X cc own nL) {x : Int} (d : decode cc pc = .ok (.lastore, 1)) (kk : JJ G X k n (st_ mem 194 0 x) (pc + 1) lo st) : JJ G X k n mem pc lo (vl x :: vi 0 :: vr G 194 :: st) := by
  obtain ⟨p, l, e, R, s, m, args, below, meth, c, A, Q⟩ := X
  intro H locs ls hP hS hL
  have hD : va_D A (wd G mem) := wd_D h.2.2.2.2.2.2.1 h.2.2.2.2.2.2.2.1
  have hr : 194 < mt_N := by decide
  have hc : ∀ f : Int → Int, ce_ G f 194 = .inl (G.2.2.1 1, 1, .inr (.inl (fun j => Int64.ofInt (f (j : Int))))) := fun _ => rfl
  obtain ⟨q1, q2⟩ := vp_in_z (z := 0) (N := 1) (by decide) (by decide) (by decide)
  refine va_last h.1 h.2.1 h.2.2.2.2.2.1 hP hD hS 194 1 (by rw [wd_get hr, hc]) rfl q1 d (fun H1 locs1 hP1 _ hS1 => ?_)
  have e9 : (Sum.inl (G.2.2.1 1, 1, Sum.inr (Sum.inl (vp_updL (fun j => Int64.ofInt (mem 194 ((j : Nat) : Int))) (Int32.ofInt 0).toNatClampNeg (Int64.ofInt x)))) : va_E) = ce_ G (fun z' => if z' = 0 then x else mem 194 z') 194 := by
    rw [hc, q2]
    congr 5
    funext j
    unfold vp_updL
    by_cases e : j = (0 : Int).toNat
    · rw [if_pos e, if_pos (by rw [e]; rfl)]
    · rw [if_neg e, if_neg (by intro q; exact e (by omega))]
  rw [e9, wd_set hr] at hP1
  exact kk H1 locs1 ls hP1 hS1 hL
theorem jj_laload (h : OK G X cc own nL) (d : decode cc pc = .ok (.laload, 1)) (kk : JJ G X k n mem (pc + 1) lo (vl (mem 194 0) :: st)) : JJ G X k n mem pc lo (vi 0 :: vr G 194 :: st) := by
  obtain ⟨p, l, e, R, s, m, args, below, meth, c, A, Q⟩ := X
  intro H locs ls hP hS hL
  have hr : 194 < mt_N := by decide
  have hc : ∀ f : Int → Int, ce_ G f 194 = .inl (G.2.2.1 1, 1, .inr (.inl (fun j => Int64.ofInt (f (j : Int))))) := fun _ => rfl
  obtain ⟨q1, q2⟩ := vp_in_z (z := 0) (N := 1) (by decide) (by decide) (by decide)
  refine va_lald h.1 h.2.1 h.2.2.2.2.2.1 hP 194 1 (by rw [wd_get hr, hc]) rfl q1 d ?_
  have q := kk H locs ls hP hS hL
  show W p l e R s m args below meth c H locs k n Q (F0 m (pc + 1) ls (.long (Int64.ofInt (mem 194 (((Int32.ofInt 0).toNatClampNeg : Nat) : Int))) :: st))
  rw [q2]
  exact q
variable {y : MethodName} {c1 : ByteArray} {nL1 d1 np idx : Nat} {ret : Option FieldType} {C : String} {P1 : mt_M → Prop}
set_option maxHeartbeats 1000000 in
/-- a callee's throw, caught -/
theorem jj_catchV (h : OK G X cc own nL) (he : OW G X hh d P) {r ci N : Nat} {fs : List Value} {T : u_T} {st0 : List Value} (Cn : TX G X.2.1 y c1 nL1 ret d1 (vr G r :: vs) mem C P1) (hw : cV_ own idx y c1 nL1 ret np) (hd : d1 < d) (hL1 : nL1 ≤ 45) (hl : lo.length = nL) (hn : vs.length = np) (hr : r < mt_N) (hc : ce_ G (mem r) r = .inr (ci, fs)) (hcl : vwCl[ci]? = some (y.cls, T, N)) (hst : st0 = vs.reverse ++ vr G r :: st) (hcat : (st.map fun v => v.category).sum ≤ 8) (dd : decode cc pc = .ok (.invokevirtual idx, 3))
    (pre : List (Nat × Nat × Nat × Nat)) (x : Nat × Nat × Nat × Nat) (rest : List (Nat × Nat × Nat × Nat)) (hsp : hh = pre ++ x :: rest) (hpre : ∀ z ∈ pre, z.2.2.2 ≠ 0 ∧ ∃ nm : String, Cond.classLink own z.2.2.2 nm ∈ mt_T ∧ (C, nm) ∈ mt_ncp) (hx : x.1 ≤ pc ∧ pc < x.2.1) (hx0 : x.2.2.2 ≠ 0) (hlink : Cond.classLink own x.2.2.2 C ∈ mt_T) (hcast : Cond.castable C C ∈ mt_face)
    (kk : ∀ (q : Nat) (mem' : mt_M), P1 mem' → JJ G X 1 6 mem' x.2.2.1 lo [.ref q]) : JJ G X 0 0 mem pc lo st0 := by
  obtain ⟨p, l, e, R, s, m, args, below, meth, c, A, Q⟩ := X
  subst hst
  obtain ⟨hx9, hb, hml, ho, hts, hK, hi, hA, hN, hE⟩ := h
  obtain ⟨rfl, hr9, hlk, rfl, het⟩ := he
  intro H locs ls hP hS hL T9 hT Z
  have hin := As_in hA hN hS
  obtain ⟨v, st₀, t, T', L, h0, Z', hL', e1, e2, ⟨⟨q, ce, mem', hv, g1, g2, g3, g4, hb9⟩, hz, hk⟩, stp⟩ := (rt_V (p := p) (l := l) (e := e) (R := rmt d) (meth := meth) (below := below) (locs := locs) (cells := 0) (slots := 0) (H := H) (nL := nL) (Ts := mt_T) (own := own) (C := y.cls) (b := G.1 r) (As := vs) (n := np) ⟨hx9, hb, hml, ho, hts⟩ (Cn H.size) (cwV np hts (cV_good hw) rfl rfl rfl ⟨rfl, hw.2⟩ ⟨hd, by show 8 + (nL1 + 11) + 64 * d1 ≤ 64 * d; omega⟩)
    ⟨Pw_blind, va_recv hK hP hcl (by rw [wd_get hr, hc]), fun U hU hW => ⟨rfl, Pw_call hP hK hi hA hN hE hS hU hW⟩⟩ (g := F0 m pc ls (vs.reverse ++ vr G r :: st)) (rest := st) rfl hn (hL.1.trans hl) rfl (lv_room hcat) dd ⟨Nat.le_refl _, Nat.le_refl _⟩) T9 hT Z
  cases hv
  rw [h0] at hz hk
  have hcell : T'.heap[v]? = some ce := by rw [e1]; exact g1
  have hfc : s.vm.findClass C = some ce.cls := by
    rw [← Z'.warmed.alike.findClass, e2]; exact g3
  obtain ⟨c3, c4, k3, k4, hasg⟩ := Cond.castable_spec (args := args) (va_Nw.use (mt_faceF hcast).1 (hE.2.2.2.2.2.2.2.1 _ hcast))
  cases Option.some.inj (k3.symm.trans hfc)
  cases Option.some.inj (k4.symm.trans hfc)
  have hpl : e.platform.magicAccessors = ({} : Platform).magicAccessors := by rw [Z.admits.platform]
  rw [hsp] at het
  obtain ⟨pre', tl', hs1, hs2, hs3⟩ := List.map_eq_append_iff.mp het
  obtain ⟨x', rest', hs4, hs5, hs6⟩ := List.map_eq_cons_iff.mp hs3
  subst hs4
  subst hs5
  obtain ⟨cx, hcx, hlx⟩ := Cond.classLink_spec ho (hts _ hlink) e.platform hpl
  cases Option.some.inj (hcx.symm.trans hfc)
  have hk0 : ∃ k, s.vm.classes[ce.cls]? = some k := by
    obtain ⟨dk, _, _, kt, hd9, _, _, _, _, hkt, _, hopen⟩ := hlx.here
    exact ⟨kt, hkt⟩
  have hobj9 : ∀ k, ce.vm ≠ .statics k := fun k h => by rw [g2] at h; cases h
  obtain ⟨vm', hW9, hf9⟩ := fz_list (e := e) (s0 := s) (f := F0 m pc ls st) (a := v) hobj9 hk0 x' rest' (by
      show (decide (x'.startPc ≤ pc) && decide (pc < x'.endPc)) = true
      rw [Bool.and_eq_true]
      exact ⟨decide_eq_true hx.1, decide_eq_true hx.2⟩) hx0 hlx hasg pre' ((T'.setTop (F0 m pc ls st)).pushFrame (.throwing v)) Z'.warmed hcell (fun z hz9 => by
      obtain ⟨y0, nm, y1, y2⟩ := hpre (z.startPc, z.endPc, z.handlerPc, z.catchType) (by rw [← hs2]; exact List.mem_map.mpr ⟨z, hz9, rfl⟩)
      obtain ⟨c', hc', hcl9⟩ := Cond.classLink_spec ho (hts _ y1) e.platform hpl
      obtain ⟨ca, cb, u1, u2, u3⟩ := hE.2.2.2.2.2.2.2.2.1 _ y2
      cases Option.some.inj (u1.symm.trans hfc)
      cases Option.some.inj (u2.symm.trans hc')
      exact ⟨y0, _, hcl9, u3⟩)
  have hfind : fz_ e ((T'.setTop (F0 m pc ls st)).pushFrame (.throwing v)) (F0 m pc ls st) v (.found x'.handlerPc) vm' := fun Q E d acts => by
    have hm9 : ((T'.setTop (F0 m pc ls st)).pushFrame (.throwing v)).vm.method? (F0 m pc ls st).method = some meth := Z'.method'
    rw [W.findHandler_eq (f := F0 m pc ls st) hm9 Z'.code, hs1]
    exact hf9 Q E d acts
  have Z'' := Z'.noted hW9
  obtain ⟨t2, a1, b1⟩ := kk v mem' g4 T'.heap (locs ++ L) ls (by rw [e1]; exact hb9)
    ⟨Nat.le_trans hS.1 (by rw [e1]; exact hz), fun q h1 h2 => by rw [e1, hk q (Nat.lt_of_lt_of_le h1 hS.1) (fun z => h2 (hin q z))]; exact hS.2.1 q h1 h2, fun q hq => by
      rcases List.mem_append.mp hq with h | h
      · exact hS.2.2 q h
      · exact hin _ (hL' q h)⟩ hL (T'.setVm vm') rfl Z''
  exact ⟨t2, stp.trans (fz_caught (g := F0 m pc ls st) Z'.here hfind a1), b1⟩
end JJCatch
