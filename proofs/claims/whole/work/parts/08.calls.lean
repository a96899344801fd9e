/-! Fields, arrays, ends and calls in the judgement JJ; contracts of methods over the world. -/
theorem vp_in_z {z : Int} {N : Nat} (h0 : 0 ≤ z) (h1 : z < N) (hN : N < 2147483648) : vp_in (Int32.ofInt z) N ∧ (Int32.ofInt z).toNatClampNeg = z.toNat := by
  have e : (Int32.ofInt z).toInt = z := r32_to ⟨by omega, by omega⟩
  refine ⟨vp_in_iff.mpr ⟨by rw [e]; exact h0, by rw [e]; exact h1⟩, ?_⟩
  show (Int32.ofInt z).toInt.toNat = z.toNat
  rw [e]
section JJFields
variable {G : mt_G} {X : mt_X} {cc : ByteArray} {own : String} {nL k n : Nat} {mem : mt_M} {pc : Nat} {lo : List (Option Value)} {st : List Value}
theorem jj_get (h : OK G X cc own nL) {r ci kf idx N : Nat} {fs : List Value} {v : Value} {C : String} {T : u_T} (hr : r < mt_N) (hc : ce_ G (mem r) r = .inr (ci, fs)) (hcl : vwCl[ci]? = some (C, T, N)) (hv : fs[kf]? = some v) (F : fk_ own idx C T N kf) (d : decode cc pc = .ok (.getfield idx, 3)) (kk : JJ G X k n mem (pc + 3) lo (v :: st)) : JJ G X k n mem pc lo (vr G r :: st) := by
  obtain ⟨p, l, e, R, s, m, args, below, meth, c, A, Q⟩ := X
  intro H locs ls hP hS hL
  exact va_get h.1 h.2.1 h.2.2.2.2.1 F.1 h.2.2.2.1 h.2.2.2.2.2.1 hP r (fs := fs) (by rw [wd_get hr, hc]) hcl kf F.2.1 (h.2.2.2.2.1 _ F.2.2) (fun _ q => q) hv d (kk H locs ls hP hS hL)
theorem jj_put (h : OK G X cc own nL) {r ci kf idx N : Nat} {fs : List Value} {z zk : Int} {C : String} {T : u_T} {t0 : Nat → FieldType} {ty : FieldType} (hr : r < mt_N) (hc : ce_ G (mem r) r = .inr (ci, fs)) (hcl : vwCl[ci]? = some (C, T, N)) (hl : kf < fs.length) (hc' : ce_ G (fun z' => if z' = zk then z else mem r z') r = .inr (ci, fs.set kf (vi z))) (F : fk_ own idx C T N kf) (F2 : fp_ T N kf t0) (hty : parseFieldDescriptor (T kf).2.2.1 = some ty) (hn : narrow ty (vi z) = vi z) (hf : fits ty (vi z) = true) (d : decode cc pc = .ok (.putfield idx, 3)) (kk : JJ G X k n (st_ mem r zk z) (pc + 3) lo st) : JJ G X k n mem pc lo (vi z :: vr G r :: st) := by
  obtain ⟨p, l, e, R, s, m, args, below, meth, c, A, Q⟩ := X
  intro H locs ls hP hS hL
  have hD : va_D A (wd G mem) := wd_D h.2.2.2.2.2.2.1 h.2.2.2.2.2.2.2.1
  refine va_put (ty := ty) h.1 h.2.1 h.2.2.2.2.1 F.1 t0 F2.1 F2.2.1 h.2.2.2.1 h.2.2.2.2.2.1 hP hD hS r (fs := fs) (by rw [wd_get hr, hc]) hcl kf F.2.1 (h.2.2.2.2.1 _ F.2.2) (fun _ q => q) F2.2.2 hty hn hf hl d (fun H1 locs1 hP1 _ hS1 => ?_)
  rw [← hc', wd_set hr] at hP1
  exact kk H1 locs1 ls hP1 hS1 hL
/-- an array of ints: element z -/
theorem jj_iaload (h : OK G X cc own nL) {r N : Nat} {z : Int} (hr : r < mt_N) (hc : ce_ G (mem r) r = .inl (G.2.2.1 0, N, .inl (fun j => Int32.ofInt (mem r (j : Int))))) (hN : N < 2147483648) (h0 : 0 ≤ z) (h1 : z < N) (d : decode cc pc = .ok (.iaload, 1)) (kk : JJ G X k n mem (pc + 1) lo (vi (mem r z) :: st)) : JJ G X k n mem pc lo (vi z :: vr G r :: st) := by
  obtain ⟨p, l, e, R, s, m, args, below, meth, c, A, Q⟩ := X
  intro H locs ls hP hS hL
  obtain ⟨q1, q2⟩ := vp_in_z h0 h1 hN
  refine va_iald h.1 h.2.1 h.2.2.2.2.2.1 hP r 0 (by rw [wd_get hr, hc]) rfl q1 d ?_
  have q := kk H locs ls hP hS hL
  show W p l e R s m args below meth c H locs k n Q (F0 m (pc + 1) ls (.int (Int32.ofInt (mem r (((Int32.ofInt z).toNatClampNeg : Nat) : Int))) :: st))
  rw [q2, Int.toNat_of_nonneg h0]
  exact q
theorem jj_iastore (h : OK G X cc own nL) {r N : Nat} {z x : Int} (hr : r < mt_N) (hc : ∀ f : Int → Int, ce_ G f r = .inl (G.2.2.1 0, N, .inl (fun j => Int32.ofInt (f (j : Int))))) (hN : N < 2147483648) (h0 : 0 ≤ z) (h1 : z < N) (d : decode cc pc = .ok (.iastore, 1)) (kk : JJ G X k n (st_ mem r z x) (pc + 1) lo st) : JJ G X k n mem pc lo (vi x :: vi z :: vr G r :: st) := by
  obtain ⟨p, l, e, R, s, m, args, below, meth, c, A, Q⟩ := X
  intro H locs ls hP hS hL
  have hD : va_D A (wd G mem) := wd_D h.2.2.2.2.2.2.1 h.2.2.2.2.2.2.2.1
  obtain ⟨q1, q2⟩ := vp_in_z h0 h1 hN
  refine va_iast h.1 h.2.1 h.2.2.2.2.2.1 hP hD hS r 0 (by rw [wd_get hr, hc]) rfl q1 d (fun H1 locs1 hP1 _ hS1 => ?_)
  have e9 : (Sum.inl (G.2.2.1 0, N, Sum.inl (upd (fun j => Int32.ofInt (mem r ((j : Nat) : Int))) (Int32.ofInt z).toNatClampNeg (Int32.ofInt x))) : va_E) = ce_ G (fun z' => if z' = z then x else mem r z') r := by
    rw [hc, q2]
    congr 4
    funext j
    unfold upd
    by_cases e : j = z.toNat
    · rw [if_pos e, if_pos (by rw [e, Int.toNat_of_nonneg h0])]
    · rw [if_neg e, if_neg (by intro q; exact e (by omega))]
  rw [e9, wd_set hr] at hP1
  exact kk H1 locs1 ls hP1 hS1 hL
theorem jj_alen (h : OK G X cc own nL) {r : Nat} {x : vp_A} {t0 : Nat} {cA : ClassId} {ty : FieldType} (hr : r < mt_N) (hc : ce_ G (mem r) r = .inl (cA, x)) (ht : (ty_ G)[t0]? = some (cA, ty)) (d : decode cc pc = .ok (.arraylength, 1)) (kk : JJ G X k n mem (pc + 1) lo (vi (x.1 : Int) :: st)) : JJ G X k n mem pc lo (vr G r :: st) := by
  obtain ⟨p, l, e, R, s, m, args, below, meth, c, A, Q⟩ := X
  intro H locs ls hP hS hL
  exact va_alen h.1 h.2.1 h.2.2.2.2.2.1 hP r t0 (by rw [wd_get hr, hc]) ht (by rw [← Int32.ofInt_eq_ofNat]) d (kk H locs ls hP hS hL)
/-- an array of references -/
theorem jj_aaload (h : OK G X cc own nL) {r N t0 : Nat} {z : Int} {g : Nat → Option Nat} {cA : ClassId} {C : String} {q9 : Nat} (hr : r < mt_N) (hc : ce_ G (mem r) r = .inl (cA, N, .inr (.inr (.inr (.inr g))))) (ht : (ty_ G)[t0]? = some (cA, .object C)) (hN : N < 2147483648) (h0 : 0 ≤ z) (h1 : z < N) (hg : g z.toNat = some (G.1 q9)) (d : decode cc pc = .ok (.aaload, 1)) (kk : JJ G X k n mem (pc + 1) lo (vr G q9 :: st)) : JJ G X k n mem pc lo (vi z :: vr G r :: st) := by
  obtain ⟨p, l, e, R, s, m, args, below, meth, c, A, Q⟩ := X
  intro H locs ls hP hS hL
  obtain ⟨q1, q2⟩ := vp_in_z h0 h1 hN
  refine va_aldq h.1 h.2.1 h.2.2.2.2.2.1 hP r t0 (by rw [wd_get hr, hc]) ht q1 d ?_
  rw [q2, hg]
  exact kk H locs ls hP hS hL
end JJFields
/-- a method's end: what it answers and the world behind it -/
def Qc_ (G : mt_G) (P : Option Value → mt_M → Prop) (A : Nat → Prop) : Array Value → State → Outcome → State → Prop := fun _ s o t => (∃ (v : Option Value) (mem' : mt_M), o = .returned v ∧ P v mem' ∧ va_P G.2.1 vwCl (wd G mem') t.heap) ∧ va_F A s t
def Pw_ (G : mt_G) (mem : mt_M) (sz : Nat) (U : State) : Prop := U.heap.size = sz ∧ va_P G.2.1 vwCl (wd G mem) U.heap ∧ va_K G.2.1 vwCl (ty_ G) U ∧ in_ G ∧ Ex_ G (As_ G sz) U U.heap
def rm_ (d : Nat) : Room := { frames := d, cells := 0, slots := 0, locals := 64 * d }
/-- the contract of a method: started with the values vs over mem, it returns v over mem' with P v mem'; d: how deep its calls go -/
def CT (G : mt_G) (l : Launch) (y : MethodName) (cc : ByteArray) (nL : Nat) (ret : Option FieldType) (d : Nat) (vs : List Value) (mem : mt_M) (P : Option Value → mt_M → Prop) : Prop :=
  ∀ sz : Nat, Met l y (Cond.code y cc nL ret :: mt_T) (rm_ d) (va_Pc vs (Pw_ G mem sz)) (Qc_ G P (As_ G sz)) 0 0 (As_ G sz)
/-- what a body knows of its end -/
def OE (G : mt_G) (X : mt_X) (ret : Option FieldType) (d : Nat) (P : Option Value → mt_M → Prop) : Prop := match X with
  | (_, _, _, R, s, _, args, below, meth, _, A, Q) => Q = MQ below (Qc_ G P A) args s 0 0 A ∧ meth.sig.returnType = ret ∧ meth.locks = false ∧ R = rm_ d
/-- the locals at a method's entry -/
def lo0 (vs : List Value) (nL : Nat) : List (Option Value) := (lg_sl vs ++ List.replicate (nL - (lg_sl vs).length) Slot.unset).map (fun x => match x with
  | .val v => some v
  | _ => none)
theorem lo0_ok (vs : List Value) {nL : Nat} (h : (lg_sl vs).length ≤ nL) : lo_ ((lg_sl vs ++ List.replicate (nL - (lg_sl vs).length) Slot.unset).toArray) (lo0 vs nL) := by
  have q := lv_entry vs h
  refine ⟨by simp [lo0], q.2.1, fun i v hi => ?_⟩
  unfold lo0 at hi
  rw [List.getElem?_map] at hi
  rw [List.getElem?_toArray]
  cases hx : (lg_sl vs ++ List.replicate (nL - (lg_sl vs).length) Slot.unset)[i]? with
  | none => rw [hx] at hi; cases hi
  | some x =>
    rw [hx] at hi
    cases x with
    | unset => cases hi
    | second => cases hi
    | val w =>
      have : w = v := Option.some.inj (Option.some.inj hi)
      rw [this]
theorem CT.intro {G : mt_G} {l : Launch} {y : MethodName} {cc : ByteArray} {nL : Nat} {ret : Option FieldType} {d : Nat} {vs : List Value} {mem : mt_M} {P : Option Value → mt_M → Prop} {own : String} (hpl : plainName y.cls = true) (hown : y.cls = own) (hlen : (lg_sl vs).length ≤ nL)
    (body : ∀ X : mt_X, OK G X cc own nL → OE G X ret d P → JJ G X 0 0 mem 0 (lo0 vs nL) []) : CT G l y cc nL ret d vs mem P := by
  intro sz
  refine Met.ofW (cc := cc) (maxL := nL) (ret := ret) hpl rfl ?_
  intro p e s m args below meth c s₁ B hml hv
  obtain ⟨rfl, hsz, hP, hK, hi, hE⟩ := hv
  have hts := atoms_spec (ws := Cond.code y cc nL ret :: mt_T) B.pre
  have hown9 : s.vm.findClass y.cls = some m.cls := findClass_of_methodNamed B.named
  rw [hown] at hown9
  subst hsz
  rw [lg_entry_eq]
  have hb := body (p, l, e, rm_ d, s, m, vs.toArray, below, meth, c, As_ G s.heap.size, MQ below (Qc_ G P (As_ G s.heap.size)) vs.toArray s 0 0 (As_ G s.heap.size))
    ⟨B.exec, B.bytes, hml, hown9, fun w hw => hts w (List.mem_cons_of_mem _ hw), hK, hi, fun r hr => Or.inl ⟨r, hr, rfl⟩, fun q hq => Or.inr hq, hE⟩ ⟨rfl, B.returns, B.notSynchronized, rfl⟩
  exact hb s.heap [] _ hP va_S.rf (lo0_ok vs hlen)
section JJEnds
variable {G : mt_G} {X : mt_X} {cc : ByteArray} {own : String} {nL : Nat} {mem : mt_M} {pc : Nat} {lo : List (Option Value)} {ret : Option FieldType} {d : Nat} {P : Option Value → mt_M → Prop}
theorem jj_iret (h : OK G X cc own nL) (he : OE G X (some .int) d P) {z : Int} (hd : decode cc pc = .ok (.ireturn, 1)) (hp : P (some (vi z)) mem) : JJ G X 0 0 mem pc lo [vi z] := by
  obtain ⟨p, l, e, R, s, m, args, below, meth, c, A, Q⟩ := X
  intro H locs ls hP hS hL
  obtain ⟨rfl, hr, hlk, hR⟩ := he
  exact W.iret h.1 h.2.1 hr (fun t ht9 _ => ⟨⟨some (vi z), mem, rfl, hp, by rw [ht9]; exact hP⟩, hS.F ht9⟩) hS.2.2 hd hlk
theorem jj_zret (h : OK G X cc own nL) (he : OE G X (some .boolean) d P) {z : Int} (hz : z = 0 ∨ z = 1) (hd : decode cc pc = .ok (.ireturn, 1)) (hp : P (some (vi z)) mem) : JJ G X 0 0 mem pc lo [vi z] := by
  obtain ⟨p, l, e, R, s, m, args, below, meth, c, A, Q⟩ := X
  intro H locs ls hP hS hL
  obtain ⟨rfl, hr, hlk, hR⟩ := he
  exact W.zret h.1 h.2.1 hr (by rcases hz with rfl | rfl <;> decide) (fun t ht9 _ => ⟨⟨some (vi z), mem, rfl, hp, by rw [ht9]; exact hP⟩, hS.F ht9⟩) hS.2.2 hd hlk
theorem jj_cret (h : OK G X cc own nL) (he : OE G X (some .char) d P) {z : Int} (hz : narrow .char (vi z) = vi z) (hd : decode cc pc = .ok (.ireturn, 1)) (hp : P (some (vi z)) mem) : JJ G X 0 0 mem pc lo [vi z] := by
  obtain ⟨p, l, e, R, s, m, args, below, meth, c, A, Q⟩ := X
  intro H locs ls hP hS hL
  obtain ⟨rfl, hr, hlk, hR⟩ := he
  exact W.zret h.1 h.2.1 hr hz (fun t ht9 _ => ⟨⟨some (vi z), mem, rfl, hp, by rw [ht9]; exact hP⟩, hS.F ht9⟩) hS.2.2 hd hlk
theorem jj_vret (h : OK G X cc own nL) (he : OE G X none d P) (hd : decode cc pc = .ok (.return_, 1)) (hp : P (none) mem) : JJ G X 0 0 mem pc lo [] := by
  obtain ⟨p, l, e, R, s, m, args, below, meth, c, A, Q⟩ := X
  intro H locs ls hP hS hL
  obtain ⟨rfl, hr, hlk, hR⟩ := he
  exact W.vret h.1 h.2.1 hr (fun t ht9 _ => ⟨⟨none, mem, rfl, hp, by rw [ht9]; exact hP⟩, hS.F ht9⟩) hS.2.2 hd hlk
theorem jj_aret (h : OK G X cc own nL) {rt : FieldType} (he : OE G X (some rt) d P) {v : Value} (hrt : ∃ n, rt = .object n) (hv : v = .null ∨ ∃ a, v = .ref a) (hd : decode cc pc = .ok (.areturn, 1)) (hp : P (some v) mem) : JJ G X 0 0 mem pc lo [v] := by
  obtain ⟨p, l, e, R, s, m, args, below, meth, c, A, Q⟩ := X
  intro H locs ls hP hS hL
  obtain ⟨rfl, hr, hlk, hR⟩ := he
  exact W.aret h.1 h.2.1 hr (Or.inl hrt) hv (fun t ht9 _ => ⟨⟨some v, mem, rfl, hp, by rw [ht9]; exact hP⟩, hS.F ht9⟩) hS.2.2 hd hlk
end JJEnds
/-- the words of the tables are good words -/
theorem gd_ {ws : List Cond} (h : ∀ w ∈ ws, w ∈ mt_T) : GoodIn mt_T ws := fun w hw => ⟨h w hw, good_of_word (List.mem_filter.mp (h w hw)).2⟩
theorem gd_T {ws : List Cond} (h : ∀ w ∈ ws, w ∈ mt_T) : ∀ w ∈ ws ++ mt_T, w ∈ mt_T := fun w hw => (List.mem_append.mp hw).elim (h w) id
theorem Pw_blind {G : mt_G} {mem : mt_M} {sz : Nat} {vs : List Value} : FrameBlind (va_Pc vs (Pw_ G mem sz)) := fun a U g mk q => by
  obtain ⟨q0, q1, qP, qK, qi, qE⟩ := q
  exact ⟨q0, q1, qP, va_K.moved (u := U) (U := U.calling g mk a) (Vm.Alike.refl U.vm) qK, qi, Ex_.same (u := U) (U := U.calling g mk a) rfl qE⟩
section JJCalls
variable {G : mt_G} {X : mt_X} {cc : ByteArray} {own : String} {nL k n : Nat} {mem : mt_M} {pc : Nat} {lo : List (Option Value)} {st : List Value}
variable {y : MethodName} {c1 : ByteArray} {nL1 d1 np idx : Nat} {ret : Option FieldType} {vs : List Value} {P : Option Value → mt_M → Prop}
/-- room for a callee of depth d1 -/
def ro_ (X : mt_X) (d1 nL1 k n : Nat) : Prop := match X with
  | (_, _, _, R, _, _, _, _, _, _, _, _) => d1 + 1 ≤ R.frames ∧ 8 + (nL1 + 11) + 64 * d1 ≤ R.locals ∧ k ≤ R.cells ∧ n ≤ R.slots
theorem ro_of {ret' : Option FieldType} {d : Nat} {P' : Option Value → mt_M → Prop} (he : OE G X ret' d P') (hd : d1 < d) (hL : nL1 ≤ 45) : ro_ X d1 nL1 0 0 := by
  obtain ⟨p, l, e, R, s, m, args, below, meth, c, A, Q⟩ := X
  obtain ⟨-, -, -, rfl⟩ := he
  exact ⟨hd, by show 8 + (nL1 + 11) + 64 * d1 ≤ 64 * d; omega, Nat.le_refl _, Nat.le_refl _⟩
theorem As_in {A : Nat → Prop} {s : State} {H : Heap} {locs : List Loc} (hA : ∀ r, r < mt_N → A (G.1 r)) (hN : ∀ q : Nat, s.heap.size ≤ q → A q) (hS : va_S A s.heap H locs) : ∀ q, As_ G H.size q → A q := by
  intro q hq
  rcases hq with ⟨r, hr, rfl⟩ | hq
  · exact hA r hr
  · exact hN q (Nat.le_trans hS.1 hq)
/-- what a callee finds -/
theorem Pw_call {s U : State} {H : Heap} {A : Nat → Prop} {locs : List Loc} (hP : va_P G.2.1 vwCl (wd G mem) H) (hK : va_K G.2.1 vwCl (ty_ G) s) (hi : in_ G) (hA : ∀ r, r < mt_N → A (G.1 r)) (hN : ∀ q : Nat, s.heap.size ≤ q → A q) (hE : Ex_ G A s s.heap) (hS : va_S A s.heap H locs) (hU : U.heap = H) (hW : s.WarmedH U.vm) : Pw_ G mem H.size U := by
  refine ⟨by rw [hU], by rw [hU]; exact hP, va_K.moved hW.alike hK, hi, ?_⟩
  rw [hU]
  exact Ex_.narrow (Ex_.warm hW (Ex_.kept hE hS.2.1)) (As_in hA hN hS)
/-- behind a call -/
theorem jj_back {p : Program} {l : Launch} {e : Env} {R : Room} {s : State} {m : MethodId} {args : Array Value} {below : List Frame} {meth : Method} {c : Code} {A : Nat → Prop} {Q : State → Prop} {a : Array Value} {st0 : List Value} {H : Heap} {locs : List Loc} {ls : Array Slot} {T : State}
    (hA : ∀ r, r < mt_N → A (G.1 r)) (hN : ∀ q : Nat, s.heap.size ≤ q → A q) (hS : va_S A s.heap H locs) (hL : lo_ ls lo) (hT : T.heap = H) (Z : Stand p l e R s m args below meth c T locs k n)
    (run : va_Run p l e R s m args below meth c H locs k n 0 0 (F0 m pc ls st0) st (Qc_ G P (As_ G H.size) a) (As_ G H.size))
    (kk : ∀ (v : Option Value) (mem' : mt_M), P v mem' → JJ G (p, l, e, R, s, m, args, below, meth, c, A, Q) k n mem' (pc + 3) lo (v.toList ++ st)) :
    ∃ t, Steps p.tables e below (T.setTop (F0 m pc ls st0)) t ∧ Q t := by
  have hin := As_in hA hN hS
  obtain ⟨v, st₀, t, T', L, h0, X', hL', e1, e2, ⟨⟨v', mem', hv, hp, hb⟩, hz, hk⟩, stp⟩ := run T hT Z
  cases hv
  rw [h0] at hz hk
  obtain ⟨t2, a1, b1⟩ := kk v mem' hp T'.heap (locs ++ L) ls (by rw [e1]; exact hb)
    ⟨Nat.le_trans hS.1 (by rw [e1]; exact hz), fun q h1 h2 => by rw [e1, hk q (Nat.lt_of_lt_of_le h1 hS.1) (fun z => h2 (hin q z))]; exact hS.2.1 q h1 h2, fun q hq => by
      rcases List.mem_append.mp hq with h | h
      · exact hS.2.2 q h
      · exact hin _ (hL' q h)⟩ hL T' rfl X'
  exact ⟨t2, stp t2 a1, b1⟩
theorem cV_good {own : String} {idx : Nat} {y : MethodName} {cc : ByteArray} {nL : Nat} {ret : Option FieldType} {n : Nat} (hw : cV_ own idx y cc nL ret n) : GoodIn mt_T (wsV own idx y.cls y (Cond.code y cc nL ret :: mt_T)) := by
  refine gd_ (fun w h => ?_)
  unfold wsV at h
  rcases List.mem_append.mp h with h | h
  · exact hw.1 w (List.mem_append_left [_] h)
  · rcases List.mem_cons.mp h with rfl | h
    · exact hw.1 _ (List.mem_append_right [_, _, _, _] (List.mem_singleton.mpr rfl))
    · exact h
theorem cS_good {own : String} {idx : Nat} {y : MethodName} {cc : ByteArray} {nL : Nat} {ret : Option FieldType} {n : Nat} (hw : cS_ own idx y cc nL ret n) : GoodIn mt_T (wsS own idx y (Cond.code y cc nL ret :: mt_T)) := by
  refine gd_ (fun w h => ?_)
  unfold wsS at h
  rcases List.mem_append.mp h with h | h
  · exact hw.1 w (List.mem_append_left [_] h)
  · rcases List.mem_cons.mp h with rfl | h
    · exact hw.1 _ (List.mem_append_right [_, _, _] (List.mem_singleton.mpr rfl))
    · exact h
theorem jj_callV (h : OK G X cc own nL) {r ci N : Nat} {fs : List Value} {T : u_T} {st0 : List Value} (C : CT G X.2.1 y c1 nL1 ret d1 (vr G r :: vs) mem P) (hw : cV_ own idx y c1 nL1 ret np) (hro : ro_ X d1 nL1 k n) (hl : lo.length = nL) (hn : vs.length = np) (hr : r < mt_N) (hc : ce_ G (mem r) r = .inr (ci, fs)) (hcl : vwCl[ci]? = some (y.cls, T, N)) (hst : st0 = vs.reverse ++ vr G r :: st) (hcat : (st.map fun v => v.category).sum ≤ 8) (d : decode cc pc = .ok (.invokevirtual idx, 3))
    (kk : ∀ (v : Option Value) (mem' : mt_M), P v mem' → JJ G X k n mem' (pc + 3) lo (v.toList ++ st)) : JJ G X k n mem pc lo st0 := by
  obtain ⟨p, l, e, R, s, m, args, below, meth, c, A, Q⟩ := X
  subst hst
  intro H locs ls hP hS hL T hT Z
  obtain ⟨hx, hb, hml, ho, hts, hK, hi, hA, hN, hE⟩ := h
  exact jj_back hA hN hS hL hT Z (va_runV (nL := nL) (Ts := mt_T) (own := own) (C := y.cls) (b := G.1 r) (As := vs) (n := np) ⟨hx, hb, hml, ho, hts⟩ (C H.size) (cwV np hts (cV_good hw) rfl rfl rfl ⟨rfl, hw.2⟩ ⟨hro.1, hro.2.1⟩)
    ⟨Pw_blind, va_recv hK hP hcl (by rw [wd_get hr, hc]), fun U hU hW => ⟨rfl, Pw_call hP hK hi hA hN hE hS hU hW⟩⟩ rfl hn (hL.1.trans hl) rfl (lv_room hcat) d ⟨hro.2.2.1, hro.2.2.2⟩) kk
theorem jj_callS (h : OK G X cc own nL) {st0 : List Value} (C : CT G X.2.1 y c1 nL1 ret d1 vs mem P) (hw : cS_ own idx y c1 nL1 ret np) (hro : ro_ X d1 nL1 k n) (hl : lo.length = nL) (hn : vs.length = np) (hst : st0 = vs.reverse ++ st) (hcat : (st.map fun v => v.category).sum ≤ 8) (d : decode cc pc = .ok (.invokestatic idx, 3))
    (kk : ∀ (v : Option Value) (mem' : mt_M), P v mem' → JJ G X k n mem' (pc + 3) lo (v.toList ++ st)) : JJ G X k n mem pc lo st0 := by
  obtain ⟨p, l, e, R, s, m, args, below, meth, c, A, Q⟩ := X
  subst hst
  intro H locs ls hP hS hL T hT Z
  obtain ⟨hx, hb, hml, ho, hts, hK, hi, hA, hN, hE⟩ := h
  exact jj_back hA hN hS hL hT Z (va_runS (nL := nL) (Ts := mt_T) (own := own) (As := vs) (n := np) ⟨hx, hb, hml, ho, hts⟩ (C H.size) (cwS np hts (cS_good hw) rfl rfl rfl ⟨hw.2.1, hw.2.2⟩ ⟨hro.1, hro.2.1⟩)
    ⟨Pw_blind, fun U hU hW => ⟨rfl, Pw_call hP hK hi hA hN hE hS hU hW⟩⟩ rfl hn (hL.1.trans hl) rfl (lv_room hcat) d ⟨hro.2.2.1, hro.2.2.2⟩) kk
theorem jj_callN (h : OK G X cc own nL) {st0 : List Value} (C : CT G X.2.1 y c1 nL1 ret d1 vs mem P) (hw : cN_ own idx y c1 nL1 ret np) (hro : ro_ X d1 nL1 k n) (hl : lo.length = nL) (hn : vs.length = np) (hst : st0 = vs.reverse ++ st) (hcat : (st.map fun v => v.category).sum ≤ 8) (d : decode cc pc = .ok (.invokestatic idx, 3))
    (kk : ∀ (v : Option Value) (mem' : mt_M), P v mem' → JJ G X k n mem' (pc + 3) lo (v.toList ++ st)) : JJ G X k n mem pc lo st0 := by
  obtain ⟨p, l, e, R, s, m, args, below, meth, c, A, Q⟩ := X
  subst hst
  intro H locs ls hP hS hL T hT Z
  obtain ⟨hx, hb, hml, ho, hts, hK, hi, hA, hN, hE⟩ := h
  obtain ⟨hw1, hw2, host, hw3⟩ := hw
  exact jj_back hA hN hS hL hT Z (va_runSN (nL := nL) (Ts := mt_T) (own := own) (host := host) (As := vs) (n := np) ⟨hx, hb, hml, ho, hts⟩ (C H.size)
    ⟨va_cnB np hts (gd_ (fun w hw => (List.mem_cons.mp hw).elim (fun q => by rw [q]; exact hw1 _ (List.mem_append_right [_, _] (List.mem_singleton.mpr rfl))) id)) rfl rfl rfl (hE.1 _ hw3) (hts _ (hw1 _ (List.mem_cons_of_mem _ List.mem_cons_self))) hw2 ⟨hro.1, hro.2.1⟩, hts _ (hw1 _ List.mem_cons_self), trivial⟩
    ⟨Pw_blind, fun U hU hW => ⟨rfl, Pw_call hP hK hi hA hN hE hS hU hW⟩⟩ rfl hn (hL.1.trans hl) rfl (lv_room hcat) d ⟨hro.2.2.1, hro.2.2.2⟩) kk
end JJCalls
