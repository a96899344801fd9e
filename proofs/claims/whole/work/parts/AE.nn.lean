/-! Building the two sides: a judgement over any list of cells, at addresses that are variables. -/
def Au (o : Nat) : Nat → Prop := fun q => o ≤ q
/-- what the constructors need of the tables -/
def Xn (G : mt_G) (U : State) : Prop := va_K G.2.1 vwCl (ty_ G) U ∧ va_AO R_E U ∧ va_AO R_F U ∧ ∀ w ∈ mt_nest, va_Nw w U
theorem Xn.warm {G : mt_G} {s U : State} (hW : s.WarmedH U.vm) (h : Xn G s) : Xn G U :=
  ⟨va_K.moved hW.alike h.1, h.2.1.moved hW.alike, h.2.2.1.moved hW.alike, fun w hw => by obtain ⟨a, i, x, b, rfl⟩ := mt_nestF hw; exact va_Nw.warmM hW (h.2.2.2 _ hw)⟩
theorem Xn.same {G : mt_G} {u U : State} (hv : u.vm = U.vm) (h : Xn G u) : Xn G U := by
  have hA : u.vm.Alike U.vm := by rw [hv]; exact Vm.Alike.refl _
  exact ⟨va_K.moved hA h.1, h.2.1.moved hA, h.2.2.1.moved hA, fun w hw => by obtain ⟨a, i, x, b, rfl⟩ := mt_nestF hw; exact va_Nw.same rfl hv (h.2.2.2 _ hw)⟩
def NN (G : mt_G) (X : mt_X) (o k n : Nat) (ws : va_W) (pc : Nat) (lo : List (Option Value)) (st : List Value) : Prop := match X with
  | (p, l, e, R, s, m, args, below, meth, c, _, Q) => ∀ (H : Heap) (locs : List Loc) (ls : Array Slot), va_P G.2.1 vwCl ws H → va_D (Au o) ws → va_S (Au o) s.heap H locs → lo_ ls lo → W p l e R s m args below meth c H locs k n Q (F0 m pc ls st)
def ON (G : mt_G) (X : mt_X) (cc : ByteArray) (own : String) (nL o : Nat) : Prop := match X with
  | (p, _, _, R, s, m, args, _, _, c, _, _) => p.tables.exec = Jvm.exec ∧ c.code = cc ∧ c.maxLocals = nL ∧ s.vm.findClass own = some m.cls ∧ (∀ w ∈ mt_T, w.before args s = true) ∧ Xn G s ∧ o ≤ s.heap.size ∧ 1 ≤ R.frames ∧ 20 ≤ R.locals
section NNRows
variable {G : mt_G} {X : mt_X} {cc : ByteArray} {own : String} {nL o k n : Nat} {ws : va_W} {pc : Nat} {lo : List (Option Value)} {st : List Value}
theorem nn_aload_n (h : ON G X cc own nL o) {i : Fin 4} {v : Value} (d : decode cc pc = .ok (.aload_n i, 1)) (hl : lo[(i : Nat)]? = some (some v)) (hv : ∃ x, v = .ref x) (kk : NN G X o k n ws (pc + 1) lo (v :: st)) : NN G X o k n ws pc lo (st) := by
  obtain ⟨p, l, e, R, s, m, args, below, meth, c, A, Q⟩ := X
  intro H locs ls hP hD hS hL
  obtain ⟨x, rfl⟩ := hv
  exact lv_aload_n h.1 h.2.1 d rfl (hL.2.2 _ _ hl) (kk H locs ls hP hD hS hL)
theorem nn_iload_n (h : ON G X cc own nL o) {i : Fin 4} {z : Int} (d : decode cc pc = .ok (.iload_n i, 1)) (hl : lo[(i : Nat)]? = some (some (vi z))) (kk : NN G X o k n ws (pc + 1) lo (vi z :: st)) : NN G X o k n ws pc lo (st) := by
  obtain ⟨p, l, e, R, s, m, args, below, meth, c, A, Q⟩ := X
  intro H locs ls hP hD hS hL
  exact lv_iload_n h.1 h.2.1 d rfl (hL.2.2 _ _ hl) (kk H locs ls hP hD hS hL)
theorem nn_iconst (h : ON G X cc own nL o) {z : Int} (d : decode cc pc = .ok (.iconst z, 1)) (kk : NN G X o k n ws (pc + 1) lo (vi z :: st)) : NN G X o k n ws pc lo (st) := by
  obtain ⟨p, l, e, R, s, m, args, below, meth, c, A, Q⟩ := X
  intro H locs ls hP hD hS hL
  exact lv_iconst h.1 h.2.1 d rfl (kk H locs ls hP hD hS hL)
theorem nn_sipush (h : ON G X cc own nL o) {z : Int} (d : decode cc pc = .ok (.sipush z, 3)) (hv : (Int16.ofInt z).toInt32 = Int32.ofInt z) (kk : NN G X o k n ws (pc + 3) lo (vi z :: st)) : NN G X o k n ws pc lo (st) := by
  obtain ⟨p, l, e, R, s, m, args, below, meth, c, A, Q⟩ := X
  intro H locs ls hP hD hS hL
  exact lv_sipush h.1 h.2.1 d hv (kk H locs ls hP hD hS hL)
theorem nn_bipush (h : ON G X cc own nL o) {z : Int} (d : decode cc pc = .ok (.bipush z, 2)) (hv : (Int8.ofInt z).toInt32 = Int32.ofInt z) (kk : NN G X o k n ws (pc + 2) lo (vi z :: st)) : NN G X o k n ws pc lo (st) := by
  obtain ⟨p, l, e, R, s, m, args, below, meth, c, A, Q⟩ := X
  intro H locs ls hP hD hS hL
  exact lv_bipush h.1 h.2.1 d hv (kk H locs ls hP hD hS hL)
theorem nn_dup (h : ON G X cc own nL o) {v : Value} (d : decode cc pc = .ok (.dup, 1)) (hv : v.category = 1) (kk : NN G X o k n ws (pc + 1) lo (v :: v :: st)) : NN G X o k n ws pc lo (v :: st) := by
  obtain ⟨p, l, e, R, s, m, args, below, meth, c, A, Q⟩ := X
  intro H locs ls hP hD hS hL
  exact lv_dup h.1 h.2.1 d hv (kk H locs ls hP hD hS hL)
theorem nn_istore_n (h : ON G X cc own nL o) {i : Fin 4} {z : Int} (d : decode cc pc = .ok (.istore_n i, 1)) (hi : (i : Nat) < lo.length) (hk : lo_ok lo (i : Nat) = true) (kk : NN G X o k n ws (pc + 1) (lo.set (i : Nat) (some (vi z))) st) : NN G X o k n ws pc lo (vi z :: st) := by
  obtain ⟨p, l, e, R, s, m, args, below, meth, c, A, Q⟩ := X
  intro H locs ls hP hD hS hL
  exact lv_istore_n h.1 h.2.1 d rfl (lo_has hL) hi rfl (fun ls' h' => kk H locs ls' hP hD hS (lo_st1 hk ls' h'))
theorem nn_astore_n (h : ON G X cc own nL o) {i : Fin 4} {v : Value} (d : decode cc pc = .ok (.astore_n i, 1)) (hv : ∃ x, v = .ref x) (hi : (i : Nat) < lo.length) (hk : lo_ok lo (i : Nat) = true) (kk : NN G X o k n ws (pc + 1) (lo.set (i : Nat) (some v)) st) : NN G X o k n ws pc lo (v :: st) := by
  obtain ⟨p, l, e, R, s, m, args, below, meth, c, A, Q⟩ := X
  intro H locs ls hP hD hS hL
  obtain ⟨x, rfl⟩ := hv
  exact lv_astore_n h.1 h.2.1 d rfl (lo_has hL) hi rfl (fun ls' h' => kk H locs ls' hP hD hS (lo_st1 hk ls' h'))
theorem nn_iinc (h : ON G X cc own nL o) {i : Nat} {z w : Int} (d : decode cc pc = .ok (.iinc i w, 3)) (hl : lo[i]? = some (some (vi z))) (hk : lo_ok lo i = true) (kk : NN G X o k n ws (pc + 3) (lo.set i (some (vi (z + w)))) st) : NN G X o k n ws pc lo st := by
  obtain ⟨p, l, e, R, s, m, args, below, meth, c, A, Q⟩ := X
  intro H locs ls hP hD hS hL
  have hm := lo_l_mem.mpr hl
  obtain ⟨j, hj⟩ := List.getElem?_of_mem hm
  refine lv_iinc (v := Int32.ofInt (z + w)) h.1 h.2.1 d (lo_has hL) hj (by rw [Int32.ofInt_add]) (List.getElem?_eq_some_iff.mp hl).1 rfl (fun ls' h' => kk H locs ls' hP hD hS (lo_st1 hk ls' h'))
theorem nn_icmp_ge (h : ON G X cc own nL o) {x y off : Int} (tgt : Nat) (d : decode cc pc = .ok (.if_icmp .ge off, 3)) (ht : (pc : Int) + off = (tgt : Int)) (hx : r32 x) (hy : r32 y) (kt : y ≤ x → NN G X o k n ws tgt lo st) (kf : ¬ (y ≤ x) → NN G X o k n ws (pc + 3) lo st) : NN G X o k n ws pc lo (vi y :: vi x :: st) := by
  obtain ⟨p, l, e, R, s, m, args, below, meth, c, A, Q⟩ := X
  intro H locs ls hP hD hS hL
  exact lv_icmp_ge h.1 h.2.1 d ht (fun q => kt ((r32_le hy hx).mp q) H locs ls hP hD hS hL) (fun q => kf (fun z => q ((r32_le hy hx).mpr z)) H locs ls hP hD hS hL)
theorem nn_goto (h : ON G X cc own nL o) {off : Int} (tgt : Nat) (d : decode cc pc = .ok (.goto off, 3)) (ht : (pc : Int) + off = (tgt : Int)) (kk : NN G X o k n ws tgt lo st) : NN G X o k n ws pc lo st := by
  obtain ⟨p, l, e, R, s, m, args, below, meth, c, A, Q⟩ := X
  intro H locs ls hP hD hS hL
  exact lv_goto h.1 h.2.1 d ht (kk H locs ls hP hD hS hL)
theorem nn_obj (h : ON G X cc own nL o) {a idx : Nat} (hl : Cond.methodLink own idx Bundle.oInit ∈ mt_T) (hlo : lo.length = nL) (hcat : (st.map fun v => v.category).sum ≤ 8) (d : decode cc pc = .ok (.invokespecial idx, 3)) (kk : NN G X o k n ws (pc + 3) lo st) : NN G X o k n ws pc lo (.ref a :: st) := by
  obtain ⟨p, l, e, R, s, m, args, below, meth, c, A, Q⟩ := X
  intro H locs ls hP hD hS hL
  obtain ⟨hx, hb, hml, ho, hts, hX, ho9, hF, hLc⟩ := h
  exact W.objInit hx hb ho (hts _ hl) (hts _ wx_8) (hts _ wx_9) rfl ((hL.1.trans hlo).trans hml.symm) rfl d hF (by show 2 * 0 + (st.map fun v => v.category).sum + 12 ≤ R.locals; omega) (kk H locs ls hP hD hS hL)
theorem nn_new (h : ON G X cc own nL o) {idx ci N : Nat} {C : String} {T : u_T} {fs : List Value} (ty : Nat → FieldType) (hty : ∀ k, k < N → parseFieldDescriptor (T k).2.2.1 = some (ty k)) (hin : ∀ w ∈ u_ws C T N, w ∈ mt_T) (w1 : Cond.classLink own idx C ∈ mt_T) (w2 : Cond.instantiable C N ∈ mt_T) (w3 : Cond.initialized C ∈ mt_T) (hc : vwCl[ci]? = some (C, T, N)) (hfs : ∀ j, j < N → defaultValue (ty j) = vp_V fs j) (hk : match X with | (_, _, _, R, _) => k + 1 ≤ R.cells ∧ n + N ≤ R.slots) (d : decode cc pc = .ok (.new idx, 3))
    (kk : ∀ q : Nat, NN G X o (k + 1) (n + N) (ws ++ [(q, .inr (ci, fs))]) (pc + 3) lo (.ref q :: st)) : NN G X o k n ws pc lo st := by
  obtain ⟨p, l, e, R, s, m, args, below, meth, c, A, Q⟩ := X
  intro H locs ls hP hD hS hL
  obtain ⟨hx, hb, hml, ho, hts, hX, ho9, hF, hLc⟩ := h
  exact va_new hx hb hts hin ty hty ho (hts _ w1) (hts _ w2) (hts _ w3) hX.1 hP hD hS (fun q hq => Nat.le_trans ho9 hq) hc hfs hk.1 hk.2 d (fun q H1 hP1 hD1 hS1 => kk q H1 locs ls hP1 hD1 hS1 hL)
theorem nn_newa (h : ON G X cc own nL o) {z : Int} {N : Nat} (w1 : Cond.arrayClass .int ∈ mt_T) (hz : z = N) (hN : N ≤ 2000) (hk : match X with | (_, _, _, R, _) => k + 1 ≤ R.cells ∧ n + N ≤ R.slots) (d : decode cc pc = .ok (.newarray .int, 2))
    (kk : ∀ q : Nat, NN G X o (k + 1) (n + N) (ws ++ [(q, .inl (G.2.2.1 0, N, .inl (fun _ => Int32.ofInt 0)))]) (pc + 2) lo (.ref q :: st)) : NN G X o k n ws pc lo (vi z :: st) := by
  obtain ⟨p, l, e, R, s, m, args, below, meth, c, A, Q⟩ := X
  intro H locs ls hP hD hS hL
  obtain ⟨hx, hb, hml, ho, hts, hX, ho9, hF, hLc⟩ := h
  subst hz
  obtain ⟨q1, q2⟩ := vp_in_z (z := (N : Int)) (N := N + 1) (by omega) (by omega) (by omega)
  rw [Int.toNat_natCast] at q2
  refine va_newa (ty := .int) (a0 := (N, .inl (fun _ => Int32.ofInt 0))) hx hb (atype := .int) (hts _ w1) rfl hX.1 hP hD hS (fun q hq => Nat.le_trans ho9 hq) (fun cA => rfl) (fun z => q1 (Or.inl z)) q2 (by show N * 4 ≤ 536870912; omega) hk.1 hk.2 d (fun q cA H1 hK1 hP1 hD1 hS1 => ?_)
  have e1 : cA = G.2.2.1 0 := by
    have a1 : s.vm.findClass ("[" ++ (FieldType.int).toString) = some cA := (hK1.2 (ty_ G).length (cA, .int) (by rw [List.getElem?_append_right (Nat.le_refl _), Nat.sub_self]; rfl)).2
    have a2 : s.vm.findClass ("[" ++ (FieldType.int).toString) = some (G.2.2.1 0) := (hX.1.2 0 (G.2.2.1 0, .int) rfl).2
    exact Option.some.inj (a1.symm.trans a2)
  subst e1
  exact kk q H1 locs ls hP1 hD1 hS1 hL
theorem nn_newl (h : ON G X cc own nL o) {z : Int} {N : Nat} (w1 : Cond.arrayClass .long ∈ mt_T) (hz : z = N) (hN : N ≤ 2000) (hk : match X with | (_, _, _, R, _) => k + 1 ≤ R.cells ∧ n + N ≤ R.slots) (d : decode cc pc = .ok (.newarray .long, 2))
    (kk : ∀ q : Nat, NN G X o (k + 1) (n + N) (ws ++ [(q, .inl (G.2.2.1 1, N, .inr (.inl (fun _ => Int64.ofInt 0))))]) (pc + 2) lo (.ref q :: st)) : NN G X o k n ws pc lo (vi z :: st) := by
  obtain ⟨p, l, e, R, s, m, args, below, meth, c, A, Q⟩ := X
  intro H locs ls hP hD hS hL
  obtain ⟨hx, hb, hml, ho, hts, hX, ho9, hF, hLc⟩ := h
  subst hz
  obtain ⟨q1, q2⟩ := vp_in_z (z := (N : Int)) (N := N + 1) (by omega) (by omega) (by omega)
  rw [Int.toNat_natCast] at q2
  refine va_newa (ty := .long) (a0 := (N, .inr (.inl (fun _ => Int64.ofInt 0)))) hx hb (atype := .long) (hts _ w1) rfl hX.1 hP hD hS (fun q hq => Nat.le_trans ho9 hq) (fun cA => rfl) (fun z => q1 (Or.inl z)) q2 (by show N * 8 ≤ 536870912; omega) hk.1 hk.2 d (fun q cA H1 hK1 hP1 hD1 hS1 => ?_)
  have e1 : cA = G.2.2.1 1 := by
    have a1 : s.vm.findClass ("[" ++ (FieldType.long).toString) = some cA := (hK1.2 (ty_ G).length (cA, .long) (by rw [List.getElem?_append_right (Nat.le_refl _), Nat.sub_self]; rfl)).2
    have a2 : s.vm.findClass ("[" ++ (FieldType.long).toString) = some (G.2.2.1 1) := (hX.1.2 1 (G.2.2.1 1, .long) rfl).2
    exact Option.some.inj (a1.symm.trans a2)
  subst e1
  exact kk q H1 locs ls hP1 hD1 hS1 hL
/-- an array of references; t: its place in ty_ -/
theorem nn_newq (h : ON G X cc own nL o) {z : Int} {N idx t : Nat} {C : String} (w1 : Cond.classLink own idx C ∈ mt_T) (ht : (ty_ G)[t]? = some (G.2.2.1 t, .object C)) (hao : match X with | (_, _, _, _, s, _) => va_AO C s) (hz : z = N) (hN : N ≤ 2000) (hk : match X with | (_, _, _, R, _) => k + 1 ≤ R.cells ∧ n + N ≤ R.slots) (d : decode cc pc = .ok (.anewarray idx, 3))
    (kk : ∀ q : Nat, NN G X o (k + 1) (n + N) (ws ++ [(q, .inl (G.2.2.1 t, N, .inr (.inr (.inr (.inr (fun _ => none))))))]) (pc + 3) lo (.ref q :: st)) : NN G X o k n ws pc lo (vi z :: st) := by
  obtain ⟨p, l, e, R, s, m, args, below, meth, c, A, Q⟩ := X
  intro H locs ls hP hD hS hL
  obtain ⟨hx, hb, hml, ho, hts, hX, ho9, hF, hLc⟩ := h
  subst hz
  obtain ⟨q1, q2⟩ := vp_in_z (z := (N : Int)) (N := N + 1) (by omega) (by omega) (by omega)
  rw [Int.toNat_natCast] at q2
  refine va_newq (C := C) hx hb ho (hts _ w1) hao hX.1 hP hD hS (fun q hq => Nat.le_trans ho9 hq) (fun z => q1 (Or.inl z)) q2 (by omega) hk.1 hk.2 d (fun q cA H1 hK1 hP1 hD1 hS1 => ?_)
  have e1 : cA = G.2.2.1 t := by
    obtain ⟨-, -, -, -, -, -, a1⟩ := hK1.2 (ty_ G).length (cA, .object C) (by rw [List.getElem?_append_right (Nat.le_refl _), Nat.sub_self]; rfl)
    obtain ⟨-, -, -, -, -, -, a2⟩ := hX.1.2 t (G.2.2.1 t, .object C) ht
    exact Option.some.inj (a1.symm.trans a2)
  subst e1
  exact kk q H1 locs ls hP1 hD1 hS1 hL
theorem nn_get (h : ON G X cc own nL o) {q0 a ci kf idx N : Nat} {fs : List Value} {v : Value} {C : String} {T : u_T} (hq : ws[q0]? = some (a, .inr (ci, fs))) (hcl : vwCl[ci]? = some (C, T, N)) (hv : fs[kf]? = some v) (F : fk_ own idx C T N kf) (d : decode cc pc = .ok (.getfield idx, 3)) (kk : NN G X o k n ws (pc + 3) lo (v :: st)) : NN G X o k n ws pc lo (.ref a :: st) := by
  obtain ⟨p, l, e, R, s, m, args, below, meth, c, A, Q⟩ := X
  intro H locs ls hP hD hS hL
  obtain ⟨hx, hb, hml, ho, hts, hX, ho9, hF, hLc⟩ := h
  exact va_get hx hb hts F.1 ho hX.1 hP q0 hq hcl kf F.2.1 (hts _ F.2.2) (fun _ q => q) hv d (kk H locs ls hP hD hS hL)
theorem nn_put (h : ON G X cc own nL o) {q0 a ci kf idx N : Nat} {fs : List Value} {v : Value} {C : String} {T : u_T} {t0 : Nat → FieldType} {ty : FieldType} (hq : ws[q0]? = some (a, .inr (ci, fs))) (hcl : vwCl[ci]? = some (C, T, N)) (hl : kf < fs.length) (F : fk_ own idx C T N kf) (F2 : fp_ T N kf t0) (hty : parseFieldDescriptor (T kf).2.2.1 = some ty) (hn : narrow ty v = v) (hf : fits ty v = true) (d : decode cc pc = .ok (.putfield idx, 3)) (kk : NN G X o k n (ws.set q0 (a, .inr (ci, fs.set kf v))) (pc + 3) lo st) : NN G X o k n ws pc lo (v :: .ref a :: st) := by
  obtain ⟨p, l, e, R, s, m, args, below, meth, c, A, Q⟩ := X
  intro H locs ls hP hD hS hL
  obtain ⟨hx, hb, hml, ho, hts, hX, ho9, hF, hLc⟩ := h
  exact va_put (ty := ty) hx hb hts F.1 t0 F2.1 F2.2.1 ho hX.1 hP hD hS q0 hq hcl kf F.2.1 (hts _ F.2.2) (fun _ q => q) F2.2.2 hty hn hf hl d (fun H1 locs1 hP1 hD1 hS1 => kk H1 locs1 ls hP1 hD1 hS1 hL)
theorem nn_putF (h : ON G X cc own nL o) (hi : match X with | (_, _, _, _, _, _, _, _, meth, _, _, _) => meth.name = "<init>") {q0 a ci kf idx N : Nat} {fs : List Value} {v : Value} {C : String} {T : u_T} {t0 : Nat → FieldType} {ty : FieldType} (hq : ws[q0]? = some (a, .inr (ci, fs))) (hcl : vwCl[ci]? = some (C, T, N)) (hl : kf < fs.length) (F : fk_ own idx C T N kf) (F1 : ∀ k, k < N → parseFieldDescriptor (T k).2.2.1 = some (t0 k)) (F2 : ∀ a, a < N → ∀ b, b < N → a ≠ b → (T a).2.1 ≠ (T b).2.1) (F3 : (T kf).2.2.2 = true) (F4 : (T kf).1 = own) (hty : parseFieldDescriptor (T kf).2.2.1 = some ty) (hn : narrow ty v = v) (hf : fits ty v = true) (d : decode cc pc = .ok (.putfield idx, 3)) (kk : NN G X o k n (ws.set q0 (a, .inr (ci, fs.set kf v))) (pc + 3) lo st) : NN G X o k n ws pc lo (v :: .ref a :: st) := by
  obtain ⟨p, l, e, R, s, m, args, below, meth, c, A, Q⟩ := X
  intro H locs ls hP hD hS hL
  obtain ⟨hx, hb, hml, ho, hts, hX, ho9, hF, hLc⟩ := h
  exact va_putF (ty := ty) hx hb hts F.1 t0 F1 F2 ho hX.1 hP hD hS q0 hq hcl kf F.2.1 (hts _ F.2.2) (fun _ q => q) F3 hi F4 hty hn hf hl d (fun H1 locs1 hP1 hD1 hS1 => kk H1 locs1 ls hP1 hD1 hS1 hL)
theorem nn_ast (h : ON G X cc own nL o) {q0 t0 qk ci a v N : Nat} {z : Int} {cA : ClassId} {r : vw_C} {vs : List Value} {f : Nat → Option Nat} (hq : ws[q0]? = some (a, .inl (cA, N, .inr (.inr (.inr (.inr f)))))) (ht : (ty_ G)[t0]? = some (cA, .object r.1)) (hv : ws[qk]? = some (v, .inr (ci, vs))) (hc : vwCl[ci]? = some r) (hN : N < 2147483648) (h0 : 0 ≤ z) (h1 : z < N) (d : decode cc pc = .ok (.aastore, 1)) (kk : NN G X o k n (ws.set q0 (a, .inl (cA, N, .inr (.inr (.inr (.inr (va_up f z.toNat (some v)))))))) (pc + 1) lo st) : NN G X o k n ws pc lo (.ref v :: vi z :: .ref a :: st) := by
  obtain ⟨p, l, e, R, s, m, args, below, meth, c, A, Q⟩ := X
  intro H locs ls hP hD hS hL
  obtain ⟨hx, hb, hml, ho, hts, hX, ho9, hF, hLc⟩ := h
  obtain ⟨q1, q2⟩ := vp_in_z h0 h1 hN
  refine va_astq hx hb hX.1 hP hD hS q0 t0 qk ci hq ht hv hc q1 d (fun H1 locs1 hP1 hD1 hS1 => ?_)
  rw [q2] at hP1 hD1
  exact kk H1 locs1 ls hP1 hD1 hS1 hL
end NNRows
/-- a constructor's contract: over the cells ws, behind it over some ws' with Po ws' -/
def rk (d mc ms : Nat) : Room := { frames := d, cells := mc, slots := ms, locals := 64 * d }
def Pk (G : mt_G) (o : Nat) (ws : va_W) (U : State) : Prop := Xn G U ∧ o ≤ U.heap.size ∧ va_P G.2.1 vwCl ws U.heap ∧ va_D (Au o) ws
def Qk (G : mt_G) (o : Nat) (Po : va_W → Prop) : Array Value → State → Outcome → State → Prop := fun _ s oc t => (oc = .returned none ∧ ∃ ws' : va_W, Po ws' ∧ va_P G.2.1 vwCl ws' t.heap ∧ va_D (Au o) ws') ∧ va_F (Au o) s t
def KC (G : mt_G) (l : Launch) (y : MethodName) (cc : ByteArray) (nL d mc ms o : Nat) (vs : List Value) (ws : va_W) (Po : va_W → Prop) : Prop :=
  Met l y (Cond.code y cc nL none :: mt_T) (rk d mc ms) (va_Pc vs (Pk G o ws)) (Qk G o Po) mc ms (Au o)
def OKc (G : mt_G) (X : mt_X) (d mc ms o : Nat) (Po : va_W → Prop) : Prop := match X with
  | (_, _, _, R, s, _, args, below, meth, _, _, Q) => Q = MQ below (Qk G o Po) args s mc ms (Au o) ∧ meth.sig.returnType = none ∧ meth.locks = false ∧ R = rk d mc ms ∧ meth.name = "<init>"
theorem KC.intro {G : mt_G} {l : Launch} {y : MethodName} {cc : ByteArray} {nL d mc ms o : Nat} {vs : List Value} {ws : va_W} {Po : va_W → Prop} {own : String} (hpl : plainName y.cls = true) (hown : y.cls = own) (hnm : y.name = "<init>") (hd : 1 ≤ d) (hlen : (lg_sl vs).length ≤ nL)
    (body : ∀ X : mt_X, X.2.1 = l → ON G X cc own nL o → OKc G X d mc ms o Po → NN G X o 0 0 ws 0 (lo0 vs nL) []) : KC G l y cc nL d mc ms o vs ws Po := by
  refine Met.ofW (cc := cc) (maxL := nL) (ret := none) hpl rfl ?_
  intro p e s m args below meth c s₁ B hml hv
  obtain ⟨rfl, hX, ho, hP, hD⟩ := hv
  have hts := atoms_spec (ws := Cond.code y cc nL none :: mt_T) B.pre
  have hown9 : s.vm.findClass y.cls = some m.cls := findClass_of_methodNamed B.named
  rw [hown] at hown9
  rw [lg_entry_eq]
  have hnm9 : meth.name = "<init>" := ((name_of_methodNamed B.named B.method).1).trans hnm
  have hb := body (p, l, e, rk d mc ms, s, m, vs.toArray, below, meth, c, Au o, MQ below (Qk G o Po) vs.toArray s mc ms (Au o)) rfl
    ⟨B.exec, B.bytes, hml, hown9, fun w hw => hts w (List.mem_cons_of_mem _ hw), hX, ho, hd, by show 20 ≤ 64 * d; omega⟩ ⟨rfl, B.returns, B.notSynchronized, rfl, hnm9⟩
  exact hb s.heap [] _ hP hD va_S.rf (lo0_ok vs hlen)
section NNCalls
variable {G : mt_G} {X : mt_X} {cc : ByteArray} {own : String} {nL o k n d mc ms : Nat} {ws : va_W} {pc : Nat} {lo : List (Option Value)} {st : List Value} {Po : va_W → Prop}
theorem nn_ret (h : ON G X cc own nL o) (he : OKc G X d mc ms o Po) (hk : k ≤ mc) (hn : n ≤ ms) (dd : decode cc pc = .ok (.return_, 1)) (hp : Po ws) : NN G X o k n ws pc lo [] := by
  obtain ⟨p, l, e, R, s, m, args, below, meth, c, A, Q⟩ := X
  intro H locs ls hP hD hS hL
  obtain ⟨rfl, hr, hlk, hR, -⟩ := he
  intro T hT Z
  obtain ⟨t, a1, oc, b1, b2, b3, L, b4, b5⟩ := (W.vret (Qc := Qk G o Po) (free := Au o) (cells := k) (slots := n) h.1 h.2.1 hr (fun t ht9 _ => ⟨⟨rfl, ws, hp, by rw [ht9]; exact hP, hD⟩, hS.F ht9⟩) hS.2.2 dd hlk) T hT Z
  exact ⟨t, a1, oc, b1, b2, b3, L, ⟨b4.1, b4.2.1, b4.2.2.mono hk hn⟩, b5⟩
theorem nn_i (he : OKc G X d mc ms o Po) : match X with | (_, _, _, _, _, _, _, _, meth, _, _, _) => meth.name = "<init>" := by
  obtain ⟨p, l, e, R, s, m, args, below, meth, c, A, Q⟩ := X
  exact he.2.2.2.2
theorem nn_ro (he : OKc G X d mc ms o Po) {a b : Nat} (hk : a ≤ mc) (hn : b ≤ ms) : match X with | (_, _, _, R, _) => a ≤ R.cells ∧ b ≤ R.slots := by
  obtain ⟨p, l, e, R, s, m, args, below, meth, c, A, Q⟩ := X
  obtain ⟨-, -, -, rfl, -⟩ := he
  exact ⟨hk, hn⟩
variable {y : MethodName} {c1 : ByteArray} {nL1 d1 m1 s1 np idx : Nat} {vs : List Value} {P1 : va_W → Prop}
theorem Pk_blind {vs : List Value} : FrameBlind (va_Pc vs (Pk G o ws)) := fun a U g mk q => ⟨q.1, Xn.same (u := U) (U := U.calling g mk a) rfl q.2.1, q.2.2.1, q.2.2.2⟩
def rx_ (X : mt_X) (d1 nL1 a b : Nat) : Prop := match X with
  | (_, _, _, R, _) => d1 + 1 ≤ R.frames ∧ 8 + (nL1 + 11) + 64 * d1 ≤ R.locals ∧ a ≤ R.cells ∧ b ≤ R.slots
theorem rx_of (he : OKc G X d mc ms o Po) {a b : Nat} (hd : d1 < d) (hL : nL1 ≤ 45) (hk : a ≤ mc) (hn : b ≤ ms) : rx_ X d1 nL1 a b := by
  obtain ⟨p, l, e, R, s, m, args, below, meth, c, A, Q⟩ := X
  obtain ⟨-, -, -, rfl, -⟩ := he
  exact ⟨hd, by show 8 + (nL1 + 11) + 64 * d1 ≤ 64 * d; omega, hk, hn⟩
theorem nn_back {p : Program} {l : Launch} {e : Env} {R : Room} {s : State} {m : MethodId} {args : Array Value} {below : List Frame} {meth : Method} {c : Code} {A : Nat → Prop} {Q : State → Prop} {a : Array Value} {st0 : List Value} {H : Heap} {locs : List Loc} {ls : Array Slot} {T : State} (ho9 : o ≤ s.heap.size)
    (hS : va_S (Au o) s.heap H locs) (hL : lo_ ls lo) (hT : T.heap = H) (Z : Stand p l e R s m args below meth c T locs k n)
    (run : va_Run p l e R s m args below meth c H locs k n m1 s1 (F0 m pc ls st0) st (Qk G o P1 a) (Au o))
    (kk : ∀ ws', P1 ws' → NN G (p, l, e, R, s, m, args, below, meth, c, A, Q) o (k + m1) (n + s1) ws' (pc + 3) lo st) : ∃ t, Steps p.tables e below (T.setTop (F0 m pc ls st0)) t ∧ Q t := by
  obtain ⟨v, st₀, t, T', L, h0, X', hL', e1, e2, ⟨⟨hv, ws', hp, hb, hD'⟩, hz, hk⟩, stp⟩ := run T hT Z
  cases hv
  rw [h0] at hz hk
  obtain ⟨t2, a1, b1⟩ := kk ws' hp T'.heap (locs ++ L) ls (by rw [e1]; exact hb) hD'
    ⟨Nat.le_trans hS.1 (by rw [e1]; exact hz), fun q h1 h2 => by rw [e1, hk q (Nat.lt_of_lt_of_le h1 hS.1) h2]; exact hS.2.1 q h1 h2, fun q hq => by
      rcases List.mem_append.mp hq with h | h
      · exact hS.2.2 q h
      · exact hL' q h⟩ hL T' rfl X'
  exact ⟨t2, stp t2 a1, b1⟩
theorem nn_init (h : ON G X cc own nL o) {a : Nat} {st0 : List Value} (C : KC G X.2.1 y c1 nL1 d1 m1 s1 o (.ref a :: vs) ws P1) (w1 : Cond.methodLink own idx y ∈ mt_T) (w2 : Cond.instanceMethod y ∈ mt_T) (w3 : Cond.code y c1 nL1 none ∈ mt_T) (w4 : Cond.initialized y.cls ∈ mt_T) (hy : y.name = "<init>" ∧ (y.cls ≠ "java/lang/invoke/MethodHandle" ∧ y.cls ≠ "java/lang/invoke/VarHandle" ∧ (parseMethodDescriptor y.desc).map (fun d => d.parameters.length) = some np)) (hro : rx_ X d1 nL1 (k + m1) (n + s1)) (hlo : lo.length = nL) (hn : vs.length = np) (hst : st0 = vs.reverse ++ .ref a :: st) (hcat : (st.map fun v => v.category).sum ≤ 8) (dd : decode cc pc = .ok (.invokespecial idx, 3))
    (kk : ∀ ws', P1 ws' → NN G X o (k + m1) (n + s1) ws' (pc + 3) lo st) : NN G X o k n ws pc lo st0 := by
  obtain ⟨p, l, e, R, s, m, args, below, meth, c, A, Q⟩ := X
  subst hst
  intro H locs ls hP hD hS hL T hT Z
  obtain ⟨hx, hb, hml, ho, hts, hX, ho9, hF, hLc⟩ := h
  have hgd : ∀ w ∈ (Cond.code y c1 nL1 none :: mt_T), w ∈ mt_T := fun w hw => (List.mem_cons.mp hw).elim (fun q => by rw [q]; exact w3) id
  exact nn_back ho9 hS hL hT Z (va_runI (nL := nL) (Ts := mt_T) (own := own) (b := a) (As := vs) (n := np) ⟨hx, hb, hml, ho, hts⟩ C (cwI np hts (gd_ hgd) rfl rfl rfl (hts _ w4) (hts _ w1) (hts _ w2) hy.1 hy.2 ⟨hro.1, hro.2.1⟩)
    ⟨Pk_blind, fun U hU hW => ⟨rfl, Xn.warm hW hX, by rw [hU]; exact Nat.le_trans ho9 hS.1, by rw [hU]; exact hP, hD⟩⟩ rfl hn (hL.1.trans hlo) rfl (lv_room hcat) dd ⟨hro.2.2.1, hro.2.2.2⟩) kk
theorem nn_initN (h : ON G X cc own nL o) {a : Nat} {host : String} {st0 : List Value} (C : KC G X.2.1 y c1 nL1 d1 m1 s1 o (.ref a :: vs) ws P1) (w1 : Cond.methodLinkNest own idx y host ∈ mt_nest) (w2 : Cond.instanceMethod y ∈ mt_T) (w3 : Cond.code y c1 nL1 none ∈ mt_T) (w4 : Cond.initialized y.cls ∈ mt_T) (hy : y.name = "<init>" ∧ (y.cls ≠ "java/lang/invoke/MethodHandle" ∧ y.cls ≠ "java/lang/invoke/VarHandle" ∧ (parseMethodDescriptor y.desc).map (fun d => d.parameters.length) = some np)) (hro : rx_ X d1 nL1 (k + m1) (n + s1)) (hlo : lo.length = nL) (hn : vs.length = np) (hst : st0 = vs.reverse ++ .ref a :: st) (hcat : (st.map fun v => v.category).sum ≤ 8) (dd : decode cc pc = .ok (.invokespecial idx, 3))
    (kk : ∀ ws', P1 ws' → NN G X o (k + m1) (n + s1) ws' (pc + 3) lo st) : NN G X o k n ws pc lo st0 := by
  obtain ⟨p, l, e, R, s, m, args, below, meth, c, A, Q⟩ := X
  subst hst
  intro H locs ls hP hD hS hL T hT Z
  obtain ⟨hx, hb, hml, ho, hts, hX, ho9, hF, hLc⟩ := h
  have hgd : ∀ w ∈ (Cond.code y c1 nL1 none :: mt_T), w ∈ mt_T := fun w hw => (List.mem_cons.mp hw).elim (fun q => by rw [q]; exact w3) id
  exact nn_back ho9 hS hL hT Z (va_runIN (nL := nL) (Ts := mt_T) (own := own) (host := host) (b := a) (As := vs) (n := np) ⟨hx, hb, hml, ho, hts⟩ C ⟨va_cnB np hts (gd_ hgd) rfl rfl rfl (hX.2.2.2 _ w1) (hts _ w4) hy.2 ⟨hro.1, hro.2.1⟩, hy.1, hts _ w2⟩
    ⟨Pk_blind, fun U hU hW => ⟨rfl, Xn.warm hW hX, by rw [hU]; exact Nat.le_trans ho9 hS.1, by rw [hU]; exact hP, hD⟩⟩ rfl hn (hL.1.trans hlo) rfl (lv_room hcat) dd ⟨hro.2.2.1, hro.2.2.2⟩) kk
end NNCalls
