/-! Rows of the law's own body. -/
/-- what the law's body knows: its room, its end, the script -/
def OL (G : mt_G) (X : mt_X) (b N : Nat) (xs : Nat → Int32) : Prop := match X with
  | (_, l, _, R, s, _, args, below, meth, _, A, Q) => R = room_1 ∧ A = (fun q => s.heap.size ≤ q) ∧ Q = lw_Z below args s ∧ args = #[Value.ref b] ∧ va_X b N xs s s.heap ∧ b < s.heap.size ∧ meth.sig.returnType = ret ∧ meth.locks = false ∧ l.stackTraces = false
def sq9_ (xs : Nat → Int32) (z : Int) : Int := (xs z.toNat).toInt
theorem sq9_r (xs : Nat → Int32) (z : Int) : r32 (sq9_ xs z) := ⟨Int32.le_toInt _, by have := Int32.toInt_lt (xs z.toNat); unfold sq9_; omega⟩
section JJLaw
variable {G : mt_G} {X : mt_X} {cc : ByteArray} {own : String} {nL k n b N : Nat} {xs : Nat → Int32} {mem : mt_M} {pc : Nat} {lo : List (Option Value)} {st : List Value}
theorem ol_l (he : OL G X b N xs) : X.2.1.stackTraces = false := by
  obtain ⟨p, l, e, R, s, m, args, below, meth, c, A, Q⟩ := X
  exact he.2.2.2.2.2.2.2.2
theorem ro_oL (he : OL G X b N xs) {d1 nL1 : Nat} (hd : d1 ≤ 100) (hL : nL1 ≤ 45) (hk : k ≤ 601024) (hn : n ≤ 7293034) : ro_ X d1 nL1 k n := by
  obtain ⟨p, l, e, R, s, m, args, below, meth, c, A, Q⟩ := X
  obtain ⟨rfl, -⟩ := he
  exact ⟨by show d1 + 1 ≤ 2048; omega, by show 8 + (nL1 + 11) + 64 * d1 ≤ 84000; omega, hk, hn⟩
theorem jj_sc (h : OK G X cc own nL) (he : OL G X b N xs) (hN : N ≤ 2560) {z : Int} (h0 : 0 ≤ z) (h1 : z < N) (d : decode cc pc = .ok (.iaload, 1)) (kk : JJ G X k n mem (pc + 1) lo (vi (sq9_ xs z) :: st)) : JJ G X k n mem pc lo (vi z :: .ref b :: st) := by
  obtain ⟨p, l, e, R, s, m, args, below, meth, c, A, Q⟩ := X
  obtain ⟨rfl, rfl, rfl, rfl, hX, hbl, -, -, -⟩ := he
  intro H locs ls hP hS hL
  obtain ⟨q1, q2⟩ := vp_in_z h0 h1 (by omega)
  have q := kk H locs ls hP hS hL
  refine va_sld h.1 h.2.1 hX hbl (by intro z; exact absurd hbl (Nat.not_lt.mpr z)) hS q1 d ?_
  rw [q2]
  unfold vi sq9_ at q
  rw [Int32.ofInt_toInt] at q
  exact q
theorem jj_scl (h : OK G X cc own nL) (he : OL G X b N xs) (d : decode cc pc = .ok (.arraylength, 1)) (kk : JJ G X k n mem (pc + 1) lo (vi (N : Int) :: st)) : JJ G X k n mem pc lo (.ref b :: st) := by
  obtain ⟨p, l, e, R, s, m, args, below, meth, c, A, Q⟩ := X
  obtain ⟨rfl, rfl, rfl, rfl, hX, hbl, -, -, -⟩ := he
  intro H locs ls hP hS hL
  have q := kk H locs ls hP hS hL
  unfold vi at q
  rw [Int32.ofInt_eq_ofNat] at q
  exact va_slen h.1 h.2.1 hX hbl (by intro z; exact absurd hbl (Nat.not_lt.mpr z)) hS d q
/-- the law's end -/
theorem jj_lend (h : OK G X c_L_law own nL) (he : OL G X b N xs) (hk : k ≤ 601024) (hn : n ≤ 7293034) (d : decode c_L_law pc = .ok (.ireturn, 1)) : JJ G X k n mem pc lo [vi 1] := by
  obtain ⟨p, l, e, R, s, m, args, below, meth, c, A, Q⟩ := X
  obtain ⟨rfl, rfl, rfl, rfl, hX, hbl, hr, hlk, -⟩ := he
  intro H locs ls hP hS hL T hT Z
  have Z2 : Stand p l e room_1 s m #[Value.ref b] below meth c T ([] ++ locs) 601024 7293034 := { Z with same := Z.same.mono hk hn }
  exact lw_ret h.1 h.2.1 hr hlk d T hT (Z2.forget (fun y hy => hS.2.2 y hy))
variable {y : MethodName} {c1 : ByteArray} {nL1 d1 np idx : Nat} {vs : List Value} {hh : List (Nat × Nat × Nat × Nat)} {P : Option Value → mt_M → Prop}
/-- a call of one of the law's helpers -/
theorem jj_callW (h : OK G X cc own nL) {st0 : List Value} (C : CW G X.2.1 y c1 nL1 hh d1 vs mem P) (w1 : Cond.methodLink own idx y ∈ mt_T) (w2 : Cond.static y ∈ mt_T) (w3 : Cond.codeWith y c1 nL1 (some .int) hh ∈ mt_T) (w4 : Cond.initialized y.cls ∈ mt_T) (hy : (y.cls ≠ "java/lang/invoke/MethodHandle" ∧ y.cls ≠ "java/lang/invoke/VarHandle") ∧ (parseMethodDescriptor y.desc).map (fun d => d.parameters.length) = some np) (hro : ro_ X d1 nL1 (k + 1) (n + 6)) (hl : lo.length = nL) (hn : vs.length = np) (hst : st0 = vs.reverse ++ st) (hcat : (st.map fun v => v.category).sum ≤ 8) (d : decode cc pc = .ok (.invokestatic idx, 3))
    (kk : ∀ (v : Option Value) (mem' : mt_M), P v mem' → JJ G X (k + 1) (n + 6) mem' (pc + 3) lo (v.toList ++ st)) : JJ G X k n mem pc lo st0 := by
  obtain ⟨p, l, e, R, s, m, args, below, meth, c, A, Q⟩ := X
  subst hst
  intro H locs ls hP hS hL T hT Z
  obtain ⟨hx, hb, hml, ho, hts, hK, hi, hA, hN, hE⟩ := h
  have hgd : ∀ w ∈ (Cond.codeWith y c1 nL1 (some .int) hh :: mt_T), w ∈ mt_T := fun w hw => (List.mem_cons.mp hw).elim (fun q => by rw [q]; exact w3) id
  have hK9 : Back l R p e below s args y 3 8 (PreOf R 1 6 (va_Pc vs (Pw_ G mem H.size))) (PostOf (Qc_ G P (As_ G H.size)) 1 6 (As_ G H.size)) :=
    va_backW (C H.size) Pw_blind rfl rfl hro.1 hro.2.1 (fun w hw a' U hW => word_at hW (good_of_word (List.mem_filter.mp (hgd w hw)).2) (hts w (hgd w hw))) List.mem_cons_self (fun a' U hW => word_at hW (Or.inl rfl) (hts _ w4))
  obtain ⟨mk, methM, cM, hnm, hmM, -, -, -, -, -, -, hsig⟩ := Cond.codeWith_spec (hts _ w3)
  have hstat : methM.isStatic = true := Cond.static_spec hnm hmM (hts _ w2)
  obtain ⟨kP, hkP, -⟩ := className_of_methodNamed hnm
  have hinit : kP.init = .initialized := Cond.initialized_spec (findClass_of_methodNamed hnm) hkP (hts _ w4)
  have hlen : vs.length = methM.sig.parameters.length := by
    have q := hy.2
    rw [hsig] at q
    exact hn.trans (Option.some.inj q).symm
  obtain ⟨vm₁, X₁, s1⟩ := Z.invokestatic hx ho (hts _ w1) hnm hmM hstat hkP hinit hy.1 (g := F0 m pc ls (vs.reverse ++ st)) rfl (argsL := vs) (rest := st) hlen rfl (by rw [hb]; exact d)
  obtain ⟨v, ⟨U', l2, c2, s2⟩, X', ⟨g', mk', t, L, e1, e2, hq, q1, hL', q2, q3⟩, s3⟩ := hK9 m meth c ⟨T.setVm vm₁, locs, k, n⟩ (F0 m pc ls st) (.invokestatic idx) mk vs.toArray X₁ rfl ((hL.1.trans hl).trans hml.symm) (by rw [hb]; exact d) (lv_room hcat) (X₁.named hnm) ⟨hro.2.2.1, hro.2.2.2, rfl, Pw_call hP hK hi hA hN hE hS hT X₁.warmed⟩
  dsimp only [Pt.U, Pt.locs, Pt.cells, Pt.slots] at X' e1 e2 q1 q2 q3 s3
  subst q1; subst q2; subst q3
  have hin := As_in hA hN hS
  obtain ⟨⟨v', mem', hv, hp, hb9⟩, hz, hk9⟩ := hq
  cases hv
  have h0 : ((T.setVm vm₁).calling g' mk' vs.toArray).heap = H := hT
  rw [h0] at hz hk9
  obtain ⟨t2, a1, b1⟩ := kk v mem' hp U'.heap (locs ++ L) ls (by rw [e1]; exact hb9)
    ⟨Nat.le_trans hS.1 (by rw [e1]; exact hz), fun q h1 h2 => by rw [e1, hk9 q (Nat.lt_of_lt_of_le h1 hS.1) (fun z => h2 (hin q z))]; exact hS.2.1 q h1 h2, fun q hq => by
      rcases List.mem_append.mp hq with h | h
      · exact hS.2.2 q h
      · exact hin _ (hL' q h)⟩ hL U' rfl X'
  exact ⟨t2, s1 _ fun acts => by rw [doInvoke_state]; exact s3.trans a1, b1⟩
end JJLaw
