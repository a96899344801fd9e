/-! Rows for arrays of entities and fields, for literals, for static methods of other classes. -/
/-- the bytes of a literal -/
def vb (G : mt_G) (i : Nat) : Value := .ref (G.2.2.2.2 i)
def tx_ (i : Nat) : List Int := (mt_byt.getD i []).map (fun c => c.toInt)
theorem tx_len : ∀ i : Nat, i < 23 → (tx_ i).length = mt_len.getD i 0 := by decide +kernel
theorem tx_by : ∀ i : Nat, i < 23 → ∀ c ∈ tx_ i, 0 ≤ c ∧ c ≤ 127 := by decide +kernel
theorem tx_max : ∀ i : Nat, i < 23 → (tx_ i).length ≤ 64 := by decide +kernel
section JJ3
variable {G : mt_G} {X : mt_X} {cc : ByteArray} {own : String} {nL k n : Nat} {mem : mt_M} {pc : Nat} {lo : List (Option Value)} {st : List Value}
theorem jj_aE (h : OK G X cc own nL) {z : Int} (h0 : 0 ≤ z) (h1 : z < 16) (d : decode cc pc = .ok (.aaload, 1)) (kk : JJ G X k n mem (pc + 1) lo (vr G (22 + z.toNat) :: st)) : JJ G X k n mem pc lo (vi z :: vr G 21 :: st) :=
  jj_aaload (N := 16) (t0 := 2) (C := R_E) (q9 := 22 + z.toNat) h (by decide) rfl rfl (by decide) h0 (by omega) rfl d kk
theorem jj_aF (h : OK G X cc own nL) {N : Nat} {z : Int} (hN : N < 16) (h0 : 0 ≤ z) (h1 : z < 8) (d : decode cc pc = .ok (.aaload, 1)) (kk : JJ G X k n mem (pc + 1) lo (vr G (54 + 8 * N + z.toNat) :: st)) : JJ G X k n mem pc lo (vi z :: vr G (22 + N + 16) :: st) := by
  refine jj_aaload (N := 8) (t0 := 3) (C := R_F) (q9 := 54 + 8 * N + z.toNat) h (by unfold mt_N; omega) (ce_K (by omega)) rfl (by decide) h0 (by omega) ?_ d kk
  show some (G.1 (54 + 8 * (22 + N + 16 - 38) + z.toNat)) = _
  rw [show 22 + N + 16 - 38 = N by omega]
theorem jj_gV (h : OK G X cc own nL) {i idx : Nat} (hi : i < 23) (hl : Cond.fieldLink own idx "java/lang/String" "value" "[B" ∈ mt_T) (d : decode cc pc = .ok (.getfield idx, 3)) (kk : JJ G X k n mem (pc + 3) lo (vb G i :: st)) : JJ G X k n mem pc lo (vs G i :: st) := by
  obtain ⟨p, l, e, R, s, m, args, below, meth, c, A, Q⟩ := X
  intro H locs ls hP hS hL
  obtain ⟨hx, hb, hml, ho, hts, hK, hi9, hA, hN, hE⟩ := h
  exact vk_getf hx hb ((hE.2.2.1.1 i hi).2.2.1) hS ho (hts _ hl) (fun _ q => q) d (kk H locs ls hP hS hL)
theorem jj_gC (h : OK G X cc own nL) {i idx : Nat} (hi : i < 23) (hl : Cond.fieldLink own idx "java/lang/String" "coder" "B" ∈ mt_T) (d : decode cc pc = .ok (.getfield idx, 3)) (kk : JJ G X k n mem (pc + 3) lo (vi 0 :: st)) : JJ G X k n mem pc lo (vs G i :: st) := by
  obtain ⟨p, l, e, R, s, m, args, below, meth, c, A, Q⟩ := X
  intro H locs ls hP hS hL
  obtain ⟨hx, hb, hml, ho, hts, hK, hi9, hA, hN, hE⟩ := h
  exact vk_getf hx hb ((hE.2.2.1.1 i hi).2.1) hS ho (hts _ hl) (fun _ q => q) d (kk H locs ls hP hS hL)
theorem jj_gZ (h : OK G X cc own nL) {idx : Nat} (hl : Cond.fieldLink own idx "java/lang/String" "COMPACT_STRINGS" "Z" ∈ mt_T) (d : decode cc pc = .ok (.getstatic idx, 3)) (kk : JJ G X k n mem (pc + 3) lo (vi 1 :: st)) : JJ G X k n mem pc lo st := by
  obtain ⟨p, l, e, R, s, m, args, below, meth, c, A, Q⟩ := X
  intro H locs ls hP hS hL
  obtain ⟨hx, hb, hml, ho, hts, hK, hi9, hA, hN, hE⟩ := h
  exact va_gets hx hb hE.2.2.2.1 hS ho (hts _ hl) (fun _ q => q) d (kk H locs ls hP hS hL)
theorem jj_bal (h : OK G X cc own nL) {i : Nat} {z : Int} (hi : i < 23) (h0 : 0 ≤ z) (h1 : z < (tx_ i).length) (d : decode cc pc = .ok (.baload, 1)) (kk : JJ G X k n mem (pc + 1) lo (vi ((tx_ i).getD z.toNat 0) :: st)) : JJ G X k n mem pc lo (vi z :: vb G i :: st) := by
  obtain ⟨p, l, e, R, s, m, args, below, meth, c, A, Q⟩ := X
  intro H locs ls hP hS hL
  obtain ⟨hx, hb, hml, ho, hts, hK, hi9, hA, hN, hE⟩ := h
  have hm := tx_max i hi
  rw [tx_len i hi] at h1 hm
  obtain ⟨q1, q2⟩ := vp_in_z h0 h1 (by omega)
  refine va_tb hx hb ((hE.2.2.1.1 i hi).2.2.2) hS q1 (v := vi ((tx_ i).getD z.toNat 0)) ?_ d (kk H locs ls hP hS hL)
  show Value.int ((mt_byt.getD i []).getD (Int32.ofInt z).toNatClampNeg 0) = Value.int (Int32.ofInt (((mt_byt.getD i []).map (fun c => c.toInt)).getD z.toNat 0))
  generalize mt_byt.getD i [] = B
  rw [q2, List.getD_eq_getElem?_getD, List.getD_eq_getElem?_getD, List.getElem?_map]
  cases B[z.toNat]? with
  | none => rfl
  | some x => show Value.int x = Value.int (Int32.ofInt x.toInt); rw [Int32.ofInt_toInt]
theorem jj_alS (h : OK G X cc own nL) {i : Nat} (hi : i < 23) (d : decode cc pc = .ok (.arraylength, 1)) (kk : JJ G X k n mem (pc + 1) lo (vi ((tx_ i).length : Int) :: st)) : JJ G X k n mem pc lo (vb G i :: st) := by
  obtain ⟨p, l, e, R, s, m, args, below, meth, c, A, Q⟩ := X
  intro H locs ls hP hS hL
  obtain ⟨hx, hb, hml, ho, hts, hK, hi9, hA, hN, hE⟩ := h
  exact va_tlen hx hb ((hE.2.2.1.1 i hi).2.2.2) hS (by rw [← Int32.ofInt_eq_ofNat, ← tx_len i hi]) d (kk H locs ls hP hS hL)
theorem jj_aload_nN (h : OK G X cc own nL) {i : Fin 4} (d : decode cc pc = .ok (.aload_n i, 1)) (hl : lo[(i : Nat)]? = some (some .null)) (kk : JJ G X k n mem (pc + 1) lo (.null :: st)) : JJ G X k n mem pc lo (st) := by
  obtain ⟨p, l, e, R, s, m, args, below, meth, c, A, Q⟩ := X
  intro H locs ls hP hS hL
  exact lv_aload_nN h.1 h.2.1 d rfl (hL.2.2 _ _ hl) (kk H locs ls hP hS hL)
theorem jj_astore_nN (h : OK G X cc own nL) {i : Fin 4} (d : decode cc pc = .ok (.astore_n i, 1)) (hi : (i : Nat) < lo.length) (hk : lo_ok lo (i : Nat) = true) (kk : JJ G X k n mem (pc + 1) (lo.set (i : Nat) (some .null)) st) : JJ G X k n mem pc lo (.null :: st) := by
  obtain ⟨p, l, e, R, s, m, args, below, meth, c, A, Q⟩ := X
  intro H locs ls hP hS hL
  exact lv_astore_nN h.1 h.2.1 d rfl (lo_has hL) hi rfl (fun ls' h' => kk H locs ls' hP hS (lo_st1 hk ls' h'))
def b8_ (z : Int) : Int := if z < 128 then z else z - 256
theorem b8_i : ∀ n : Nat, n < 256 → (Int32.ofInt (n : Int)).toInt8.toInt32 = Int32.ofInt (b8_ (n : Int)) := by decide +kernel
theorem i2c_i : ∀ n : Nat, n < 256 → i2c_ (n : Int) = (n : Int) := by decide +kernel
theorem i2c_z {z : Int} (h0 : 0 ≤ z) (h1 : z < 256) : i2c_ z = z := by
  have := i2c_i z.toNat (by omega)
  rw [Int.toNat_of_nonneg h0] at this
  exact this
theorem jj_i2b (h : OK G X cc own nL) {z : Int} (h0 : 0 ≤ z) (h1 : z < 256) (d : decode cc pc = .ok (.i2b, 1)) (kk : JJ G X k n mem (pc + 1) lo (vi (b8_ z) :: st)) : JJ G X k n mem pc lo (vi z :: st) := by
  obtain ⟨p, l, e, R, s, m, args, below, meth, c, A, Q⟩ := X
  intro H locs ls hP hS hL
  have := b8_i z.toNat (by omega)
  rw [Int.toNat_of_nonneg h0] at this
  exact lv_i2b h.1 h.2.1 d this (kk H locs ls hP hS hL)
/-- a static that holds a reference or null -/
theorem jj_gF (h : OK G X cc own nL) {idx : Nat} (hl : Cond.fieldLink own idx "jdk/internal/util/Preconditions" "SIOOBE_FORMATTER" "Ljava/util/function/BiFunction;" ∈ mt_T) (d : decode cc pc = .ok (.getstatic idx, 3)) (kk : ∀ v : Value, (v = .null ∨ ∃ t, v = .ref t) → JJ G X k n mem (pc + 3) lo (v :: st)) : JJ G X k n mem pc lo st := by
  obtain ⟨p, l, e, R, s, m, args, below, meth, c, A, Q⟩ := X
  intro H locs ls hP hS hL
  obtain ⟨hx, hb, hml, ho, hts, hK, hi9, hA, hN, hE⟩ := h
  rcases hE.2.2.2.2.2.2.1 with hz | ⟨t, hz⟩
  · exact va_gets hx hb hz hS ho (hts _ hl) (fun _ q => q) d (kk _ (Or.inl rfl) H locs ls hP hS hL)
  · exact va_gets hx hb hz hS ho (hts _ hl) (fun _ q => q) d (kk _ (Or.inr ⟨t, rfl⟩) H locs ls hP hS hL)
theorem jj_bret {d : Nat} {P : Option Value → mt_M → Prop} (h : OK G X cc own nL) (he : OE G X (some .byte) d P) {z : Int} (hz : narrow .byte (vi z) = vi z) (hd : decode cc pc = .ok (.ireturn, 1)) (hp : P (some (vi z)) mem) : JJ G X 0 0 mem pc lo [vi z] := by
  obtain ⟨p, l, e, R, s, m, args, below, meth, c, A, Q⟩ := X
  intro H locs ls hP hS hL
  obtain ⟨rfl, hr, hlk, hR⟩ := he
  exact W.zret h.1 h.2.1 hr hz (fun t ht9 _ => ⟨⟨some (vi z), mem, rfl, hp, by rw [ht9]; exact hP⟩, hS.F ht9⟩) hS.2.2 hd hlk
variable {y : MethodName} {c1 : ByteArray} {nL1 d1 np idx : Nat} {ret : Option FieldType} {vs' : List Value} {P : Option Value → mt_M → Prop}
/-- a method of a literal -/
theorem jj_callK (h : OK G X cc own nL) {i : Nat} {st0 : List Value} (C : CT G X.2.1 y c1 nL1 ret d1 (vs G i :: vs') mem P) (hw : cV_ own idx y c1 nL1 ret np) (hro : ro_ X d1 nL1 k n) (hl : lo.length = nL) (hn : vs'.length = np) (hi : i < 23) (hy : y.cls = "java/lang/String") (hst : st0 = vs'.reverse ++ vs G i :: st) (hcat : (st.map fun v => v.category).sum ≤ 8) (d : decode cc pc = .ok (.invokevirtual idx, 3))
    (kk : ∀ (v : Option Value) (mem' : mt_M), P v mem' → JJ G X k n mem' (pc + 3) lo (v.toList ++ st)) : JJ G X k n mem pc lo st0 := by
  obtain ⟨p, l, e, R, s, m, args, below, meth, c, A, Q⟩ := X
  subst hst
  intro H locs ls hP hS hL T hT Z
  obtain ⟨hx, hb, hml, ho, hts, hK, hi9, hA, hN, hE⟩ := h
  exact jj_back hA hN hS hL hT Z (va_runV (nL := nL) (Ts := mt_T) (own := own) (C := y.cls) (b := G.2.2.2.1 i) (As := vs') (n := np) ⟨hx, hb, hml, ho, hts⟩ (C H.size) (cwV np hts (cV_good hw) rfl rfl rfl ⟨rfl, hw.2⟩ ⟨hro.1, hro.2.1⟩)
    ⟨Pw_blind, by rw [hy]; exact vq_.recv hE.2.2.1 hi hS, fun U hU hW => ⟨rfl, Pw_call hP hK hi9 hA hN hE hS hU hW⟩⟩ rfl hn (hL.1.trans hl) rfl (lv_room hcat) d ⟨hro.2.2.1, hro.2.2.2⟩) kk
/-- a static method of another class -/
def cO_ (own : String) (idx : Nat) (y : MethodName) (cc : ByteArray) (nL : Nat) (ret : Option FieldType) (n : Nat) : Prop := (∀ w ∈ ([.methodLink own idx y, .static y, .initialized y.cls, .code y cc nL ret] : List Cond), w ∈ mt_T) ∧ (y.cls ≠ "java/lang/invoke/MethodHandle" ∧ y.cls ≠ "java/lang/invoke/VarHandle" ∧ (parseMethodDescriptor y.desc).map (fun d => d.parameters.length) = some n)
theorem cO_good {own : String} {idx : Nat} {y : MethodName} {cc : ByteArray} {nL : Nat} {ret : Option FieldType} {n : Nat} (hw : cO_ own idx y cc nL ret n) : GoodIn mt_T (va_wsS own idx y (Cond.code y cc nL ret :: mt_T)) := by
  refine gd_ (fun w h => ?_)
  unfold va_wsS at h
  rcases List.mem_append.mp h with h | h
  · exact hw.1 w (List.mem_append_left [_] h)
  · rcases List.mem_cons.mp h with rfl | h
    · exact hw.1 _ (List.mem_append_right [_, _, _] (List.mem_singleton.mpr rfl))
    · exact h
theorem jj_callO (h : OK G X cc own nL) {st0 : List Value} (C : CT G X.2.1 y c1 nL1 ret d1 vs' mem P) (hw : cO_ own idx y c1 nL1 ret np) (hro : ro_ X d1 nL1 k n) (hl : lo.length = nL) (hn : vs'.length = np) (hst : st0 = vs'.reverse ++ st) (hcat : (st.map fun v => v.category).sum ≤ 8) (d : decode cc pc = .ok (.invokestatic idx, 3))
    (kk : ∀ (v : Option Value) (mem' : mt_M), P v mem' → JJ G X k n mem' (pc + 3) lo (v.toList ++ st)) : JJ G X k n mem pc lo st0 := by
  obtain ⟨p, l, e, R, s, m, args, below, meth, c, A, Q⟩ := X
  subst hst
  intro H locs ls hP hS hL T hT Z
  obtain ⟨hx, hb, hml, ho, hts, hK, hi9, hA, hN, hE⟩ := h
  exact jj_back hA hN hS hL hT Z (va_runS (nL := nL) (Ts := mt_T) (own := own) (As := vs') (n := np) ⟨hx, hb, hml, ho, hts⟩ (C H.size) (va_cwS np hts (cO_good hw) rfl rfl rfl hw.2 ⟨hro.1, hro.2.1⟩)
    ⟨Pw_blind, fun U hU hW => ⟨rfl, Pw_call hP hK hi9 hA hN hE hS hU hW⟩⟩ rfl hn (hL.1.trans hl) rfl (lv_room hcat) d ⟨hro.2.2.1, hro.2.2.2⟩) kk
end JJ3
