/-! Rows of the judgement JJ: an instruction each. -/
abbrev mt_X : Type := Program × Launch × Env × Room × State × MethodId × Array Value × List Frame × Method × Code × (Nat → Prop) × (State → Prop)
def JJ (G : mt_G) (X : mt_X) (k n : Nat) (mem : mt_M) (pc : Nat) (lo : List (Option Value)) (st : List Value) : Prop := match X with
  | (p, l, e, R, s, m, args, below, meth, c, A, Q) => ∀ (H : Heap) (locs : List Loc) (ls : Array Slot), va_P G.2.1 vwCl (wd G mem) H → va_S A s.heap H locs → lo_ ls lo → W p l e R s m args below meth c H locs k n Q (F0 m pc ls st)
def OK (G : mt_G) (X : mt_X) (cc : ByteArray) (own : String) (nL : Nat) : Prop := match X with
  | (p, _, _, _, s, m, args, _, _, c, A, _) => p.tables.exec = Jvm.exec ∧ c.code = cc ∧ c.maxLocals = nL ∧ s.vm.findClass own = some m.cls ∧ (∀ w ∈ mt_T, w.before args s = true) ∧ va_K G.2.1 vwCl (ty_ G) s ∧ in_ G ∧ (∀ r, r < mt_N → A (G.1 r)) ∧ (∀ q : Nat, s.heap.size ≤ q → A q) ∧ Ex_ G A s s.heap
abbrev r32 (z : Int) : Prop := -2147483648 ≤ z ∧ z ≤ 2147483647
theorem r32_to {z : Int} (h : r32 z) : (Int32.ofInt z).toInt = z := Int32.toInt_ofInt_of_le (by have := h.1; omega) (by have := h.2; omega)
theorem r32_lt {x y : Int} (hx : r32 x) (hy : r32 y) : Int32.ofInt x < Int32.ofInt y ↔ x < y := by rw [Int32.lt_iff_toInt_lt, r32_to hx, r32_to hy]
theorem r32_le {x y : Int} (hx : r32 x) (hy : r32 y) : Int32.ofInt x ≤ Int32.ofInt y ↔ x ≤ y := by rw [Int32.le_iff_toInt_le, r32_to hx, r32_to hy]
theorem r32_eq {x y : Int} (hx : r32 x) (hy : r32 y) : Int32.ofInt x = Int32.ofInt y ↔ x = y := by rw [← Int32.toInt_inj, r32_to hx, r32_to hy]
theorem r32_0 : r32 0 := ⟨by decide, by decide⟩
/-- operations that are no ring's -/
def iand_ (x y : Int) : Int := (Int32.ofInt x &&& Int32.ofInt y).toInt
def ior_ (x y : Int) : Int := (Int32.ofInt x ||| Int32.ofInt y).toInt
def ishl_ (x y : Int) : Int := (Int32.ofInt x <<< (Int32.ofInt y &&& 31)).toInt
def ishr_ (x y : Int) : Int := (Int32.ofInt x >>> (Int32.ofInt y &&& 31)).toInt
def irem_ (x y : Int) : Int := (Int32.ofInt x - Int32.ofInt x / Int32.ofInt y * Int32.ofInt y).toInt
def i2c_ (x : Int) : Int := ((Int32.ofInt x).toUInt32 % 65536).toInt32.toInt
def i2l_ (x : Int) : Int := (Int32.ofInt x).toInt
def l2i_ (x : Int) : Int := (Int64.ofInt x).toInt32.toInt
def land_ (x y : Int) : Int := (Int64.ofInt x &&& Int64.ofInt y).toInt
def lor_ (x y : Int) : Int := (Int64.ofInt x ||| Int64.ofInt y).toInt
def lshl_ (x y : Int) : Int := (Int64.ofInt x <<< ((Int32.ofInt y).toInt64 &&& 63)).toInt
def lshr_ (x y : Int) : Int := (Int64.ofInt x >>> ((Int32.ofInt y).toInt64 &&& 63)).toInt
def lushr_ (x y : Int) : Int := ((Int64.ofInt x).toUInt64 >>> ((Int32.ofInt y).toInt64.toUInt64 &&& Int64.toUInt64 63)).toInt64.toInt
section JJRows
variable {G : mt_G} {X : mt_X} {cc : ByteArray} {own : String} {nL k n : Nat} {mem : mt_M} {pc : Nat} {lo : List (Option Value)} {st : List Value}
theorem jj_iconst (h : OK G X cc own nL) {z : Int} (d : decode cc pc = .ok (.iconst z, 1)) (kk : JJ G X k n mem (pc + 1) lo (vi z :: st)) : JJ G X k n mem pc lo (st) := by
  obtain ⟨p, l, e, R, s, m, args, below, meth, c, A, Q⟩ := X
  intro H locs ls hP hS hL
  exact lv_iconst h.1 h.2.1 d rfl (kk H locs ls hP hS hL)
theorem jj_bipush (h : OK G X cc own nL) {z : Int} (d : decode cc pc = .ok (.bipush z, 2)) (hv : (Int8.ofInt z).toInt32 = Int32.ofInt z) (kk : JJ G X k n mem (pc + 2) lo (vi z :: st)) : JJ G X k n mem pc lo (st) := by
  obtain ⟨p, l, e, R, s, m, args, below, meth, c, A, Q⟩ := X
  intro H locs ls hP hS hL
  exact lv_bipush h.1 h.2.1 d hv (kk H locs ls hP hS hL)
theorem jj_sipush (h : OK G X cc own nL) {z : Int} (d : decode cc pc = .ok (.sipush z, 3)) (hv : (Int16.ofInt z).toInt32 = Int32.ofInt z) (kk : JJ G X k n mem (pc + 3) lo (vi z :: st)) : JJ G X k n mem pc lo (st) := by
  obtain ⟨p, l, e, R, s, m, args, below, meth, c, A, Q⟩ := X
  intro H locs ls hP hS hL
  exact lv_sipush h.1 h.2.1 d hv (kk H locs ls hP hS hL)
theorem jj_lconst0 (h : OK G X cc own nL) (d : decode cc pc = .ok (.lconst 0, 1)) (kk : JJ G X k n mem (pc + 1) lo (vl 0 :: st)) : JJ G X k n mem pc lo (st) := by
  obtain ⟨p, l, e, R, s, m, args, below, meth, c, A, Q⟩ := X
  intro H locs ls hP hS hL
  exact lv_lconst h.1 h.2.1 d rfl (kk H locs ls hP hS hL)
theorem jj_ldc (h : OK G X cc own nL) {i : Nat} (z : Int) (d : decode cc pc = .ok (.ldc i, 2)) (hw : Cond.constant own i (Int32.ofInt z) ∈ mt_T) (kk : JJ G X k n mem (pc + 2) lo (vi z :: st)) : JJ G X k n mem pc lo (st) := by
  obtain ⟨p, l, e, R, s, m, args, below, meth, c, A, Q⟩ := X
  intro H locs ls hP hS hL
  exact lv_ldc h.1 h.2.1 h.2.2.2.1 (h.2.2.2.2.1 _ hw) d (kk H locs ls hP hS hL)
theorem jj_ldc2 (h : OK G X cc own nL) {i : Nat} (z : Int) (d : decode cc pc = .ok (.ldc2_w i, 3)) (hw : Cond.constantLong own i (Int64.ofInt z) ∈ mt_T) (kk : JJ G X k n mem (pc + 3) lo (vl z :: st)) : JJ G X k n mem pc lo (st) := by
  obtain ⟨p, l, e, R, s, m, args, below, meth, c, A, Q⟩ := X
  intro H locs ls hP hS hL
  exact lv_ldc2 h.1 h.2.1 h.2.2.2.1 (h.2.2.2.2.1 _ hw) d (kk H locs ls hP hS hL)
theorem jj_iload_n (h : OK G X cc own nL) {i : Fin 4} {z : Int} (d : decode cc pc = .ok (.iload_n i, 1)) (hl : lo[(i : Nat)]? = some (some (vi z))) (kk : JJ G X k n mem (pc + 1) lo (vi z :: st)) : JJ G X k n mem pc lo (st) := by
  obtain ⟨p, l, e, R, s, m, args, below, meth, c, A, Q⟩ := X
  intro H locs ls hP hS hL
  exact lv_iload_n h.1 h.2.1 d rfl (hL.2.2 _ _ hl) (kk H locs ls hP hS hL)
theorem jj_iload (h : OK G X cc own nL) {i : Nat} {z : Int} (d : decode cc pc = .ok (.iload i, 2)) (hl : lo[i]? = some (some (vi z))) (kk : JJ G X k n mem (pc + 2) lo (vi z :: st)) : JJ G X k n mem pc lo (st) := by
  obtain ⟨p, l, e, R, s, m, args, below, meth, c, A, Q⟩ := X
  intro H locs ls hP hS hL
  exact lv_iload h.1 h.2.1 d (hL.2.2 _ _ hl) (kk H locs ls hP hS hL)
theorem jj_lload_n (h : OK G X cc own nL) {i : Fin 4} {z : Int} (d : decode cc pc = .ok (.lload_n i, 1)) (hl : lo[(i : Nat)]? = some (some (vl z))) (kk : JJ G X k n mem (pc + 1) lo (vl z :: st)) : JJ G X k n mem pc lo (st) := by
  obtain ⟨p, l, e, R, s, m, args, below, meth, c, A, Q⟩ := X
  intro H locs ls hP hS hL
  exact lv_lload_n h.1 h.2.1 d rfl (hL.2.2 _ _ hl) (kk H locs ls hP hS hL)
theorem jj_lload (h : OK G X cc own nL) {i : Nat} {z : Int} (d : decode cc pc = .ok (.lload i, 2)) (hl : lo[i]? = some (some (vl z))) (kk : JJ G X k n mem (pc + 2) lo (vl z :: st)) : JJ G X k n mem pc lo (st) := by
  obtain ⟨p, l, e, R, s, m, args, below, meth, c, A, Q⟩ := X
  intro H locs ls hP hS hL
  exact lv_lload h.1 h.2.1 d (hL.2.2 _ _ hl) (kk H locs ls hP hS hL)
theorem jj_aload_n (h : OK G X cc own nL) {i : Fin 4} {v : Value} (d : decode cc pc = .ok (.aload_n i, 1)) (hl : lo[(i : Nat)]? = some (some v)) (hv : ∃ x, v = .ref x) (kk : JJ G X k n mem (pc + 1) lo (v :: st)) : JJ G X k n mem pc lo (st) := by
  obtain ⟨p, l, e, R, s, m, args, below, meth, c, A, Q⟩ := X
  intro H locs ls hP hS hL
  obtain ⟨x, rfl⟩ := hv
  exact lv_aload_n h.1 h.2.1 d rfl (hL.2.2 _ _ hl) (kk H locs ls hP hS hL)
theorem jj_aload (h : OK G X cc own nL) {i : Nat} {v : Value} (d : decode cc pc = .ok (.aload i, 2)) (hl : lo[i]? = some (some v)) (hv : ∃ x, v = .ref x) (kk : JJ G X k n mem (pc + 2) lo (v :: st)) : JJ G X k n mem pc lo (st) := by
  obtain ⟨p, l, e, R, s, m, args, below, meth, c, A, Q⟩ := X
  intro H locs ls hP hS hL
  obtain ⟨x, rfl⟩ := hv
  exact lv_aload h.1 h.2.1 d (hL.2.2 _ _ hl) (kk H locs ls hP hS hL)
theorem jj_istore_n (h : OK G X cc own nL) {i : Fin 4} {z : Int} (d : decode cc pc = .ok (.istore_n i, 1)) (hi : (i : Nat) < lo.length) (hk : lo_ok lo (i : Nat) = true) (kk : JJ G X k n mem (pc + 1) (lo.set (i : Nat) (some (vi z))) st) : JJ G X k n mem pc lo (vi z :: st) := by
  obtain ⟨p, l, e, R, s, m, args, below, meth, c, A, Q⟩ := X
  intro H locs ls hP hS hL
  exact lv_istore_n h.1 h.2.1 d rfl (lo_has hL) hi rfl (fun ls' h' => kk H locs ls' hP hS (lo_st1 hk ls' h'))
theorem jj_istore (h : OK G X cc own nL) {i : Nat} {z : Int} (d : decode cc pc = .ok (.istore i, 2)) (hi : i < lo.length) (hk : lo_ok lo i = true) (kk : JJ G X k n mem (pc + 2) (lo.set i (some (vi z))) st) : JJ G X k n mem pc lo (vi z :: st) := by
  obtain ⟨p, l, e, R, s, m, args, below, meth, c, A, Q⟩ := X
  intro H locs ls hP hS hL
  exact lv_istore h.1 h.2.1 d (lo_has hL) hi rfl (fun ls' h' => kk H locs ls' hP hS (lo_st1 hk ls' h'))
theorem jj_astore_n (h : OK G X cc own nL) {i : Fin 4} {v : Value} (d : decode cc pc = .ok (.astore_n i, 1)) (hv : ∃ x, v = .ref x) (hi : (i : Nat) < lo.length) (hk : lo_ok lo (i : Nat) = true) (kk : JJ G X k n mem (pc + 1) (lo.set (i : Nat) (some v)) st) : JJ G X k n mem pc lo (v :: st) := by
  obtain ⟨p, l, e, R, s, m, args, below, meth, c, A, Q⟩ := X
  intro H locs ls hP hS hL
  obtain ⟨x, rfl⟩ := hv
  exact lv_astore_n h.1 h.2.1 d rfl (lo_has hL) hi rfl (fun ls' h' => kk H locs ls' hP hS (lo_st1 hk ls' h'))
theorem jj_astore (h : OK G X cc own nL) {i : Nat} {v : Value} (d : decode cc pc = .ok (.astore i, 2)) (hv : ∃ x, v = .ref x) (hi : i < lo.length) (hk : lo_ok lo i = true) (kk : JJ G X k n mem (pc + 2) (lo.set i (some v)) st) : JJ G X k n mem pc lo (v :: st) := by
  obtain ⟨p, l, e, R, s, m, args, below, meth, c, A, Q⟩ := X
  intro H locs ls hP hS hL
  obtain ⟨x, rfl⟩ := hv
  exact lv_astore h.1 h.2.1 d (lo_has hL) hi rfl (fun ls' h' => kk H locs ls' hP hS (lo_st1 hk ls' h'))
theorem jj_lstore (h : OK G X cc own nL) {i : Nat} {z : Int} (d : decode cc pc = .ok (.lstore i, 2)) (hi : i + 1 < lo.length) (hk : lo_ok lo i = true) (kk : JJ G X k n mem (pc + 2) ((lo.set (i + 1) none).set i (some (vl z))) st) : JJ G X k n mem pc lo (vl z :: st) := by
  obtain ⟨p, l, e, R, s, m, args, below, meth, c, A, Q⟩ := X
  intro H locs ls hP hS hL
  exact lv_lstore h.1 h.2.1 d (lo_has hL) hi rfl (fun ls' h' => kk H locs ls' hP hS (lo_st2 hk ls' h'))
theorem jj_iinc (h : OK G X cc own nL) {i : Nat} {z w : Int} (d : decode cc pc = .ok (.iinc i w, 3)) (hl : lo[i]? = some (some (vi z))) (hk : lo_ok lo i = true) (kk : JJ G X k n mem (pc + 3) (lo.set i (some (vi (z + w)))) st) : JJ G X k n mem pc lo st := by
  obtain ⟨p, l, e, R, s, m, args, below, meth, c, A, Q⟩ := X
  intro H locs ls hP hS hL
  have hm := lo_l_mem.mpr hl
  obtain ⟨j, hj⟩ := List.getElem?_of_mem hm
  refine lv_iinc (v := Int32.ofInt (z + w)) h.1 h.2.1 d (lo_has hL) hj (by rw [Int32.ofInt_add]) (List.getElem?_eq_some_iff.mp hl).1 rfl (fun ls' h' => kk H locs ls' hP hS (lo_st1 hk ls' h'))
theorem jj_iadd (h : OK G X cc own nL) {x y : Int} (d : decode cc pc = .ok (.iadd, 1)) (kk : JJ G X k n mem (pc + 1) lo (vi (x + y) :: st)) : JJ G X k n mem pc lo (vi y :: vi x :: st) := by
  obtain ⟨p, l, e, R, s, m, args, below, meth, c, A, Q⟩ := X
  intro H locs ls hP hS hL
  have q := (kk H locs ls hP hS hL)
  unfold vi at q
  rw [Int32.ofInt_add] at q
  exact lv_iadd h.1 h.2.1 d q
theorem jj_isub (h : OK G X cc own nL) {x y : Int} (d : decode cc pc = .ok (.isub, 1)) (kk : JJ G X k n mem (pc + 1) lo (vi (x - y) :: st)) : JJ G X k n mem pc lo (vi y :: vi x :: st) := by
  obtain ⟨p, l, e, R, s, m, args, below, meth, c, A, Q⟩ := X
  intro H locs ls hP hS hL
  have q := (kk H locs ls hP hS hL)
  unfold vi at q
  rw [Int32.ofInt_sub] at q
  exact lv_isub h.1 h.2.1 d q
theorem jj_imul (h : OK G X cc own nL) {x y : Int} (d : decode cc pc = .ok (.imul, 1)) (kk : JJ G X k n mem (pc + 1) lo (vi (x * y) :: st)) : JJ G X k n mem pc lo (vi y :: vi x :: st) := by
  obtain ⟨p, l, e, R, s, m, args, below, meth, c, A, Q⟩ := X
  intro H locs ls hP hS hL
  have q := (kk H locs ls hP hS hL)
  unfold vi at q
  rw [Int32.ofInt_mul] at q
  exact lv_imul h.1 h.2.1 d q
theorem jj_iand (h : OK G X cc own nL) {x y : Int} (d : decode cc pc = .ok (.iand, 1)) (kk : JJ G X k n mem (pc + 1) lo (vi (iand_ x y) :: st)) : JJ G X k n mem pc lo (vi y :: vi x :: st) := by
  obtain ⟨p, l, e, R, s, m, args, below, meth, c, A, Q⟩ := X
  intro H locs ls hP hS hL
  have q := (kk H locs ls hP hS hL)
  unfold vi iand_ at q
  rw [Int32.ofInt_toInt] at q
  exact lv_iand h.1 h.2.1 d q
theorem jj_ior (h : OK G X cc own nL) {x y : Int} (d : decode cc pc = .ok (.ior, 1)) (kk : JJ G X k n mem (pc + 1) lo (vi (ior_ x y) :: st)) : JJ G X k n mem pc lo (vi y :: vi x :: st) := by
  obtain ⟨p, l, e, R, s, m, args, below, meth, c, A, Q⟩ := X
  intro H locs ls hP hS hL
  have q := (kk H locs ls hP hS hL)
  unfold vi ior_ at q
  rw [Int32.ofInt_toInt] at q
  exact lv_ior h.1 h.2.1 d q
theorem jj_ishl (h : OK G X cc own nL) {x y : Int} (d : decode cc pc = .ok (.ishl, 1)) (kk : JJ G X k n mem (pc + 1) lo (vi (ishl_ x y) :: st)) : JJ G X k n mem pc lo (vi y :: vi x :: st) := by
  obtain ⟨p, l, e, R, s, m, args, below, meth, c, A, Q⟩ := X
  intro H locs ls hP hS hL
  have q := (kk H locs ls hP hS hL)
  unfold vi ishl_ at q
  rw [Int32.ofInt_toInt] at q
  exact lv_ishl h.1 h.2.1 d q
theorem jj_ishr (h : OK G X cc own nL) {x y : Int} (d : decode cc pc = .ok (.ishr, 1)) (kk : JJ G X k n mem (pc + 1) lo (vi (ishr_ x y) :: st)) : JJ G X k n mem pc lo (vi y :: vi x :: st) := by
  obtain ⟨p, l, e, R, s, m, args, below, meth, c, A, Q⟩ := X
  intro H locs ls hP hS hL
  have q := (kk H locs ls hP hS hL)
  unfold vi ishr_ at q
  rw [Int32.ofInt_toInt] at q
  exact lv_ishr h.1 h.2.1 d q
theorem jj_irem (h : OK G X cc own nL) {x y : Int} (d : decode cc pc = .ok (.irem, 1)) (hy : ¬ Int32.ofInt y = 0) (kk : JJ G X k n mem (pc + 1) lo (vi (irem_ x y) :: st)) : JJ G X k n mem pc lo (vi y :: vi x :: st) := by
  obtain ⟨p, l, e, R, s, m, args, below, meth, c, A, Q⟩ := X
  intro H locs ls hP hS hL
  have q := (kk H locs ls hP hS hL)
  unfold vi irem_ at q
  rw [Int32.ofInt_toInt] at q
  exact lv_irem h.1 h.2.1 d hy q
theorem jj_i2c (h : OK G X cc own nL) {x : Int} (d : decode cc pc = .ok (.i2c, 1)) (kk : JJ G X k n mem (pc + 1) lo (vi (i2c_ x) :: st)) : JJ G X k n mem pc lo (vi x :: st) := by
  obtain ⟨p, l, e, R, s, m, args, below, meth, c, A, Q⟩ := X
  intro H locs ls hP hS hL
  have q := (kk H locs ls hP hS hL)
  unfold vi i2c_ at q
  rw [Int32.ofInt_toInt] at q
  exact lv_i2c h.1 h.2.1 d rfl q
theorem jj_i2l (h : OK G X cc own nL) {x : Int} (d : decode cc pc = .ok (.i2l, 1)) (kk : JJ G X k n mem (pc + 1) lo (vl (i2l_ x) :: st)) : JJ G X k n mem pc lo (vi x :: st) := by
  obtain ⟨p, l, e, R, s, m, args, below, meth, c, A, Q⟩ := X
  intro H locs ls hP hS hL
  have q := (kk H locs ls hP hS hL)
  unfold vl i2l_ at q
  exact lv_i2l h.1 h.2.1 d (by rw [← Int32.toInt_toInt64, Int64.ofInt_toInt]) q
theorem jj_l2i (h : OK G X cc own nL) {x : Int} (d : decode cc pc = .ok (.l2i, 1)) (kk : JJ G X k n mem (pc + 1) lo (vi (l2i_ x) :: st)) : JJ G X k n mem pc lo (vl x :: st) := by
  obtain ⟨p, l, e, R, s, m, args, below, meth, c, A, Q⟩ := X
  intro H locs ls hP hS hL
  have q := (kk H locs ls hP hS hL)
  unfold vi l2i_ at q
  rw [Int32.ofInt_toInt] at q
  exact lv_l2i h.1 h.2.1 d rfl q
theorem jj_land (h : OK G X cc own nL) {x y : Int} (d : decode cc pc = .ok (.land, 1)) (kk : JJ G X k n mem (pc + 1) lo (vl (land_ x y) :: st)) : JJ G X k n mem pc lo (vl y :: vl x :: st) := by
  obtain ⟨p, l, e, R, s, m, args, below, meth, c, A, Q⟩ := X
  intro H locs ls hP hS hL
  have q := (kk H locs ls hP hS hL)
  unfold vl land_ at q
  rw [Int64.ofInt_toInt] at q
  exact lv_land h.1 h.2.1 d q
theorem jj_lor (h : OK G X cc own nL) {x y : Int} (d : decode cc pc = .ok (.lor, 1)) (kk : JJ G X k n mem (pc + 1) lo (vl (lor_ x y) :: st)) : JJ G X k n mem pc lo (vl y :: vl x :: st) := by
  obtain ⟨p, l, e, R, s, m, args, below, meth, c, A, Q⟩ := X
  intro H locs ls hP hS hL
  have q := (kk H locs ls hP hS hL)
  unfold vl lor_ at q
  rw [Int64.ofInt_toInt] at q
  exact lv_lor h.1 h.2.1 d q
theorem jj_lshl (h : OK G X cc own nL) {x y : Int} (d : decode cc pc = .ok (.lshl, 1)) (kk : JJ G X k n mem (pc + 1) lo (vl (lshl_ x y) :: st)) : JJ G X k n mem pc lo (vi y :: vl x :: st) := by
  obtain ⟨p, l, e, R, s, m, args, below, meth, c, A, Q⟩ := X
  intro H locs ls hP hS hL
  have q := (kk H locs ls hP hS hL)
  unfold vl lshl_ at q
  rw [Int64.ofInt_toInt] at q
  exact lv_lshl h.1 h.2.1 d rfl q
theorem jj_lshr (h : OK G X cc own nL) {x y : Int} (d : decode cc pc = .ok (.lshr, 1)) (kk : JJ G X k n mem (pc + 1) lo (vl (lshr_ x y) :: st)) : JJ G X k n mem pc lo (vi y :: vl x :: st) := by
  obtain ⟨p, l, e, R, s, m, args, below, meth, c, A, Q⟩ := X
  intro H locs ls hP hS hL
  have q := (kk H locs ls hP hS hL)
  unfold vl lshr_ at q
  rw [Int64.ofInt_toInt] at q
  exact lv_lshr h.1 h.2.1 d rfl q
theorem jj_lushr (h : OK G X cc own nL) {x y : Int} (d : decode cc pc = .ok (.lushr, 1)) (kk : JJ G X k n mem (pc + 1) lo (vl (lushr_ x y) :: st)) : JJ G X k n mem pc lo (vi y :: vl x :: st) := by
  obtain ⟨p, l, e, R, s, m, args, below, meth, c, A, Q⟩ := X
  intro H locs ls hP hS hL
  have q := (kk H locs ls hP hS hL)
  unfold vl lushr_ at q
  rw [Int64.ofInt_toInt] at q
  exact lv_lushr h.1 h.2.1 d rfl q
theorem jj_lcmp (h : OK G X cc own nL) {x y : Int} (d : decode cc pc = .ok (.lcmp, 1)) (kk : JJ G X k n mem (pc + 1) lo (.int (lg_cmp (Int64.ofInt x) (Int64.ofInt y)) :: st)) : JJ G X k n mem pc lo (vl y :: vl x :: st) := by
  obtain ⟨p, l, e, R, s, m, args, below, meth, c, A, Q⟩ := X
  intro H locs ls hP hS hL
  exact W.lcmp h.1 h.2.1 d (kk H locs ls hP hS hL)
theorem jj_dup (h : OK G X cc own nL) {v : Value} (d : decode cc pc = .ok (.dup, 1)) (hv : v.category = 1) (kk : JJ G X k n mem (pc + 1) lo (v :: v :: st)) : JJ G X k n mem pc lo (v :: st) := by
  obtain ⟨p, l, e, R, s, m, args, below, meth, c, A, Q⟩ := X
  intro H locs ls hP hS hL
  exact lv_dup h.1 h.2.1 d hv (kk H locs ls hP hS hL)
theorem jj_pop (h : OK G X cc own nL) {v : Value} (d : decode cc pc = .ok (.pop, 1)) (hv : v.category = 1) (kk : JJ G X k n mem (pc + 1) lo st) : JJ G X k n mem pc lo (v :: st) := by
  obtain ⟨p, l, e, R, s, m, args, below, meth, c, A, Q⟩ := X
  intro H locs ls hP hS hL
  exact lv_pop h.1 h.2.1 d hv (kk H locs ls hP hS hL)
theorem jj_goto (h : OK G X cc own nL) {off : Int} (tgt : Nat) (d : decode cc pc = .ok (.goto off, 3)) (ht : (pc : Int) + off = (tgt : Int)) (kk : JJ G X k n mem tgt lo st) : JJ G X k n mem pc lo st := by
  obtain ⟨p, l, e, R, s, m, args, below, meth, c, A, Q⟩ := X
  intro H locs ls hP hS hL
  exact lv_goto h.1 h.2.1 d ht (kk H locs ls hP hS hL)
theorem jj_null (h : OK G X cc own nL) (d : decode cc pc = .ok (.aconst_null, 1)) (kk : JJ G X k n mem (pc + 1) lo (.null :: st)) : JJ G X k n mem pc lo st := by
  obtain ⟨p, l, e, R, s, m, args, below, meth, c, A, Q⟩ := X
  intro H locs ls hP hS hL
  exact lv_null h.1 h.2.1 d (kk H locs ls hP hS hL)
theorem jj_ifnonnull (h : OK G X cc own nL) {x : Nat} {off : Int} (tgt : Nat) (d : decode cc pc = .ok (.ifnonnull off, 3)) (ht : (pc : Int) + off = (tgt : Int)) (kk : JJ G X k n mem tgt lo st) : JJ G X k n mem pc lo (.ref x :: st) := by
  obtain ⟨p, l, e, R, s, m, args, below, meth, c, A, Q⟩ := X
  intro H locs ls hP hS hL
  exact lv_ifnonnull h.1 h.2.1 d ht (kk H locs ls hP hS hL)
theorem jj_ifnonnullN (h : OK G X cc own nL) {off : Int} (d : decode cc pc = .ok (.ifnonnull off, 3)) (kk : JJ G X k n mem (pc + 3) lo st) : JJ G X k n mem pc lo (.null :: st) := by
  obtain ⟨p, l, e, R, s, m, args, below, meth, c, A, Q⟩ := X
  intro H locs ls hP hS hL
  exact lv_ifnonnullN h.1 h.2.1 d (kk H locs ls hP hS hL)
theorem jj_icmp_eq (h : OK G X cc own nL) {x y off : Int} (tgt : Nat) (d : decode cc pc = .ok (.if_icmp .eq off, 3)) (ht : (pc : Int) + off = (tgt : Int)) (hx : r32 x) (hy : r32 y) (kt : x = y → JJ G X k n mem tgt lo st) (kf : ¬ (x = y) → JJ G X k n mem (pc + 3) lo st) : JJ G X k n mem pc lo (vi y :: vi x :: st) := by
  obtain ⟨p, l, e, R, s, m, args, below, meth, c, A, Q⟩ := X
  intro H locs ls hP hS hL
  exact lv_icmp_eq h.1 h.2.1 d ht (fun q => kt ((r32_eq hx hy).mp q) H locs ls hP hS hL) (fun q => kf (fun z => q ((r32_eq hx hy).mpr z)) H locs ls hP hS hL)
theorem jj_if_eq (h : OK G X cc own nL) {x off : Int} (tgt : Nat) (d : decode cc pc = .ok (.ifCond .eq off, 3)) (ht : (pc : Int) + off = (tgt : Int)) (hx : r32 x) (kt : x = 0 → JJ G X k n mem tgt lo st) (kf : ¬ (x = 0) → JJ G X k n mem (pc + 3) lo st) : JJ G X k n mem pc lo (vi x :: st) := by
  obtain ⟨p, l, e, R, s, m, args, below, meth, c, A, Q⟩ := X
  intro H locs ls hP hS hL
  exact lv_if_eq h.1 h.2.1 d ht (fun q => kt ((r32_eq hx r32_0).mp q) H locs ls hP hS hL) (fun q => kf (fun z => q ((r32_eq hx r32_0).mpr z)) H locs ls hP hS hL)
theorem jj_icmp_ne (h : OK G X cc own nL) {x y off : Int} (tgt : Nat) (d : decode cc pc = .ok (.if_icmp .ne off, 3)) (ht : (pc : Int) + off = (tgt : Int)) (hx : r32 x) (hy : r32 y) (kt : ¬ x = y → JJ G X k n mem tgt lo st) (kf : x = y → JJ G X k n mem (pc + 3) lo st) : JJ G X k n mem pc lo (vi y :: vi x :: st) := by
  obtain ⟨p, l, e, R, s, m, args, below, meth, c, A, Q⟩ := X
  intro H locs ls hP hS hL
  exact lv_icmp_ne h.1 h.2.1 d ht (fun q => kt (fun z => q ((r32_eq hx hy).mpr z)) H locs ls hP hS hL) (fun q => kf ((r32_eq hx hy).mp q) H locs ls hP hS hL)
theorem jj_if_ne (h : OK G X cc own nL) {x off : Int} (tgt : Nat) (d : decode cc pc = .ok (.ifCond .ne off, 3)) (ht : (pc : Int) + off = (tgt : Int)) (hx : r32 x) (kt : ¬ x = 0 → JJ G X k n mem tgt lo st) (kf : x = 0 → JJ G X k n mem (pc + 3) lo st) : JJ G X k n mem pc lo (vi x :: st) := by
  obtain ⟨p, l, e, R, s, m, args, below, meth, c, A, Q⟩ := X
  intro H locs ls hP hS hL
  exact lv_if_ne h.1 h.2.1 d ht (fun q => kt (fun z => q ((r32_eq hx r32_0).mpr z)) H locs ls hP hS hL) (fun q => kf ((r32_eq hx r32_0).mp q) H locs ls hP hS hL)
theorem jj_icmp_lt (h : OK G X cc own nL) {x y off : Int} (tgt : Nat) (d : decode cc pc = .ok (.if_icmp .lt off, 3)) (ht : (pc : Int) + off = (tgt : Int)) (hx : r32 x) (hy : r32 y) (kt : x < y → JJ G X k n mem tgt lo st) (kf : ¬ (x < y) → JJ G X k n mem (pc + 3) lo st) : JJ G X k n mem pc lo (vi y :: vi x :: st) := by
  obtain ⟨p, l, e, R, s, m, args, below, meth, c, A, Q⟩ := X
  intro H locs ls hP hS hL
  exact lv_icmp_lt h.1 h.2.1 d ht (fun q => kt ((r32_lt hx hy).mp q) H locs ls hP hS hL) (fun q => kf (fun z => q ((r32_lt hx hy).mpr z)) H locs ls hP hS hL)
theorem jj_if_lt (h : OK G X cc own nL) {x off : Int} (tgt : Nat) (d : decode cc pc = .ok (.ifCond .lt off, 3)) (ht : (pc : Int) + off = (tgt : Int)) (hx : r32 x) (kt : x < 0 → JJ G X k n mem tgt lo st) (kf : ¬ (x < 0) → JJ G X k n mem (pc + 3) lo st) : JJ G X k n mem pc lo (vi x :: st) := by
  obtain ⟨p, l, e, R, s, m, args, below, meth, c, A, Q⟩ := X
  intro H locs ls hP hS hL
  exact lv_if_lt h.1 h.2.1 d ht (fun q => kt ((r32_lt hx r32_0).mp q) H locs ls hP hS hL) (fun q => kf (fun z => q ((r32_lt hx r32_0).mpr z)) H locs ls hP hS hL)
theorem jj_icmp_ge (h : OK G X cc own nL) {x y off : Int} (tgt : Nat) (d : decode cc pc = .ok (.if_icmp .ge off, 3)) (ht : (pc : Int) + off = (tgt : Int)) (hx : r32 x) (hy : r32 y) (kt : y ≤ x → JJ G X k n mem tgt lo st) (kf : ¬ (y ≤ x) → JJ G X k n mem (pc + 3) lo st) : JJ G X k n mem pc lo (vi y :: vi x :: st) := by
  obtain ⟨p, l, e, R, s, m, args, below, meth, c, A, Q⟩ := X
  intro H locs ls hP hS hL
  exact lv_icmp_ge h.1 h.2.1 d ht (fun q => kt ((r32_le hy hx).mp q) H locs ls hP hS hL) (fun q => kf (fun z => q ((r32_le hy hx).mpr z)) H locs ls hP hS hL)
theorem jj_if_ge (h : OK G X cc own nL) {x off : Int} (tgt : Nat) (d : decode cc pc = .ok (.ifCond .ge off, 3)) (ht : (pc : Int) + off = (tgt : Int)) (hx : r32 x) (kt : 0 ≤ x → JJ G X k n mem tgt lo st) (kf : ¬ (0 ≤ x) → JJ G X k n mem (pc + 3) lo st) : JJ G X k n mem pc lo (vi x :: st) := by
  obtain ⟨p, l, e, R, s, m, args, below, meth, c, A, Q⟩ := X
  intro H locs ls hP hS hL
  exact lv_if_ge h.1 h.2.1 d ht (fun q => kt ((r32_le r32_0 hx).mp q) H locs ls hP hS hL) (fun q => kf (fun z => q ((r32_le r32_0 hx).mpr z)) H locs ls hP hS hL)
theorem jj_icmp_gt (h : OK G X cc own nL) {x y off : Int} (tgt : Nat) (d : decode cc pc = .ok (.if_icmp .gt off, 3)) (ht : (pc : Int) + off = (tgt : Int)) (hx : r32 x) (hy : r32 y) (kt : y < x → JJ G X k n mem tgt lo st) (kf : ¬ (y < x) → JJ G X k n mem (pc + 3) lo st) : JJ G X k n mem pc lo (vi y :: vi x :: st) := by
  obtain ⟨p, l, e, R, s, m, args, below, meth, c, A, Q⟩ := X
  intro H locs ls hP hS hL
  exact lv_icmp_gt h.1 h.2.1 d ht (fun q => kt ((r32_lt hy hx).mp q) H locs ls hP hS hL) (fun q => kf (fun z => q ((r32_lt hy hx).mpr z)) H locs ls hP hS hL)
theorem jj_if_gt (h : OK G X cc own nL) {x off : Int} (tgt : Nat) (d : decode cc pc = .ok (.ifCond .gt off, 3)) (ht : (pc : Int) + off = (tgt : Int)) (hx : r32 x) (kt : 0 < x → JJ G X k n mem tgt lo st) (kf : ¬ (0 < x) → JJ G X k n mem (pc + 3) lo st) : JJ G X k n mem pc lo (vi x :: st) := by
  obtain ⟨p, l, e, R, s, m, args, below, meth, c, A, Q⟩ := X
  intro H locs ls hP hS hL
  exact lv_if_gt h.1 h.2.1 d ht (fun q => kt ((r32_lt r32_0 hx).mp q) H locs ls hP hS hL) (fun q => kf (fun z => q ((r32_lt r32_0 hx).mpr z)) H locs ls hP hS hL)
theorem jj_icmp_le (h : OK G X cc own nL) {x y off : Int} (tgt : Nat) (d : decode cc pc = .ok (.if_icmp .le off, 3)) (ht : (pc : Int) + off = (tgt : Int)) (hx : r32 x) (hy : r32 y) (kt : x ≤ y → JJ G X k n mem tgt lo st) (kf : ¬ (x ≤ y) → JJ G X k n mem (pc + 3) lo st) : JJ G X k n mem pc lo (vi y :: vi x :: st) := by
  obtain ⟨p, l, e, R, s, m, args, below, meth, c, A, Q⟩ := X
  intro H locs ls hP hS hL
  exact lv_icmp_le h.1 h.2.1 d ht (fun q => kt ((r32_le hx hy).mp q) H locs ls hP hS hL) (fun q => kf (fun z => q ((r32_le hx hy).mpr z)) H locs ls hP hS hL)
theorem jj_if_le (h : OK G X cc own nL) {x off : Int} (tgt : Nat) (d : decode cc pc = .ok (.ifCond .le off, 3)) (ht : (pc : Int) + off = (tgt : Int)) (hx : r32 x) (kt : x ≤ 0 → JJ G X k n mem tgt lo st) (kf : ¬ (x ≤ 0) → JJ G X k n mem (pc + 3) lo st) : JJ G X k n mem pc lo (vi x :: st) := by
  obtain ⟨p, l, e, R, s, m, args, below, meth, c, A, Q⟩ := X
  intro H locs ls hP hS hL
  exact lv_if_le h.1 h.2.1 d ht (fun q => kt ((r32_le hx r32_0).mp q) H locs ls hP hS hL) (fun q => kf (fun z => q ((r32_le hx r32_0).mpr z)) H locs ls hP hS hL)
end JJRows
