/-! More rows of JJ: switches, literals, Math.min and max, null. -/
section JJMore
variable {G : mt_G} {X : mt_X} {cc : ByteArray} {own : String} {nL k n : Nat} {mem : mt_M} {pc : Nat} {lo : List (Option Value)} {st : List Value}
theorem jj_tableIn (h : OK G X cc own nL) {dflt l0 hi : Int} {offs : Array Int} {len : Nat} {x off : Int} (tgt : Nat) (d : decode cc pc = .ok (.tableswitch dflt l0 hi offs, len)) (hx : r32 x) (h1 : l0 ≤ x) (h2 : x ≤ hi) (ho : offs[(x - l0).toNat]? = some off) (ht : (pc : Int) + off = (tgt : Int)) (kk : JJ G X k n mem tgt lo st) : JJ G X k n mem pc lo (vi x :: st) := by
  obtain ⟨p, l, e, R, s, m, args, below, meth, c, A, Q⟩ := X
  intro H locs ls hP hS hL
  exact lv_tableIn h.1 h.2.1 d (by rw [r32_to hx]; omega) (by rw [r32_to hx]; omega) (by rw [r32_to hx]; exact ho) ht (kk H locs ls hP hS hL)
theorem jj_tableOut (h : OK G X cc own nL) {dflt l0 hi : Int} {offs : Array Int} {len : Nat} {x : Int} (tgt : Nat) (d : decode cc pc = .ok (.tableswitch dflt l0 hi offs, len)) (hx : r32 x) (h1 : x < l0 ∨ hi < x) (ht : (pc : Int) + dflt = (tgt : Int)) (kk : JJ G X k n mem tgt lo st) : JJ G X k n mem pc lo (vi x :: st) := by
  obtain ⟨p, l, e, R, s, m, args, below, meth, c, A, Q⟩ := X
  intro H locs ls hP hS hL
  exact lv_tableOut h.1 h.2.1 d (by rw [r32_to hx]; exact h1) ht (kk H locs ls hP hS hL)
theorem jj_lookup (h : OK G X cc own nL) {dflt : Int} {ps : Array (Int × Int)} {len : Nat} {x off : Int} (tgt : Nat) (d : decode cc pc = .ok (.lookupswitch dflt ps, len)) (hp : (ps.toList.zip (ps.toList.drop 1)).all (fun (a, next) => a.1 < next.1) = true) (hx : r32 x) (ho : Op.lookupswitch.offset ps.toList dflt x = off) (ht : (pc : Int) + off = (tgt : Int)) (kk : JJ G X k n mem tgt lo st) : JJ G X k n mem pc lo (vi x :: st) := by
  obtain ⟨p, l, e, R, s, m, args, below, meth, c, A, Q⟩ := X
  intro H locs ls hP hS hL
  exact lv_lookup h.1 h.2.1 d hp (by rw [r32_to hx]; exact ho) ht (kk H locs ls hP hS hL)
/-- a literal -/
theorem jj_ldcS (h : OK G X cc own nL) {idx : Nat} {tx : String} (i : Nat) (hq : mt_str[i]? = some (own, idx, tx)) (d : decode cc pc = .ok (.ldc idx, 2)) (kk : JJ G X k n mem (pc + 2) lo (vs G i :: st)) : JJ G X k n mem pc lo st := by
  obtain ⟨p, l, e, R, s, m, args, below, meth, c, A, Q⟩ := X
  intro H locs ls hP hS hL
  obtain ⟨hx, hb, hml, ho, hts, hK, hi, hA, hN, hE⟩ := h
  exact va_ldcS hx hb ho (hE.2.1 i _ hq) d (kk H locs ls hP hS hL)
end JJMore
