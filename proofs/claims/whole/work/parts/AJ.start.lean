/-! What holds at the law's entry. -/
def nf_ : List Cond := flatC (Jvm.Cond.and given_1 narrow_1)
def pb_ : List Nat := [59, 88, 108, 120, 143, 163, 181, 198, 215, 235, 312, 328, 357, 397, 427, 467, 498, 534, 557, 581, 668, 708, 735]
def sp_ : List Nat := [367, 445, 506, 512, 517, 518, 519, 524, 536, 558, 593, 671, 706, 725, 727, 739, 773, 789, 794, 809, 826, 831, 842]
def ms_ (i : Nat) : String × Nat × String := mt_str.getD i ("", 0, "")
def tmS (i : Nat) : Term := .string (ms_ i).1 (ms_ i).2.1
theorem nf_ex : ∀ i, i < 23 → nf_[pb_.getD i 0]? = some (Cond.exactly (tmS i) "java/lang/String") := by decide +kernel
theorem nf_co : ∀ i, i < 23 → nf_[pb_.getD i 0 + 1]? = some (Cond.eq (.field (tmS i) "java/lang/String" "coder" "B") (.int 0)) := by decide +kernel
theorem nf_ar : ∀ i, i < 23 → nf_[pb_.getD i 0 + 2]? = some (Cond.arrayOf (.field (tmS i) "java/lang/String" "value" "[B") .byte) := by decide +kernel
theorem nf_le : ∀ i, i < 23 → nf_[pb_.getD i 0 + 3]? = some (Cond.eq (.length (.field (tmS i) "java/lang/String" "value" "[B")) (.int (Int32.ofNat (mt_len.getD i 0)))) := by decide +kernel
theorem nf_el : ∀ i, i < 23 → ∀ j, j < mt_len.getD i 0 → nf_[pb_.getD i 0 + 4 + j]? = some (Cond.eq (.elem (.field (tmS i) "java/lang/String" "value" "[B") (.int (Int32.ofNat j))) (.int ((mt_byt.getD i []).getD j 0))) := by decide +kernel
theorem tb_sr : ∀ i, i < 23 → tables_1[sp_.getD i 0]? = some (Cond.stringRef (ms_ i).1 (ms_ i).2.1 (ms_ i).2.2) := by decide +kernel
theorem ml_lt : ∀ i, i < 23 → mt_len.getD i 0 < 2 ^ 31 := by decide +kernel
theorem nc_of {args : Array Value} {s : State} {q1 q2 : String} (h : (Cond.not (.castable q1 q2)).before args s = true) (i1 : (Cond.instantiable q1 6).before args s = true) (i2 : (Cond.instantiable q2 6).before args s = true) : ∃ ca cb : ClassId, s.vm.findClass q1 = some ca ∧ s.vm.findClass q2 = some cb ∧ s.vm.assignable ca cb = false := by
  obtain ⟨ca, _, hca, -⟩ := Cond.instantiable_spec i1
  obtain ⟨cb, _, hcb, -⟩ := Cond.instantiable_spec i2
  refine ⟨ca, cb, hca, hcb, ?_⟩
  have hv := Cond.holds_not_iff.mp h
  simp only [Cond.value, hca, hcb] at hv
  exact Option.some.inj hv
theorem th_of {args : Array Value} {s : State} {A : Nat → Prop} {n d : String} (hl : (Cond.laysStatic Bundle.tN n d).before args s = true) (hr : (Cond.isRef (.static Bundle.tN n d)).before args s = true) (hA : ∀ a : Nat, a < s.heap.size → ¬ A a) : th_ A s s.heap n d := by
  obtain ⟨c, k, i, f, a, cell, h0, h1, h2, h3, h4, h5, h6, h7, h8⟩ := Cond.laysStatic_spec hl
  obtain ⟨u, hu⟩ := Cond.staticRefV h1 h2 h3 h4 h5 hr
  exact ⟨c, k, i, f, a, cell, u.v, h0, h1, h2, h3, h8, h4, h5, h6, h7, hu, u.2, hA a (Array.getElem?_eq_some_iff.mp h4).1⟩
theorem ra_of {args : Array Value} {s : State} {C : String} (h : va_AO C s) : ∃ c : ClassId, ArrOfT s c (.object C) ∧ va_RA s c (.object C) := by
  obtain ⟨comp, c, k, g1, -, g3, g4, g5⟩ := Cond.arrayOver_spec (args := args) (va_AO.use h)
  exact ⟨c, fun N z => ⟨(fun k h => by cases h), k, g3, comp, g4⟩, k, comp, g3, g4, g1, g5⟩
set_option maxHeartbeats 4000000 in
theorem st_all {s : State} {args : Array Value} (hts : ∀ w ∈ lw_tbl, w.before args s = true) (hg : (Jvm.Cond.and given_1 narrow_1).before args s = true) : ∃ G : mt_G, Xn G s ∧ Ex_ G (Au s.heap.size) s s.heap := by
  have hnf := flat_of_before _ hg
  have nfa : ∀ {i : Nat} {c : Cond}, nf_[i]? = some c → c.before args s = true := fun h => hnf _ (List.mem_of_getElem? h)
  have htb : ∀ w ∈ tables_1, w.before args s = true := fun w hw => hts w (List.mem_append_right _ hw)
  have hta : ∀ {i : Nat} {c : Cond}, tables_1[i]? = some c → c.before args s = true := fun h => htb _ (List.mem_of_getElem? h)
  have hT : ∀ w ∈ mt_T, w.before args s = true := fun w hw => hts w (List.mem_filter.mp hw).1
  have hA : ∀ a : Nat, a < s.heap.size → ¬ Au s.heap.size a := fun a h1 h2 => absurd h1 (Nat.not_lt.mpr h2)
  have lit : ∀ i : Nat, ∃ q : Nat × Nat, i < 23 → (tmS i).eval args s none [] s = some (.ref q.1) ∧ (va_O "java/lang/String" q.1 (Au s.heap.size) s s.heap ∧ va_OF "java/lang/String" "coder" "B" (.int 0) q.1 (Au s.heap.size) s s.heap ∧ va_OF "java/lang/String" "value" "[B" (.ref q.2) q.1 (Au s.heap.size) s s.heap ∧ va_T .byte q.2 (mt_len.getD i 0) (fun j => .int ((mt_byt.getD i []).getD j 0)) (Au s.heap.size) s s.heap) := by
    intro i
    by_cases hi : i < 23
    · obtain ⟨adK, adV, hS, hE⟩ := vk_Sof (args := args) (s := s) (N := 1) (tm := fun _ => tmS i) (len := [mt_len.getD i 0]) (byt := [mt_byt.getD i []]) (A := Au s.heap.size) (fun j hj => by
          have : j = 0 := by omega
          subst this; exact ml_lt i hi) (fun _ _ => nfa (nf_ex i hi)) (fun _ _ => nfa (nf_co i hi)) (fun _ _ => nfa (nf_ar i hi)) (fun j hj => by
          have : j = 0 := by omega
          subst this; exact nfa (nf_le i hi)) (fun j hj t ht => by
          have : j = 0 := by omega
          subst this; exact nfa (nf_el i hi t ht)) (fun j1 j2 h1 h2 h12 => absurd (by omega) h12) hA
      exact ⟨(adK 0, adV 0), fun _ => ⟨hE 0 (by decide), hS.1 0 (by decide)⟩⟩
    · exact ⟨(0, 0), fun h => absurd h hi⟩
  obtain ⟨ad, had⟩ := Classical.axiomOfChoice lit
  obtain ⟨c0, i0, k0⟩ := u_known hT uw_B (hT _ ki_B)
  obtain ⟨c1, i1, k1⟩ := u_known hT uw_D (hT _ ki_D)
  obtain ⟨c2, i2, k2⟩ := u_known hT uw_E (hT _ ki_E)
  obtain ⟨c3, i3, k3⟩ := u_known hT uw_F (hT _ ki_F)
  obtain ⟨c4, i4, k4⟩ := u_known hT uw_P (hT _ ki_P)
  obtain ⟨c5, i5, k5⟩ := u_known hT uw_S (hT _ ki_S)
  obtain ⟨c6, i6, k6⟩ := u_known hT uw_T (hT _ ki_T)
  obtain ⟨c7, i7, k7⟩ := u_known hT uw_X (hT _ ki_X)
  obtain ⟨c8, i8, k8⟩ := u_known hT uw_M (hT _ ki_M)
  have aoE : va_AO R_E s := va_AO.of (hta (i := 103) (c := Cond.arrayOver (.object R_E)) (by decide +kernel))
  have aoF : va_AO R_F s := va_AO.of (hta (i := 110) (c := Cond.arrayOver (.object R_F)) (by decide +kernel))
  obtain ⟨a0, x0, comp0, g01, g02, g03⟩ := Cond.arrayClass_spec (hT _ ka_int)
  obtain ⟨a1, x1, comp1, g11, g12, g13⟩ := Cond.arrayClass_spec (hT _ ka_long)
  obtain ⟨a2, r2, s2⟩ := ra_of (args := args) aoE
  obtain ⟨a3, r3, s3⟩ := ra_of (args := args) aoF
  have hnest : ∀ w ∈ mt_nest, va_Nw w s := fun w hw => by
    have h1 := htb w (List.mem_filter.mp hw).1
    obtain ⟨a, i, x, b, rfl⟩ := mt_nestF hw
    exact va_any rfl h1
  have i16 := hta (i := 16) (c := Cond.initialized "java/lang/Throwable") (by decide +kernel)
  have l1 := hta (i := 656) (c := Cond.laysStatic "java/lang/Throwable" "UNASSIGNED_STACK" "[Ljava/lang/StackTraceElement;") (by decide +kernel)
  have l2 := hta (i := 658) (c := Cond.laysStatic "java/lang/Throwable" "SUPPRESSED_SENTINEL" "Ljava/util/List;") (by decide +kernel)
  have r9 := nfa (i := 9) (c := Cond.isRef (.static "java/lang/Throwable" "UNASSIGNED_STACK" "[Ljava/lang/StackTraceElement;")) (by decide +kernel)
  have r10 := nfa (i := 10) (c := Cond.isRef (.static "java/lang/Throwable" "SUPPRESSED_SENTINEL" "Ljava/util/List;")) (by decide +kernel)
  refine ⟨(fun _ => 0, (fun c => if c = 0 then c0 else if c = 1 then c1 else if c = 2 then c2 else if c = 3 then c3 else if c = 4 then c4 else if c = 5 then c5 else if c = 6 then c6 else if c = 7 then c7 else c8, fun c => if c = 0 then i0 else if c = 1 then i1 else if c = 2 then i2 else if c = 3 then i3 else if c = 4 then i4 else if c = 5 then i5 else if c = 6 then i6 else if c = 7 then i7 else i8), (fun t => if t = 0 then a0 else if t = 1 then a1 else if t = 2 then a2 else a3), fun i => (ad i).1, fun i => (ad i).2), ⟨⟨?_, ?_⟩, aoE, aoF, hnest⟩, hnest, ?_, ⟨fun i hi => (had i hi).2, trivial⟩, ?_, ?_, ?_, ?_, ?_, ?_, ?_, ?_⟩
  · intro c q hq
    have hc : c < 9 := (List.getElem?_eq_some_iff.mp hq).1
    rcases c with _ | _ | _ | _ | _ | _ | _ | _ | _ | c
    · cases hq; exact k0
    · cases hq; exact k1
    · cases hq; exact k2
    · cases hq; exact k3
    · cases hq; exact k4
    · cases hq; exact k5
    · cases hq; exact k6
    · cases hq; exact k7
    · cases hq; exact k8
    · omega
  · intro t q hq
    have ht : t < 4 := (List.getElem?_eq_some_iff.mp hq).1
    rcases t with _ | _ | _ | _ | t
    · cases hq; exact ⟨fun N z => ⟨(fun k h => by cases h), x0, g02, comp0, g03⟩, g01⟩
    · cases hq; exact ⟨fun N z => ⟨(fun k h => by cases h), x1, g12, comp1, g13⟩, g11⟩
    · cases hq; exact ⟨r2, s2⟩
    · cases hq; exact ⟨r3, s3⟩
    · omega
  · intro i q hq
    have hi : i < 23 := (List.getElem?_eq_some_iff.mp hq).1
    have e9 : ms_ i = q := by unfold ms_; rw [List.getD_eq_getElem?_getD, hq]; rfl
    rw [← e9]
    exact vk_R.of (A := args) (hta (tb_sr i hi)) (had i hi).1
  · exact va_Zof (hta (i := 385) (c := Cond.laysStatic "java/lang/String" "COMPACT_STRINGS" "Z") (by decide +kernel)) (hta (i := 10) (c := Cond.initialized "java/lang/String") (by decide +kernel)) (va_eqt (nfa (i := 4) (c := Cond.eq (.static "java/lang/String" "COMPACT_STRINGS" "Z") (.int 1)) (by decide +kernel))) hA
  · exact va_Zqof l1 i16 r9 hA
  · exact va_Zqof l2 i16 r10 hA
  · exact va_Zqof (hta (i := 404) (c := Cond.laysStatic "jdk/internal/util/Preconditions" "SIOOBE_FORMATTER" "Ljava/util/function/BiFunction;") (by decide +kernel)) (hta (i := 12) (c := Cond.initialized "jdk/internal/util/Preconditions") (by decide +kernel)) (nfa (i := 5) (c := Cond.isRef (.static "jdk/internal/util/Preconditions" "SIOOBE_FORMATTER" "Ljava/util/function/BiFunction;")) (by decide +kernel)) hA
  · intro w hw
    exact va_any (mt_faceF hw).1 (htb w (List.mem_filter.mp hw).1)
  · intro q hq
    rcases List.mem_cons.mp hq with rfl | hq
    · exact nc_of (nfa (i := 20) (c := Cond.not (.castable xA xN)) (by decide +kernel)) (hT _ xk_A.2.2.1) (hT _ xk_N.2.2.1)
    · rcases List.mem_cons.mp hq with rfl | hq
      · exact nc_of (nfa (i := 46) (c := Cond.not (.castable xU xI)) (by decide +kernel)) (hT _ xk_U.2.2.1) (hT _ xk_I.2.2.1)
      · cases hq
  · exact th_of l1 r9 hA
  · exact th_of l2 r10 hA
