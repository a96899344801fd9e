/-! The reference: the parts of a multipart. -/
def cls_ (o : Option Int) (x : Int) : List (Int × Int) := match o with
  | none => []
  | some b => [(b, x)]
/-- the parts from p on; o: where the part that is open begins; last: where it would end -/
def pts (f : Int → Int) (e : Int) (B : List Int) : Nat → Int → Option Int → Int → List (Int × Int)
  | 0, _, _, _ => []
  | n + 1, p, o, last => if e ≤ p then cls_ o e
    else if mk_ B (slc f p (textEnd_ f p e)) = 2 then cls_ o last
    else if mk_ B (slc f p (textEnd_ f p e)) = 1 then cls_ o last ++ pts f e B n (lineEnd_ f p e) (some (lineEnd_ f p e)) (lineEnd_ f p e)
    else pts f e B n (lineEnd_ f p e) o (textEnd_ f p e)
def parts_ (f : Int → Int) (b e : Int) (B : List Int) : List (Int × Int) := pts f e B ((e - b).toNat + 1) b none b
theorem mk_b (B L : List Int) : (mk_ B L = 0 ∨ mk_ B L = 1 ∨ mk_ B L = 2) ∧ (mk_ B L ≠ 0 → B.length + 2 ≤ L.length) := by
  have h3 : ∀ r, mr_ r = 0 ∨ mr_ r = 1 ∨ mr_ r = 2 := by
    intro r; unfold mr_; split <;> split <;> simp
  constructor
  · unfold mk_; split
    · simp
    · exact h3 _
  · intro h
    refine Decidable.byContradiction fun z => h ?_
    unfold mk_
    rw [strp_short _ _ (by simp only [List.length_cons]; omega)]
/-- the ranges that stand in found -/
def fd_ (mem : mt_M) (L : List (Int × Int)) : Prop := ∀ (i : Nat) (q : Int × Int), L[i]? = some q → mem 189 (2 * (i : Int)) = q.1 ∧ mem 189 (2 * (i : Int) + 1) = q.2
theorem cM_parts {G : mt_G} {l : Launch} {mem : mt_M} {e b s : Int} {B : List Int} (h0 : 0 ≤ e) (h1 : e < 16) (hB0 : 1 ≤ B.length) (hB : mem 185 (16 * e + 12) = B.length) (ha : 0 ≤ mem 185 (16 * e + 11)) (hT : mem 185 (16 * e + 11) + B.length ≤ 1400) (hBt : slc (mem 187) (mem 185 (16 * e + 11)) (mem 185 (16 * e + 11) + B.length) = B) (hbt : by_ (mem 187) (mem 185 (16 * e + 11)) (mem 185 (16 * e + 11) + B.length)) (hd8 : mem 185 (16 * e + 8) = b) (hd9 : mem 185 (16 * e + 9) = s) (hb0 : 0 ≤ b) (hbs : b ≤ s) (hs : s ≤ 320) (hb : by_ (mem 184) b s) : CT G l y_M_parts c_M_parts 10 (some .int) 3 [vr G 182, vi e] mem (fun v m' => v = some (vi ((parts_ (mem 184) b s B).length)) ∧ fd_ m' (parts_ (mem 184) b s B) ∧ (parts_ (mem 184) b s B).length ≤ 107 ∧ ∀ r : Nat, r ≠ 189 → m' r = mem r) := by
  refine CT.intro (by decide) rfl (Nat.le_of_ble_eq_true rfl) (fun X h he => ?_)
  generalize hR : parts_ (mem 184) b s B = R at *
  have loop : ∀ (n : Nat) (p last : Int) (m : mt_M) (dn : List (Int × Int)) (o : Option Int) (k : Nat) (x y z : Option Value), (s - p).toNat = n → b ≤ p → p ≤ s → r32 last → (s - p).toNat + 1 ≤ k → (∀ r : Nat, r ≠ 189 → m r = mem r) → fd_ m (dn ++ cls_ o s) → 3 * ((dn ++ cls_ o s).length : Int) ≤ p - b → R = dn ++ pts (mem 184) s B k p o last → JJ G X 0 0 m 25 [some (vr G 182), some (vi e), some (vi ((dn ++ cls_ o s).length)), some (vi p), some (vi s), some (vi (if o.isSome then 1 else 0)), some (vi last), x, y, z] [] := by
    intro n
    induction n using Nat.strongRecOn with
    | ind n ih =>
      intro p last m dn o k x y z hn hp hps hla hk hm hfd hlen hRe
      obtain ⟨k, rfl⟩ : ∃ k', k = k' + 1 := ⟨k - 1, by omega⟩
      rw [pts] at hRe
      have hsrc := hm 184 (by decide)
      have hdat := hm 185 (by decide)
      have htxt := hm 187 (by decide)
      by_cases hpe : s ≤ p
      · rw [if_pos hpe] at hRe
        refine jj_iload_n h d_M_parts_25 rfl ?_
        refine jj_iload h d_M_parts_26 rfl ?_
        refine jj_icmp_ge h 143 d_M_parts_28 (by decide) ⟨by omega, by omega⟩ ⟨by omega, by omega⟩ (fun _ => ?_) (fun q28 => absurd (by omega) q28)
        refine jj_iload_n h d_M_parts_143 rfl ?_
        refine jj_iret h he d_M_parts_144 ?_
        exact ⟨by rw [hRe], by rw [hRe]; exact hfd, by rw [hRe]; omega, hm⟩
      · rw [if_neg hpe] at hRe
        have hle := lineEnd_b (f := mem 184) (e := s) _ p rfl (by omega)
        have hte := textEnd_b (f := mem 184) (p := p) (e := s) (by omega)
        have hbm : by_ (m 184) p s := by rw [hsrc]; exact hb.sub hp (Int.le_refl _)
        generalize hE : lineEnd_ (mem 184) p s = E at *
        generalize hTE : textEnd_ (mem 184) p s = TE at *
        have hmk := mk_b B (slc (mem 184) p TE)
        rw [slc_len] at hmk
        generalize hK : mk_ B (slc (mem 184) p TE) = K at *
        -- closing the open part
        have fd2 : o.isSome = true → fd_ (st_ m 189 (2 * ((dn ++ cls_ o s).length : Int) - 1) last) (dn ++ cls_ o last) ∧ (dn ++ cls_ o last).length = (dn ++ cls_ o s).length := by
          intro hos
          obtain ⟨b9, rfl⟩ := Option.isSome_iff_exists.mp hos
          simp only [cls_, List.length_append, List.length_cons, List.length_nil] at hfd ⊢
          refine ⟨fun i q hq => ?_, trivial⟩
          by_cases hi : i < dn.length
          · rw [List.getElem?_append_left hi] at hq
            obtain ⟨g1, g2⟩ := hfd i q (by rw [List.getElem?_append_left hi]; exact hq)
            rw [st_ne (by omega), st_ne (by omega)]
            exact ⟨g1, g2⟩
          · have hi2 : i = dn.length := by
              have := (List.getElem?_eq_some_iff.mp hq).1
              simp only [List.length_append, List.length_cons, List.length_nil] at this
              omega
            subst hi2
            obtain ⟨g1, g2⟩ := hfd dn.length (b9, s) (by simp)
            simp at hq
            subst hq
            rw [st_ne (by omega), show 2 * (dn.length : Int) + 1 = 2 * ((dn.length + (0 + 1) : Nat) : Int) - 1 by omega, st_same]
            exact ⟨g1, rfl⟩
        -- a delimiter begins a part
        have opn : ∀ (m' : mt_M) (dn' : List (Int × Int)) (x y z : Option Value) (w9 la : Int), K = 1 → (∀ r : Nat, r ≠ 189 → m' r = mem r) → fd_ m' dn' → 3 * (dn'.length : Int) ≤ p - b → R = dn' ++ pts (mem 184) s B k E (some E) E → JJ G X 0 0 m' 98 [some (vr G 182), some (vi e), some (vi dn'.length), some (vi p), some (vi s), some (vi w9), some (vi la), some (vi TE), some (vi K), some (vi E)] [] := by
          intro m' dn' x y z w9 la o1 o2 o3 o4 o5
          have hl := hmk.2 (by omega)
          refine jj_aload_n h d_M_parts_98 rfl ⟨_, rfl⟩ ?_
          refine jj_g_M_found h  fl_M_28 d_M_parts_99 ?_
          refine jj_iconst h d_M_parts_102 ?_
          refine jj_iload_n h d_M_parts_103 rfl ?_
          refine jj_imul h d_M_parts_104 ?_
          refine jj_iload h d_M_parts_105 rfl ?_
          refine jj_iastore (N := 400) h (by decide) (fun _ => rfl) (by decide) (by omega) (by omega) d_M_parts_107 ?_
          refine jj_aload_n h d_M_parts_108 rfl ⟨_, rfl⟩ ?_
          refine jj_g_M_found h  fl_M_28 d_M_parts_109 ?_
          refine jj_iconst h d_M_parts_112 ?_
          refine jj_iload_n h d_M_parts_113 rfl ?_
          refine jj_imul h d_M_parts_114 ?_
          refine jj_iconst h d_M_parts_115 ?_
          refine jj_iadd h d_M_parts_116 ?_
          refine jj_iload h d_M_parts_117 rfl ?_
          refine jj_iastore (N := 400) h (by decide) (fun _ => rfl) (by decide) (by omega) (by omega) d_M_parts_119 ?_
          refine jj_iinc h d_M_parts_120 rfl rfl ?_
          refine jj_iconst h d_M_parts_123 ?_
          refine jj_istore h d_M_parts_124 (Nat.le_of_ble_eq_true rfl) rfl ?_
          refine jj_iload h d_M_parts_126 rfl ?_
          refine jj_istore h d_M_parts_128 (Nat.le_of_ble_eq_true rfl) rfl ?_
          refine jj_goto h 137 d_M_parts_130 (by decide) ?_
          refine jj_iload h d_M_parts_137 rfl ?_
          refine jj_istore_n h d_M_parts_139 (Nat.le_of_ble_eq_true rfl) rfl ?_
          refine jj_goto h 25 d_M_parts_140 (by decide) ?_
          have e9 := ih _ (by omega) E E (st_ (st_ m' 189 (2 * (dn'.length : Int)) E) 189 (2 * (dn'.length : Int) + 1) s) dn' (some E) k (some (vi TE)) (some (vi K)) (some (vi E)) rfl (by omega) (by omega) ⟨by omega, by omega⟩ (by omega) (fun r hr => by rw [st_row hr, st_row hr]; exact o2 r hr) (fun i q hq => ?_) ?_ o5
          · simp only [cls_, List.length_append, List.length_cons, List.length_nil, Option.isSome_some, if_true] at e9
            exact e9
          · by_cases hi : i < dn'.length
            · rw [List.getElem?_append_left hi] at hq
              obtain ⟨g1, g2⟩ := o3 i q hq
              rw [st_ne (by omega), st_ne (by omega), st_ne (by omega), st_ne (by omega)]
              exact ⟨g1, g2⟩
            · have hi2 : i = dn'.length := by
                have := (List.getElem?_eq_some_iff.mp hq).1
                simp only [cls_, List.length_append, List.length_cons, List.length_nil] at this
                omega
              subst hi2
              simp [cls_] at hq
              subst hq
              exact ⟨by rw [st_ne (by omega), st_same], by rw [st_same]⟩
          · simp only [cls_, List.length_append, List.length_cons, List.length_nil]; omega
        refine jj_iload_n h d_M_parts_25 rfl ?_
        refine jj_iload h d_M_parts_26 rfl ?_
        refine jj_icmp_ge h 143 d_M_parts_28 (by decide) ⟨by omega, by omega⟩ ⟨by omega, by omega⟩ (fun q28 => absurd q28 (by omega)) (fun _ => ?_)
        refine jj_aload_n h d_M_parts_31 rfl ⟨_, rfl⟩ ?_
        refine jj_iload_n h d_M_parts_32 rfl ?_
        refine jj_iload h d_M_parts_33 rfl ?_
        refine jj_callV h (cM_textEnd (by omega) (by omega) hs hbm) cv_M_74 (ro_of he (by decide) (by decide)) rfl rfl (by decide) rfl rfl rfl (Nat.le_of_ble_eq_true rfl) d_M_parts_35 (fun v m35 hv => ?_)
        obtain ⟨rfl, rfl⟩ := hv
        rw [hsrc, hTE]
        refine jj_istore h d_M_parts_38 (Nat.le_of_ble_eq_true rfl) rfl ?_
        refine jj_aload_n h d_M_parts_40 rfl ⟨_, rfl⟩ ?_
        refine jj_iload_n h d_M_parts_41 rfl ?_
        refine jj_iload_n h d_M_parts_42 rfl ?_
        refine jj_iload h d_M_parts_43 rfl ?_
        refine jj_callV h (cM_delimiter (B := B) h0 h1 (by rw [hdat]; exact hB) (by rw [hdat]; exact ha) (by rw [hdat]; exact hT) (by rw [hdat, htxt]; exact hBt) (by rw [hdat, htxt]; exact hbt) (by omega) (by omega) (by omega) (hbm.sub (Int.le_refl _) (by omega))) cv_M_172 (ro_of he (by decide) (by decide)) rfl rfl (by decide) rfl rfl rfl (Nat.le_of_ble_eq_true rfl) d_M_parts_45 (fun v m45 hv => ?_)
        obtain ⟨rfl, rfl⟩ := hv
        rw [hsrc, hK]
        refine jj_istore h d_M_parts_48 (Nat.le_of_ble_eq_true rfl) rfl ?_
        refine jj_iload h d_M_parts_50 rfl ?_
        refine jj_if_le h 75 d_M_parts_52 (by decide) ⟨by omega, by omega⟩ (fun q52 => ?_) (fun q52 => ?_)
        · rw [if_neg (by omega), if_neg (by omega)] at hRe
          refine jj_iload h d_M_parts_75 rfl ?_
          refine jj_iconst h d_M_parts_77 ?_
          refine jj_icmp_ne h 83 d_M_parts_78 (by decide) ⟨by omega, by omega⟩ ⟨by omega, by omega⟩ (fun _ => ?_) (fun q78 => absurd q78 (by omega))
          refine jj_aload_n h d_M_parts_83 rfl ⟨_, rfl⟩ ?_
          refine jj_iload_n h d_M_parts_84 rfl ?_
          refine jj_iload h d_M_parts_85 rfl ?_
          refine jj_callV h (cM_lineEnd (by omega) (by omega) hs hbm) cv_M_52 (ro_of he (by decide) (by decide)) rfl rfl (by decide) rfl rfl rfl (Nat.le_of_ble_eq_true rfl) d_M_parts_87 (fun v m87 hv => ?_)
          obtain ⟨rfl, rfl⟩ := hv
          rw [hsrc, hE]
          refine jj_istore h d_M_parts_90 (Nat.le_of_ble_eq_true rfl) rfl ?_
          refine jj_iload h d_M_parts_92 rfl ?_
          refine jj_iconst h d_M_parts_94 ?_
          refine jj_icmp_ne h 133 d_M_parts_95 (by decide) ⟨by omega, by omega⟩ ⟨by omega, by omega⟩ (fun _ => ?_) (fun q95 => absurd q95 (by omega))
          refine jj_iload h d_M_parts_133 rfl ?_
          refine jj_istore h d_M_parts_135 (Nat.le_of_ble_eq_true rfl) rfl ?_
          refine jj_iload h d_M_parts_137 rfl ?_
          refine jj_istore_n h d_M_parts_139 (Nat.le_of_ble_eq_true rfl) rfl ?_
          refine jj_goto h 25 d_M_parts_140 (by decide) ?_
          exact ih _ (by omega) E TE m dn o k _ _ _ rfl (by omega) (by omega) ⟨by omega, by omega⟩ (by omega) hm hfd (by omega) hRe
        · have hl := hmk.2 (by omega)
          refine jj_iload h d_M_parts_55 rfl ?_
          refine jj_if_eq h 75 d_M_parts_57 (by decide) ⟨by split <;> omega, by split <;> omega⟩ (fun q57 => ?_) (fun q57 => ?_)
          · have ho : o = none := by
              cases o with
              | none => rfl
              | some b9 => exact absurd q57 (by simp)
            subst ho
            simp only [cls_, List.append_nil, List.nil_append] at hRe hfd hlen
            refine jj_iload h d_M_parts_75 rfl ?_
            refine jj_iconst h d_M_parts_77 ?_
            refine jj_icmp_ne h 83 d_M_parts_78 (by decide) ⟨by omega, by omega⟩ ⟨by omega, by omega⟩ (fun q78 => ?_) (fun q78 => ?_)
            · refine jj_aload_n h d_M_parts_83 rfl ⟨_, rfl⟩ ?_
              refine jj_iload_n h d_M_parts_84 rfl ?_
              refine jj_iload h d_M_parts_85 rfl ?_
              refine jj_callV h (cM_lineEnd (by omega) (by omega) hs hbm) cv_M_52 (ro_of he (by decide) (by decide)) rfl rfl (by decide) rfl rfl rfl (Nat.le_of_ble_eq_true rfl) d_M_parts_87 (fun v m87 hv => ?_)
              obtain ⟨rfl, rfl⟩ := hv
              rw [hsrc, hE]
              refine jj_istore h d_M_parts_90 (Nat.le_of_ble_eq_true rfl) rfl ?_
              refine jj_iload h d_M_parts_92 rfl ?_
              refine jj_iconst h d_M_parts_94 ?_
              refine jj_icmp_ne h 133 d_M_parts_95 (by decide) ⟨by omega, by omega⟩ ⟨by omega, by omega⟩ (fun q95 => absurd (by omega) q95) (fun _ => ?_)
              rw [if_neg q78, if_pos (by omega)] at hRe
              have e8 := opn m dn none none none 0 last (by omega) hm hfd (by omega) hRe
              simp only [cls_, List.append_nil]
              exact e8
            · refine jj_iload_n h d_M_parts_81 rfl ?_
              refine jj_iret h he d_M_parts_82 ?_
              rw [if_pos q78, List.append_nil] at hRe
              exact ⟨by rw [hRe]; simp only [cls_, List.append_nil], by rw [hRe]; exact hfd, by rw [hRe]; omega, hm⟩
          · have hos : o.isSome = true := by
              cases o with
              | none => exact absurd rfl q57
              | some b9 => rfl
            obtain ⟨fd3, fl3⟩ := fd2 hos
            have hl1 : 1 ≤ (dn ++ cls_ o s).length := by obtain ⟨b9, rfl⟩ := Option.isSome_iff_exists.mp hos; simp [cls_]
            refine jj_aload_n h d_M_parts_60 rfl ⟨_, rfl⟩ ?_
            refine jj_g_M_found h  fl_M_28 d_M_parts_61 ?_
            refine jj_iconst h d_M_parts_64 ?_
            refine jj_iload_n h d_M_parts_65 rfl ?_
            refine jj_imul h d_M_parts_66 ?_
            refine jj_iconst h d_M_parts_67 ?_
            refine jj_isub h d_M_parts_68 ?_
            refine jj_iload h d_M_parts_69 rfl ?_
            refine jj_iastore (N := 400) h (by decide) (fun _ => rfl) (by decide) (by omega) (by omega) d_M_parts_71 ?_
            refine jj_iconst h d_M_parts_72 ?_
            refine jj_istore h d_M_parts_73 (Nat.le_of_ble_eq_true rfl) rfl ?_
            refine jj_iload h d_M_parts_75 rfl ?_
            refine jj_iconst h d_M_parts_77 ?_
            refine jj_icmp_ne h 83 d_M_parts_78 (by decide) ⟨by omega, by omega⟩ ⟨by omega, by omega⟩ (fun q78 => ?_) (fun q78 => ?_)
            · refine jj_aload_n h d_M_parts_83 rfl ⟨_, rfl⟩ ?_
              refine jj_iload_n h d_M_parts_84 rfl ?_
              refine jj_iload h d_M_parts_85 rfl ?_
              refine jj_callV h (cM_lineEnd (by omega) (by omega) hs (by rw [st_row (by decide)]; exact hbm)) cv_M_52 (ro_of he (by decide) (by decide)) rfl rfl (by decide) rfl rfl rfl (Nat.le_of_ble_eq_true rfl) d_M_parts_87 (fun v m87 hv => ?_)
              obtain ⟨rfl, rfl⟩ := hv
              rw [st_row (by decide), hsrc, hE]
              refine jj_istore h d_M_parts_90 (Nat.le_of_ble_eq_true rfl) rfl ?_
              refine jj_iload h d_M_parts_92 rfl ?_
              refine jj_iconst h d_M_parts_94 ?_
              refine jj_icmp_ne h 133 d_M_parts_95 (by decide) ⟨by omega, by omega⟩ ⟨by omega, by omega⟩ (fun q95 => absurd (by omega) q95) (fun _ => ?_)
              rw [if_neg q78, if_pos (by omega), ← List.append_assoc] at hRe
              have e8 := opn _ (dn ++ cls_ o last) none none none 0 last (by omega) (fun r hr => by rw [st_row hr]; exact hm r hr) fd3 (by rw [fl3]; omega) hRe
              rw [fl3] at e8
              exact e8
            · refine jj_iload_n h d_M_parts_81 rfl ?_
              refine jj_iret h he d_M_parts_82 ?_
              rw [if_pos q78] at hRe
              exact ⟨by rw [hRe, fl3], by rw [hRe]; exact fd3, by rw [hRe]; omega, fun r hr => by rw [st_row hr]; exact hm r hr⟩
  refine jj_iconst h d_M_parts_0 ?_
  refine jj_istore_n h d_M_parts_1 (Nat.le_of_ble_eq_true rfl) rfl ?_
  refine jj_aload_n h d_M_parts_2 rfl ⟨_, rfl⟩ ?_
  refine jj_iload_n h d_M_parts_3 rfl ?_
  refine jj_bipush h d_M_parts_4 (by decide) ?_
  refine jj_callV h (cM_of (by omega) (by omega)) cv_M_59 (ro_of he (by decide) (by decide)) rfl rfl (by decide) rfl rfl rfl (Nat.le_of_ble_eq_true rfl) d_M_parts_6 (fun v m6 hv => ?_)
  obtain ⟨rfl, rfl⟩ := hv
  rw [hd8]
  refine jj_istore_n h d_M_parts_9 (Nat.le_of_ble_eq_true rfl) rfl ?_
  refine jj_aload_n h d_M_parts_10 rfl ⟨_, rfl⟩ ?_
  refine jj_iload_n h d_M_parts_11 rfl ?_
  refine jj_bipush h d_M_parts_12 (by decide) ?_
  refine jj_callV h (cM_of (by omega) (by omega)) cv_M_59 (ro_of he (by decide) (by decide)) rfl rfl (by decide) rfl rfl rfl (Nat.le_of_ble_eq_true rfl) d_M_parts_14 (fun v m14 hv => ?_)
  obtain ⟨rfl, rfl⟩ := hv
  rw [hd9]
  refine jj_istore h d_M_parts_17 (Nat.le_of_ble_eq_true rfl) rfl ?_
  refine jj_iconst h d_M_parts_19 ?_
  refine jj_istore h d_M_parts_20 (Nat.le_of_ble_eq_true rfl) rfl ?_
  refine jj_iload_n h d_M_parts_22 rfl ?_
  refine jj_istore h d_M_parts_23 (Nat.le_of_ble_eq_true rfl) rfl ?_
  exact loop _ b b mem [] none _ none none none rfl (by omega) hbs ⟨by omega, by omega⟩ (Nat.le_refl _) (fun _ _ => rfl) (fun i q hq => by simp [cls_] at hq) (by simp [cls_]) hR.symm
