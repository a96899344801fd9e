/-! The class: base64 is taken off. -/
theorem b6x {B d : Int} (h0 : 0 ≤ B) (h1 : B < 65536) (h2 : 0 ≤ d) (h3 : d < 64) : iand_ (ior_ (ishl_ B 6) d) 65535 = (B * 64 + d) % 65536 := by
  rw [ishl_k 6 (P := 64) (by decide) (by decide) (by omega) (by omega), ior_k 6 (P := 64) (by decide) (by omega) (by omega) (by omega) (by omega), iand_k 16 (P := 65536) (by decide) (by decide) (by omega) (by omega)]
  omega
theorem b6y {x w P : Int} (k : Nat) {Q : Nat} (hQ : 2 ^ k = Q) (hw : ((Int32.ofInt w &&& 31).toBitVec.smod 32).toNat = k) (hP : P = Q) (h0 : 0 ≤ x) (h1 : x < 65536) : iand_ (ishr_ x w) 255 = x / P % 256 := by
  subst hP
  have hq : 0 ≤ x / (Q : Int) := Int.ediv_nonneg h0 (Int.natCast_nonneg Q)
  have hq2 : x / (Q : Int) ≤ x := Int.ediv_le_self _ h0
  rw [ishr_k k hQ hw (by omega) (by omega), iand_k 8 (P := 256) (by decide) (by decide) hq (by omega)]
  rfl
/-- the bits that wait -/
def bs_ : List Int → Int → Int → Prop
  | [], _, w => w = 0
  | [a], B, w => w = 6 ∧ B % 64 = a
  | [_, b], B, w => w = 4 ∧ B % 16 = b % 16
  | [_, _, c], B, w => w = 2 ∧ B % 4 = c % 4
  | _, _, _ => False
theorem gr_len : ∀ L : List Int, (gr L).length ≤ L.length
  | a :: b :: c :: d :: t => by
    have := gr_len t
    show ((a * 4 + b / 16) :: (b % 16 * 16 + c / 4) :: (c % 4 * 64 + d) :: gr t).length ≤ _
    simp only [List.length_cons]; omega
  | [a, b, c] => by show 2 ≤ 3; decide
  | [a, b] => by show 1 ≤ 2; decide
  | [a] => by show 0 ≤ 1; decide
  | [] => Nat.le_refl _
theorem cD_decodeBase64 {G : mt_G} {l : Launch} {mem : mt_M} {p e : Int} (hw : bw_ mem 3) (h5 : bw_ mem 5) (p0 : 0 ≤ p) (p1 : p ≤ e) (e1 : e ≤ mem 3 1) (hf : mem 5 1 + (e - p) ≤ 320) : CT G l y_D_decodeBase64 c_D_decodeBase64 7 none 6 [vr G 19, vi p, vi e] mem (fun v m' => v = none ∧ bL_ mem 5 (b64d (slc (mem 11) p e)) = m' ∧ ((b64d (slc (mem 11) p e)).length : Int) ≤ e - p) := by
  have hsz := hw.2.2.1
  have hl9 : ln_ (3 + 8) = 320 := rfl
  have hl5 : ln_ (5 + 8) = 320 := rfl
  have h50 := h5.2.1
  refine CT.intro (by decide) rfl (Nat.le_of_ble_eq_true rfl) (fun X h he => ?_)
  generalize hD : b64d (slc (mem 11) p e) = D at *
  have loop : ∀ (n : Nat) (i B w : Int) (oF rem : List Int) (x : Option Value), (e - i).toNat = n → p ≤ i → i ≤ e → 0 ≤ B → B < 65536 → bs_ rem B w → (∀ v ∈ rem, 0 ≤ v ∧ v ≤ 63) → (oF.length : Int) + rem.length ≤ i - p → D = oF ++ gr (rem ++ dgs (slc (mem 11) i e)) → JJ G X 0 0 (bL_ mem 5 (oF ++ gr rem)) 8 [some (vr G 19), some (vi p), some (vi e), some (vi B), some (vi w), some (vi i), x] [] := by
    intro n
    induction n with
    | zero =>
      intro i B w oF rem x k1 k2 k3 k4 k5 k6 k7 k8 k9
      rw [slc_nil (by omega), show dgs [] = [] from rfl, List.append_nil] at k9
      have hg := gr_len rem
      have hDl : (D.length : Int) ≤ e - p := by rw [k9, List.length_append]; omega
      rw [← k9]
      refine jj_iload h d_D_decodeBase64_8 rfl ?_
      refine jj_iload_n h d_D_decodeBase64_10 rfl ?_
      refine jj_icmp_ge h 92 d_D_decodeBase64_11 (by decide) ⟨by omega, by omega⟩ ⟨by omega, by omega⟩ (fun _ => ?_) (fun q11 => absurd (by omega) q11)
      refine jj_vret h he d_D_decodeBase64_92 ?_
      exact ⟨rfl, rfl, hDl⟩
    | succ n ih =>
      intro i B w oF rem x k1 k2 k3 k4 k5 k6 k7 k8 k9
      have hg := gr_len rem
      have hw06 : 0 ≤ w ∧ w ≤ 6 := by
        match rem, k6 with
        | [], z => have z' : w = 0 := z; omega
        | [a], z => have z' : w = 6 ∧ B % 64 = a := z; omega
        | [a, b], z => have z' : w = 4 ∧ B % 16 = b % 16 := z; omega
        | [a, b, c], z => have z' : w = 2 ∧ B % 4 = c % 4 := z; omega
        | _ :: _ :: _ :: _ :: _, z => exact absurd z (fun z => z)
      have hol : ((oF ++ gr rem).length : Int) ≤ i - p := by rw [List.length_append]; omega
      obtain ⟨f1, f2, f3, f4⟩ := bL_fit (r := 5) (oF ++ gr rem) mem h50 (by rw [hl5]; omega)
      have r3 : bL_ mem 5 (oF ++ gr rem) 3 = mem 3 := bL_row (by decide) (by decide) _ _
      have r11 : bL_ mem 5 (oF ++ gr rem) 11 = mem 11 := bL_row (by decide) (by decide) _ _
      have hwm : bw_ (bL_ mem 5 (oF ++ gr rem)) 3 := hw.mov r3 r11
      have hm5 : 0 ≤ bL_ mem 5 (oF ++ gr rem) 5 1 ∧ bL_ mem 5 (oF ++ gr rem) 5 1 ≤ 320 := by omega
      have hby : 0 ≤ mem 11 i ∧ mem 11 i ≤ 255 := hw.2.2.2 i (by omega) (by omega)
      have hcs : slc (mem 11) i e = mem 11 i :: slc (mem 11) (i + 1) e := slc_cons (by omega)
      have hdg : dgs (slc (mem 11) i e) = if mem 11 i = 61 then [] else if 0 ≤ ltv (mem 11 i) then ltv (mem 11 i) :: dgs (slc (mem 11) (i + 1) e) else dgs (slc (mem 11) (i + 1) e) := by rw [hcs]; rfl
      have hlt := ltv_b (mem 11 i)
      by_cases c61 : mem 11 i = 61
      · rw [hdg, if_pos c61, List.append_nil] at k9
        have hDl : (D.length : Int) ≤ e - p := by rw [k9]; omega
        rw [← k9] at r3 r11 hwm hm5 ⊢
        refine jj_iload h d_D_decodeBase64_8 rfl ?_
        refine jj_iload_n h d_D_decodeBase64_10 rfl ?_
        refine jj_icmp_ge h 92 d_D_decodeBase64_11 (by decide) ⟨by omega, by omega⟩ ⟨by omega, by omega⟩ (fun q11 => absurd q11 (by omega)) (fun _ => ?_)
        refine jj_aload_n h d_D_decodeBase64_14 rfl ⟨_, rfl⟩ ?_
        refine jj_g_D_source h  fl_D_9 d_D_decodeBase64_15 ?_
        refine jj_iload h d_D_decodeBase64_18 rfl ?_
        refine jj_callV h (cB_in hwm (by omega) (by rw [r3]; omega)) cv_D_52 (ro_of he (by first | decide | omega) (by decide)) rfl rfl (by unfold mt_N; omega) (ce_B (by omega)) rfl rfl (Nat.le_of_ble_eq_true rfl) d_D_decodeBase64_20 (fun v m20 hv => ?_)
        obtain ⟨rfl, rfl⟩ := hv
        show JJ G X 0 0 (bL_ mem 5 D) _ _ (vi (bL_ mem 5 D 11 i) :: _)
        rw [r11]
        refine jj_bipush h d_D_decodeBase64_23 (by decide) ?_
        refine jj_icmp_eq h 92 d_D_decodeBase64_25 (by decide) ⟨by omega, by omega⟩ ⟨by omega, by omega⟩ (fun _ => ?_) (fun q25 => absurd (c61) q25)
        refine jj_vret h he d_D_decodeBase64_92 ?_
        exact ⟨rfl, rfl, hDl⟩
      rw [hdg, if_neg c61] at k9
      have nx : ∀ (B' w' : Int) (oF' rem' : List Int) (y : Option Value), 0 ≤ B' → B' < 65536 → bs_ rem' B' w' → (∀ v ∈ rem', 0 ≤ v ∧ v ≤ 63) → (oF'.length : Int) + rem'.length ≤ i + 1 - p → D = oF' ++ gr (rem' ++ dgs (slc (mem 11) (i + 1) e)) → JJ G X 0 0 (bL_ mem 5 (oF' ++ gr rem')) 86 [some (vr G 19), some (vi p), some (vi e), some (vi B'), some (vi w'), some (vi i), y] [] := by
        intro B' w' oF' rem' y a1 a2 a3 a4 a5 a6
        refine jj_iinc h d_D_decodeBase64_86 rfl rfl ?_
        refine jj_goto h 8 d_D_decodeBase64_89 (by decide) ?_
        exact ih (i + 1) B' w' oF' rem' y (by omega) (by omega) (by omega) a1 a2 a3 a4 a5 a6
      generalize hd : ltv (mem 11 i) = d at *
      by_cases hd0 : 0 ≤ d
      · rw [if_pos hd0] at k9
        have hx := b6x k4 k5 hd0 (by omega)
        have hx0 : 0 ≤ (B * 64 + d) % 65536 ∧ (B * 64 + d) % 65536 < 65536 := by omega
        have hrem : ∀ v ∈ rem ++ [d], 0 ≤ v ∧ v ≤ 63 := fun v hv => by
          rcases List.mem_append.mp hv with hv | hv
          · exact k7 v hv
          · rw [List.mem_singleton.mp hv]; omega
        rw [show rem ++ d :: dgs (slc (mem 11) (i + 1) e) = (rem ++ [d]) ++ dgs (slc (mem 11) (i + 1) e) by rw [List.append_assoc]; rfl] at k9
        rcases rem with _ | ⟨a, _ | ⟨b, _ | ⟨c, _ | ⟨c4, t4⟩⟩⟩⟩
        · have z' : w = 0 := k6
          subst z'
          have hnx := nx ((B * 64 + d) % 65536) 6 oF [d] (some (vi d)) hx0.1 hx0.2 ⟨rfl, by omega⟩ hrem (by have : (oF.length : Int) + ((0 : Nat) : Int) ≤ i - p := k8; show (oF.length : Int) + ((1 : Nat) : Int) ≤ _; omega) k9
          refine jj_iload h d_D_decodeBase64_8 rfl ?_
          refine jj_iload_n h d_D_decodeBase64_10 rfl ?_
          refine jj_icmp_ge h 92 d_D_decodeBase64_11 (by decide) ⟨by omega, by omega⟩ ⟨by omega, by omega⟩ (fun q11 => absurd q11 (by omega)) (fun _ => ?_)
          refine jj_aload_n h d_D_decodeBase64_14 rfl ⟨_, rfl⟩ ?_
          refine jj_g_D_source h  fl_D_9 d_D_decodeBase64_15 ?_
          refine jj_iload h d_D_decodeBase64_18 rfl ?_
          refine jj_callV h (cB_in hwm (by omega) (by rw [r3]; omega)) cv_D_52 (ro_of he (by first | decide | omega) (by decide)) rfl rfl (by unfold mt_N; omega) (ce_B (by omega)) rfl rfl (Nat.le_of_ble_eq_true rfl) d_D_decodeBase64_20 (fun v m20 hv => ?_)
          obtain ⟨rfl, rfl⟩ := hv
          show JJ G X 0 0 (bL_ mem 5 _) _ _ (vi (bL_ mem 5 (oF ++ gr []) 11 i) :: _)
          rw [r11]
          refine jj_bipush h d_D_decodeBase64_23 (by decide) ?_
          refine jj_icmp_eq h 92 d_D_decodeBase64_25 (by decide) ⟨by omega, by omega⟩ ⟨by omega, by omega⟩ (fun q25 => absurd q25 (c61)) (fun _ => ?_)
          refine jj_aload_n h d_D_decodeBase64_28 rfl ⟨_, rfl⟩ ?_
          refine jj_g_D_source h  fl_D_9 d_D_decodeBase64_29 ?_
          refine jj_iload h d_D_decodeBase64_32 rfl ?_
          refine jj_callV h (cB_in hwm (by omega) (by rw [r3]; omega)) cv_D_52 (ro_of he (by first | decide | omega) (by decide)) rfl rfl (by unfold mt_N; omega) (ce_B (by omega)) rfl rfl (Nat.le_of_ble_eq_true rfl) d_D_decodeBase64_34 (fun v m34 hv => ?_)
          obtain ⟨rfl, rfl⟩ := hv
          show JJ G X 0 0 (bL_ mem 5 _) _ _ (vi (bL_ mem 5 (oF ++ gr []) 11 i) :: _)
          rw [r11]
          refine jj_callN h (cX_base64Digit hby) cv_D_56 (ro_of he (by first | decide | omega) (by decide)) rfl rfl rfl (Nat.le_of_ble_eq_true rfl) d_D_decodeBase64_37 (fun v m37 hv => ?_)
          obtain ⟨rfl, rfl⟩ := hv
          rw [hd]
          refine jj_istore h d_D_decodeBase64_40 (Nat.le_of_ble_eq_true rfl) rfl ?_
          refine jj_iload h d_D_decodeBase64_42 rfl ?_
          refine jj_if_lt h 61 d_D_decodeBase64_44 (by decide) ⟨by omega, by omega⟩ (fun q44 => absurd q44 (by omega)) (fun _ => ?_)
          refine jj_iload_n h d_D_decodeBase64_47 rfl ?_
          refine jj_bipush h d_D_decodeBase64_48 (by decide) ?_
          refine jj_ishl h d_D_decodeBase64_50 ?_
          refine jj_iload h d_D_decodeBase64_51 rfl ?_
          refine jj_ior h d_D_decodeBase64_53 ?_
          refine jj_ldc h (65535) d_D_decodeBase64_54 wk_D_59 ?_
          refine jj_iand h d_D_decodeBase64_56 ?_
          rw [hx]
          refine jj_istore_n h d_D_decodeBase64_57 (Nat.le_of_ble_eq_true rfl) rfl ?_
          refine jj_iinc h d_D_decodeBase64_58 rfl rfl ?_
          refine jj_iload h d_D_decodeBase64_61 rfl ?_
          refine jj_bipush h d_D_decodeBase64_63 (by decide) ?_
          refine jj_icmp_lt h 86 d_D_decodeBase64_65 (by decide) ⟨by omega, by omega⟩ ⟨by omega, by omega⟩ (fun _ => ?_) (fun q65 => absurd (by omega) q65)
          exact hnx
        · have z' : w = 6 ∧ B % 64 = a := k6
          obtain ⟨rfl, zb⟩ := z'
          have hy := b6y (x := (B * 64 + d) % 65536) (w := 4) (P := 16) 4 (Q := 16) (by decide) (by decide) rfl hx0.1 hx0.2
          have hyv : (B * 64 + d) % 65536 / 16 % 256 = a * 4 + d / 16 := by omega
          have hnx := nx ((B * 64 + d) % 65536) 4 oF [a, d] (some (vi d)) hx0.1 hx0.2 ⟨rfl, by omega⟩ hrem (by have : (oF.length : Int) + ((1 : Nat) : Int) ≤ i - p := k8; show (oF.length : Int) + ((2 : Nat) : Int) ≤ _; omega) k9
          rw [show oF ++ gr [a, d] = (oF ++ gr [a]) ++ [a * 4 + d / 16] by rw [List.append_assoc]; rfl, bL_snoc] at hnx
          refine jj_iload h d_D_decodeBase64_8 rfl ?_
          refine jj_iload_n h d_D_decodeBase64_10 rfl ?_
          refine jj_icmp_ge h 92 d_D_decodeBase64_11 (by decide) ⟨by omega, by omega⟩ ⟨by omega, by omega⟩ (fun q11 => absurd q11 (by omega)) (fun _ => ?_)
          refine jj_aload_n h d_D_decodeBase64_14 rfl ⟨_, rfl⟩ ?_
          refine jj_g_D_source h  fl_D_9 d_D_decodeBase64_15 ?_
          refine jj_iload h d_D_decodeBase64_18 rfl ?_
          refine jj_callV h (cB_in hwm (by omega) (by rw [r3]; omega)) cv_D_52 (ro_of he (by first | decide | omega) (by decide)) rfl rfl (by unfold mt_N; omega) (ce_B (by omega)) rfl rfl (Nat.le_of_ble_eq_true rfl) d_D_decodeBase64_20 (fun v m20 hv => ?_)
          obtain ⟨rfl, rfl⟩ := hv
          show JJ G X 0 0 (bL_ mem 5 _) _ _ (vi (bL_ mem 5 (oF ++ gr [a]) 11 i) :: _)
          rw [r11]
          refine jj_bipush h d_D_decodeBase64_23 (by decide) ?_
          refine jj_icmp_eq h 92 d_D_decodeBase64_25 (by decide) ⟨by omega, by omega⟩ ⟨by omega, by omega⟩ (fun q25 => absurd q25 (c61)) (fun _ => ?_)
          refine jj_aload_n h d_D_decodeBase64_28 rfl ⟨_, rfl⟩ ?_
          refine jj_g_D_source h  fl_D_9 d_D_decodeBase64_29 ?_
          refine jj_iload h d_D_decodeBase64_32 rfl ?_
          refine jj_callV h (cB_in hwm (by omega) (by rw [r3]; omega)) cv_D_52 (ro_of he (by first | decide | omega) (by decide)) rfl rfl (by unfold mt_N; omega) (ce_B (by omega)) rfl rfl (Nat.le_of_ble_eq_true rfl) d_D_decodeBase64_34 (fun v m34 hv => ?_)
          obtain ⟨rfl, rfl⟩ := hv
          show JJ G X 0 0 (bL_ mem 5 _) _ _ (vi (bL_ mem 5 (oF ++ gr [a]) 11 i) :: _)
          rw [r11]
          refine jj_callN h (cX_base64Digit hby) cv_D_56 (ro_of he (by first | decide | omega) (by decide)) rfl rfl rfl (Nat.le_of_ble_eq_true rfl) d_D_decodeBase64_37 (fun v m37 hv => ?_)
          obtain ⟨rfl, rfl⟩ := hv
          rw [hd]
          refine jj_istore h d_D_decodeBase64_40 (Nat.le_of_ble_eq_true rfl) rfl ?_
          refine jj_iload h d_D_decodeBase64_42 rfl ?_
          refine jj_if_lt h 61 d_D_decodeBase64_44 (by decide) ⟨by omega, by omega⟩ (fun q44 => absurd q44 (by omega)) (fun _ => ?_)
          refine jj_iload_n h d_D_decodeBase64_47 rfl ?_
          refine jj_bipush h d_D_decodeBase64_48 (by decide) ?_
          refine jj_ishl h d_D_decodeBase64_50 ?_
          refine jj_iload h d_D_decodeBase64_51 rfl ?_
          refine jj_ior h d_D_decodeBase64_53 ?_
          refine jj_ldc h (65535) d_D_decodeBase64_54 wk_D_59 ?_
          refine jj_iand h d_D_decodeBase64_56 ?_
          rw [hx]
          refine jj_istore_n h d_D_decodeBase64_57 (Nat.le_of_ble_eq_true rfl) rfl ?_
          refine jj_iinc h d_D_decodeBase64_58 rfl rfl ?_
          refine jj_iload h d_D_decodeBase64_61 rfl ?_
          refine jj_bipush h d_D_decodeBase64_63 (by decide) ?_
          refine jj_icmp_lt h 86 d_D_decodeBase64_65 (by decide) ⟨by omega, by omega⟩ ⟨by omega, by omega⟩ (fun q65 => absurd q65 (by omega)) (fun _ => ?_)
          refine jj_iinc h d_D_decodeBase64_68 rfl rfl ?_
          refine jj_aload_n h d_D_decodeBase64_71 rfl ⟨_, rfl⟩ ?_
          refine jj_g_D_contents h  fl_D_15 d_D_decodeBase64_72 ?_
          refine jj_iload_n h d_D_decodeBase64_75 rfl ?_
          refine jj_iload h d_D_decodeBase64_76 rfl ?_
          refine jj_ishr h d_D_decodeBase64_78 ?_
          refine jj_sipush h d_D_decodeBase64_79 (by decide) ?_
          refine jj_iand h d_D_decodeBase64_82 ?_
          rw [show (6 : Int) + 6 + -8 = 4 from rfl, hy, hyv]
          refine jj_callV h (cB_put ⟨by decide, by decide⟩ hm5.1 (by show _ ≤ (320 : Int); exact hm5.2)) cv_D_60 (ro_of he (by first | decide | omega) (by decide)) rfl rfl (by unfold mt_N; omega) (ce_B (by omega)) rfl rfl (Nat.le_of_ble_eq_true rfl) d_D_decodeBase64_83 (fun v m83 hv => ?_)
          obtain ⟨rfl, rfl⟩ := hv
          exact hnx
        · have z' : w = 4 ∧ B % 16 = b % 16 := k6
          obtain ⟨rfl, zb⟩ := z'
          have hb9 := hrem b (by simp)
          have hy := b6y (x := (B * 64 + d) % 65536) (w := 2) (P := 4) 2 (Q := 4) (by decide) (by decide) rfl hx0.1 hx0.2
          have hyv : (B * 64 + d) % 65536 / 4 % 256 = b % 16 * 16 + d / 4 := by omega
          have hnx := nx ((B * 64 + d) % 65536) 2 oF [a, b, d] (some (vi d)) hx0.1 hx0.2 ⟨rfl, by omega⟩ hrem (by have : (oF.length : Int) + ((2 : Nat) : Int) ≤ i - p := k8; show (oF.length : Int) + ((3 : Nat) : Int) ≤ _; omega) k9
          rw [show oF ++ gr [a, b, d] = (oF ++ gr [a, b]) ++ [b % 16 * 16 + d / 4] by rw [List.append_assoc]; rfl, bL_snoc] at hnx
          refine jj_iload h d_D_decodeBase64_8 rfl ?_
          refine jj_iload_n h d_D_decodeBase64_10 rfl ?_
          refine jj_icmp_ge h 92 d_D_decodeBase64_11 (by decide) ⟨by omega, by omega⟩ ⟨by omega, by omega⟩ (fun q11 => absurd q11 (by omega)) (fun _ => ?_)
          refine jj_aload_n h d_D_decodeBase64_14 rfl ⟨_, rfl⟩ ?_
          refine jj_g_D_source h  fl_D_9 d_D_decodeBase64_15 ?_
          refine jj_iload h d_D_decodeBase64_18 rfl ?_
          refine jj_callV h (cB_in hwm (by omega) (by rw [r3]; omega)) cv_D_52 (ro_of he (by first | decide | omega) (by decide)) rfl rfl (by unfold mt_N; omega) (ce_B (by omega)) rfl rfl (Nat.le_of_ble_eq_true rfl) d_D_decodeBase64_20 (fun v m20 hv => ?_)
          obtain ⟨rfl, rfl⟩ := hv
          show JJ G X 0 0 (bL_ mem 5 _) _ _ (vi (bL_ mem 5 (oF ++ gr [a, b]) 11 i) :: _)
          rw [r11]
          refine jj_bipush h d_D_decodeBase64_23 (by decide) ?_
          refine jj_icmp_eq h 92 d_D_decodeBase64_25 (by decide) ⟨by omega, by omega⟩ ⟨by omega, by omega⟩ (fun q25 => absurd q25 (c61)) (fun _ => ?_)
          refine jj_aload_n h d_D_decodeBase64_28 rfl ⟨_, rfl⟩ ?_
          refine jj_g_D_source h  fl_D_9 d_D_decodeBase64_29 ?_
          refine jj_iload h d_D_decodeBase64_32 rfl ?_
          refine jj_callV h (cB_in hwm (by omega) (by rw [r3]; omega)) cv_D_52 (ro_of he (by first | decide | omega) (by decide)) rfl rfl (by unfold mt_N; omega) (ce_B (by omega)) rfl rfl (Nat.le_of_ble_eq_true rfl) d_D_decodeBase64_34 (fun v m34 hv => ?_)
          obtain ⟨rfl, rfl⟩ := hv
          show JJ G X 0 0 (bL_ mem 5 _) _ _ (vi (bL_ mem 5 (oF ++ gr [a, b]) 11 i) :: _)
          rw [r11]
          refine jj_callN h (cX_base64Digit hby) cv_D_56 (ro_of he (by first | decide | omega) (by decide)) rfl rfl rfl (Nat.le_of_ble_eq_true rfl) d_D_decodeBase64_37 (fun v m37 hv => ?_)
          obtain ⟨rfl, rfl⟩ := hv
          rw [hd]
          refine jj_istore h d_D_decodeBase64_40 (Nat.le_of_ble_eq_true rfl) rfl ?_
          refine jj_iload h d_D_decodeBase64_42 rfl ?_
          refine jj_if_lt h 61 d_D_decodeBase64_44 (by decide) ⟨by omega, by omega⟩ (fun q44 => absurd q44 (by omega)) (fun _ => ?_)
          refine jj_iload_n h d_D_decodeBase64_47 rfl ?_
          refine jj_bipush h d_D_decodeBase64_48 (by decide) ?_
          refine jj_ishl h d_D_decodeBase64_50 ?_
          refine jj_iload h d_D_decodeBase64_51 rfl ?_
          refine jj_ior h d_D_decodeBase64_53 ?_
          refine jj_ldc h (65535) d_D_decodeBase64_54 wk_D_59 ?_
          refine jj_iand h d_D_decodeBase64_56 ?_
          rw [hx]
          refine jj_istore_n h d_D_decodeBase64_57 (Nat.le_of_ble_eq_true rfl) rfl ?_
          refine jj_iinc h d_D_decodeBase64_58 rfl rfl ?_
          refine jj_iload h d_D_decodeBase64_61 rfl ?_
          refine jj_bipush h d_D_decodeBase64_63 (by decide) ?_
          refine jj_icmp_lt h 86 d_D_decodeBase64_65 (by decide) ⟨by omega, by omega⟩ ⟨by omega, by omega⟩ (fun q65 => absurd q65 (by omega)) (fun _ => ?_)
          refine jj_iinc h d_D_decodeBase64_68 rfl rfl ?_
          refine jj_aload_n h d_D_decodeBase64_71 rfl ⟨_, rfl⟩ ?_
          refine jj_g_D_contents h  fl_D_15 d_D_decodeBase64_72 ?_
          refine jj_iload_n h d_D_decodeBase64_75 rfl ?_
          refine jj_iload h d_D_decodeBase64_76 rfl ?_
          refine jj_ishr h d_D_decodeBase64_78 ?_
          refine jj_sipush h d_D_decodeBase64_79 (by decide) ?_
          refine jj_iand h d_D_decodeBase64_82 ?_
          rw [show (4 : Int) + 6 + -8 = 2 from rfl, hy, hyv]
          refine jj_callV h (cB_put ⟨by decide, by decide⟩ hm5.1 (by show _ ≤ (320 : Int); exact hm5.2)) cv_D_60 (ro_of he (by first | decide | omega) (by decide)) rfl rfl (by unfold mt_N; omega) (ce_B (by omega)) rfl rfl (Nat.le_of_ble_eq_true rfl) d_D_decodeBase64_83 (fun v m83 hv => ?_)
          obtain ⟨rfl, rfl⟩ := hv
          exact hnx
        · have z' : w = 2 ∧ B % 4 = c % 4 := k6
          obtain ⟨rfl, zb⟩ := z'
          have hc9 := hrem c (by simp)
          have hy := b6y (x := (B * 64 + d) % 65536) (w := 0) (P := 1) 0 (Q := 1) (by decide) (by decide) rfl hx0.1 hx0.2
          have hyv : (B * 64 + d) % 65536 / 1 % 256 = c % 4 * 64 + d := by omega
          have hnx := nx ((B * 64 + d) % 65536) 0 (oF ++ [a * 4 + b / 16, b % 16 * 16 + c / 4, c % 4 * 64 + d]) [] (some (vi d)) hx0.1 hx0.2 rfl (fun v hv => by cases hv) (by have : (oF.length : Int) + ((3 : Nat) : Int) ≤ i - p := k8; rw [List.length_append]; show ((oF.length + 3 : Nat) : Int) + ((0 : Nat) : Int) ≤ _; omega) (by rw [k9, List.append_assoc oF]; rfl)
          rw [show (oF ++ [a * 4 + b / 16, b % 16 * 16 + c / 4, c % 4 * 64 + d]) ++ gr [] = (oF ++ gr [a, b, c]) ++ [c % 4 * 64 + d] by rw [List.append_assoc, List.append_assoc]; rfl, bL_snoc] at hnx
          refine jj_iload h d_D_decodeBase64_8 rfl ?_
          refine jj_iload_n h d_D_decodeBase64_10 rfl ?_
          refine jj_icmp_ge h 92 d_D_decodeBase64_11 (by decide) ⟨by omega, by omega⟩ ⟨by omega, by omega⟩ (fun q11 => absurd q11 (by omega)) (fun _ => ?_)
          refine jj_aload_n h d_D_decodeBase64_14 rfl ⟨_, rfl⟩ ?_
          refine jj_g_D_source h  fl_D_9 d_D_decodeBase64_15 ?_
          refine jj_iload h d_D_decodeBase64_18 rfl ?_
          refine jj_callV h (cB_in hwm (by omega) (by rw [r3]; omega)) cv_D_52 (ro_of he (by first | decide | omega) (by decide)) rfl rfl (by unfold mt_N; omega) (ce_B (by omega)) rfl rfl (Nat.le_of_ble_eq_true rfl) d_D_decodeBase64_20 (fun v m20 hv => ?_)
          obtain ⟨rfl, rfl⟩ := hv
          show JJ G X 0 0 (bL_ mem 5 _) _ _ (vi (bL_ mem 5 (oF ++ gr [a, b, c]) 11 i) :: _)
          rw [r11]
          refine jj_bipush h d_D_decodeBase64_23 (by decide) ?_
          refine jj_icmp_eq h 92 d_D_decodeBase64_25 (by decide) ⟨by omega, by omega⟩ ⟨by omega, by omega⟩ (fun q25 => absurd q25 (c61)) (fun _ => ?_)
          refine jj_aload_n h d_D_decodeBase64_28 rfl ⟨_, rfl⟩ ?_
          refine jj_g_D_source h  fl_D_9 d_D_decodeBase64_29 ?_
          refine jj_iload h d_D_decodeBase64_32 rfl ?_
          refine jj_callV h (cB_in hwm (by omega) (by rw [r3]; omega)) cv_D_52 (ro_of he (by first | decide | omega) (by decide)) rfl rfl (by unfold mt_N; omega) (ce_B (by omega)) rfl rfl (Nat.le_of_ble_eq_true rfl) d_D_decodeBase64_34 (fun v m34 hv => ?_)
          obtain ⟨rfl, rfl⟩ := hv
          show JJ G X 0 0 (bL_ mem 5 _) _ _ (vi (bL_ mem 5 (oF ++ gr [a, b, c]) 11 i) :: _)
          rw [r11]
          refine jj_callN h (cX_base64Digit hby) cv_D_56 (ro_of he (by first | decide | omega) (by decide)) rfl rfl rfl (Nat.le_of_ble_eq_true rfl) d_D_decodeBase64_37 (fun v m37 hv => ?_)
          obtain ⟨rfl, rfl⟩ := hv
          rw [hd]
          refine jj_istore h d_D_decodeBase64_40 (Nat.le_of_ble_eq_true rfl) rfl ?_
          refine jj_iload h d_D_decodeBase64_42 rfl ?_
          refine jj_if_lt h 61 d_D_decodeBase64_44 (by decide) ⟨by omega, by omega⟩ (fun q44 => absurd q44 (by omega)) (fun _ => ?_)
          refine jj_iload_n h d_D_decodeBase64_47 rfl ?_
          refine jj_bipush h d_D_decodeBase64_48 (by decide) ?_
          refine jj_ishl h d_D_decodeBase64_50 ?_
          refine jj_iload h d_D_decodeBase64_51 rfl ?_
          refine jj_ior h d_D_decodeBase64_53 ?_
          refine jj_ldc h (65535) d_D_decodeBase64_54 wk_D_59 ?_
          refine jj_iand h d_D_decodeBase64_56 ?_
          rw [hx]
          refine jj_istore_n h d_D_decodeBase64_57 (Nat.le_of_ble_eq_true rfl) rfl ?_
          refine jj_iinc h d_D_decodeBase64_58 rfl rfl ?_
          refine jj_iload h d_D_decodeBase64_61 rfl ?_
          refine jj_bipush h d_D_decodeBase64_63 (by decide) ?_
          refine jj_icmp_lt h 86 d_D_decodeBase64_65 (by decide) ⟨by omega, by omega⟩ ⟨by omega, by omega⟩ (fun q65 => absurd q65 (by omega)) (fun _ => ?_)
          refine jj_iinc h d_D_decodeBase64_68 rfl rfl ?_
          refine jj_aload_n h d_D_decodeBase64_71 rfl ⟨_, rfl⟩ ?_
          refine jj_g_D_contents h  fl_D_15 d_D_decodeBase64_72 ?_
          refine jj_iload_n h d_D_decodeBase64_75 rfl ?_
          refine jj_iload h d_D_decodeBase64_76 rfl ?_
          refine jj_ishr h d_D_decodeBase64_78 ?_
          refine jj_sipush h d_D_decodeBase64_79 (by decide) ?_
          refine jj_iand h d_D_decodeBase64_82 ?_
          rw [show (2 : Int) + 6 + -8 = 0 from rfl, hy, hyv]
          refine jj_callV h (cB_put ⟨by decide, by decide⟩ hm5.1 (by show _ ≤ (320 : Int); exact hm5.2)) cv_D_60 (ro_of he (by first | decide | omega) (by decide)) rfl rfl (by unfold mt_N; omega) (ce_B (by omega)) rfl rfl (Nat.le_of_ble_eq_true rfl) d_D_decodeBase64_83 (fun v m83 hv => ?_)
          obtain ⟨rfl, rfl⟩ := hv
          exact hnx
        · exact absurd k6 (fun z => z)
      · rw [if_neg hd0] at k9
        have hnx := nx B w oF rem (some (vi d)) k4 k5 k6 k7 (by omega) k9
        refine jj_iload h d_D_decodeBase64_8 rfl ?_
        refine jj_iload_n h d_D_decodeBase64_10 rfl ?_
        refine jj_icmp_ge h 92 d_D_decodeBase64_11 (by decide) ⟨by omega, by omega⟩ ⟨by omega, by omega⟩ (fun q11 => absurd q11 (by omega)) (fun _ => ?_)
        refine jj_aload_n h d_D_decodeBase64_14 rfl ⟨_, rfl⟩ ?_
        refine jj_g_D_source h  fl_D_9 d_D_decodeBase64_15 ?_
        refine jj_iload h d_D_decodeBase64_18 rfl ?_
        refine jj_callV h (cB_in hwm (by omega) (by rw [r3]; omega)) cv_D_52 (ro_of he (by first | decide | omega) (by decide)) rfl rfl (by unfold mt_N; omega) (ce_B (by omega)) rfl rfl (Nat.le_of_ble_eq_true rfl) d_D_decodeBase64_20 (fun v m20 hv => ?_)
        obtain ⟨rfl, rfl⟩ := hv
        show JJ G X 0 0 (bL_ mem 5 _) _ _ (vi (bL_ mem 5 (oF ++ gr rem) 11 i) :: _)
        rw [r11]
        refine jj_bipush h d_D_decodeBase64_23 (by decide) ?_
        refine jj_icmp_eq h 92 d_D_decodeBase64_25 (by decide) ⟨by omega, by omega⟩ ⟨by omega, by omega⟩ (fun q25 => absurd q25 (c61)) (fun _ => ?_)
        refine jj_aload_n h d_D_decodeBase64_28 rfl ⟨_, rfl⟩ ?_
        refine jj_g_D_source h  fl_D_9 d_D_decodeBase64_29 ?_
        refine jj_iload h d_D_decodeBase64_32 rfl ?_
        refine jj_callV h (cB_in hwm (by omega) (by rw [r3]; omega)) cv_D_52 (ro_of he (by first | decide | omega) (by decide)) rfl rfl (by unfold mt_N; omega) (ce_B (by omega)) rfl rfl (Nat.le_of_ble_eq_true rfl) d_D_decodeBase64_34 (fun v m34 hv => ?_)
        obtain ⟨rfl, rfl⟩ := hv
        show JJ G X 0 0 (bL_ mem 5 _) _ _ (vi (bL_ mem 5 (oF ++ gr rem) 11 i) :: _)
        rw [r11]
        refine jj_callN h (cX_base64Digit hby) cv_D_56 (ro_of he (by first | decide | omega) (by decide)) rfl rfl rfl (Nat.le_of_ble_eq_true rfl) d_D_decodeBase64_37 (fun v m37 hv => ?_)
        obtain ⟨rfl, rfl⟩ := hv
        rw [hd]
        refine jj_istore h d_D_decodeBase64_40 (Nat.le_of_ble_eq_true rfl) rfl ?_
        refine jj_iload h d_D_decodeBase64_42 rfl ?_
        refine jj_if_lt h 61 d_D_decodeBase64_44 (by decide) ⟨by omega, by omega⟩ (fun _ => ?_) (fun q44 => absurd (by omega) q44)
        refine jj_iload h d_D_decodeBase64_61 rfl ?_
        refine jj_bipush h d_D_decodeBase64_63 (by decide) ?_
        refine jj_icmp_lt h 86 d_D_decodeBase64_65 (by decide) ⟨by omega, by omega⟩ ⟨by omega, by omega⟩ (fun _ => ?_) (fun q65 => absurd (by omega) q65)
        exact hnx
  refine jj_iconst h d_D_decodeBase64_0 ?_
  refine jj_istore_n h d_D_decodeBase64_1 (Nat.le_of_ble_eq_true rfl) rfl ?_
  refine jj_iconst h d_D_decodeBase64_2 ?_
  refine jj_istore h d_D_decodeBase64_3 (Nat.le_of_ble_eq_true rfl) rfl ?_
  refine jj_iload_n h d_D_decodeBase64_5 rfl ?_
  refine jj_istore h d_D_decodeBase64_6 (Nat.le_of_ble_eq_true rfl) rfl ?_
  exact loop _ p 0 0 [] [] none rfl (Int.le_refl _) p1 (Int.le_refl _) (by decide) rfl (fun v hv => by cases hv) (by show ((0 : Nat) : Int) + ((0 : Nat) : Int) ≤ _; omega) (by rw [← hD]; rfl)
