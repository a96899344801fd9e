/-! The class writes base64. -/
def tG_ (g x0 x1 x2 : Int) : List Int := [tl_ (x0 / 4), tl_ (x0 % 4 * 16 + x1 / 16), if 2 ≤ g then tl_ (x1 % 16 * 4 + x2 / 64) else 61, if 3 ≤ g then tl_ (x2 % 64) else 61]
set_option maxHeartbeats 6000000 in
theorem cP_printThree {G : mt_G} {l : Launch} {mem : mt_M} {q g x0 x1 x2 : Int} (hw : bw_ mem 5) (h8 : 0 ≤ mem 8 1 ∧ mem 8 1 ≤ 700) (q0 : 0 ≤ q) (g1 : 1 ≤ g) (g3 : g ≤ 3) (e1 : q + g ≤ mem 5 1) (hx0 : x0 = mem 13 q) (hx1 : x1 = if 1 < g then mem 13 (q + 1) else 0) (hx2 : x2 = if 2 < g then mem 13 (q + 2) else 0) : CT G l y_P_printThreeBytes c_P_printThreeBytes 6 none 5 [vr G 20, vi q, vi g] mem (fun v m' => v = none ∧ bL_ mem 8 (tG_ g x0 x1 x2) = m') := by
  have hsz := hw.2.2.1
  have hl5 : ln_ (5 + 8) = 320 := rfl
  have hl8 : ln_ (8 + 8) = 700 := rfl
  have b0 : 0 ≤ x0 ∧ x0 ≤ 255 := by rw [hx0]; exact hw.2.2.2 q q0 (by omega)
  have b1 : 0 ≤ x1 ∧ x1 ≤ 255 := by
    rw [hx1]; split
    · exact hw.2.2.2 (q + 1) (by omega) (by omega)
    · decide
  have b2 : 0 ≤ x2 ∧ x2 ≤ 255 := by
    rw [hx2]; split
    · exact hw.2.2.2 (q + 2) (by omega) (by omega)
    · decide
  have sz : ∀ o : List Int, 0 ≤ bL_ mem 8 o 8 1 ∧ bL_ mem 8 o 8 1 ≤ 700 := fun o => bL_size (r := 8) o mem h8.1 h8.2
  have hlen : (tx_ 19).length = 64 := by decide +kernel
  refine CT.intro (by decide) rfl (Nat.le_of_ble_eq_true rfl) (fun X h he => ?_)
  have step2 : ∀ (B i d : Int) (out : List Int) (y : Option Value), 0 ≤ i → i < 4 → iand_ (ishr_ B (18 - 6 * i)) 63 = d → 0 ≤ d → d < 64 → JJ G X 0 0 (bL_ mem 8 (out ++ [if i ≤ g then tl_ d else 61])) 50 [some (vr G 20), some (vi q), some (vi g), some (vi B), some (vi (i + 1)), some (vi d)] [] → JJ G X 0 0 (bL_ mem 8 out) 50 [some (vr G 20), some (vi q), some (vi g), some (vi B), some (vi i), y] [] := by
    intro B i d out y i0 i1 hd d0 d1 nx
    have htl := tl_z d0 d1
    rw [bL_snoc] at nx
    refine jj_iload h d_P_printThreeBytes_50 rfl ?_
    refine jj_iconst h d_P_printThreeBytes_52 ?_
    refine jj_icmp_ge h 102 d_P_printThreeBytes_53 (by decide) ⟨by omega, by omega⟩ ⟨by omega, by omega⟩ (fun q53 => absurd q53 (by omega)) (fun _ => ?_)
    refine jj_iload_n h d_P_printThreeBytes_56 rfl ?_
    refine jj_bipush h d_P_printThreeBytes_57 (by decide) ?_
    refine jj_bipush h d_P_printThreeBytes_59 (by decide) ?_
    refine jj_iload h d_P_printThreeBytes_61 rfl ?_
    refine jj_imul h d_P_printThreeBytes_63 ?_
    refine jj_isub h d_P_printThreeBytes_64 ?_
    refine jj_ishr h d_P_printThreeBytes_65 ?_
    refine jj_bipush h d_P_printThreeBytes_66 (by decide) ?_
    refine jj_iand h d_P_printThreeBytes_68 ?_
    rw [hd]
    refine jj_istore h d_P_printThreeBytes_69 (Nat.le_of_ble_eq_true rfl) rfl ?_
    refine jj_aload_n h d_P_printThreeBytes_71 rfl ⟨_, rfl⟩ ?_
    refine jj_g_P_draft h  fl_P_20 d_P_printThreeBytes_72 ?_
    refine jj_iload h d_P_printThreeBytes_75 rfl ?_
    refine jj_iload_n h d_P_printThreeBytes_77 rfl ?_
    refine jj_icmp_gt h 91 d_P_printThreeBytes_78 (by decide) ⟨by omega, by omega⟩ ⟨by omega, by omega⟩ (fun q78 => ?_) (fun q78 => ?_)
    · rw [if_neg (by omega)] at nx
      refine jj_bipush h d_P_printThreeBytes_91 (by decide) ?_
      refine jj_callV h (cB_put ⟨by decide, by decide⟩ (sz out).1 (sz out).2) cv_P_146 (ro_of he (by first | decide | omega) (by decide)) rfl rfl (by unfold mt_N; omega) (ce_B (by omega)) rfl rfl (Nat.le_of_ble_eq_true rfl) d_P_printThreeBytes_93 (fun v m93 hv => ?_)
      obtain ⟨rfl, rfl⟩ := hv
      refine jj_iinc h d_P_printThreeBytes_96 rfl rfl ?_
      refine jj_goto h 50 d_P_printThreeBytes_99 (by decide) ?_
      exact nx
    · rw [if_pos (by omega)] at nx
      refine jj_ldcS h 19 rfl d_P_printThreeBytes_81 ?_
      refine jj_iload h d_P_printThreeBytes_83 rfl ?_
      refine jj_callK h (cQ_charAt (i := 19) (by decide) (by omega) (by omega)) cv_P_140 (ro_of he (by first | decide | omega) (by decide)) rfl rfl (by first | assumption | decide) rfl rfl (Nat.le_of_ble_eq_true rfl) d_P_printThreeBytes_85 (fun v m85 hv => ?_)
      obtain ⟨rfl, rfl⟩ := hv
      rw [htl]
      refine jj_goto h 93 d_P_printThreeBytes_88 (by decide) ?_
      refine jj_callV h (cB_put ⟨by decide, by decide⟩ (sz out).1 (sz out).2) cv_P_146 (ro_of he (by first | decide | omega) (by decide)) rfl rfl (by unfold mt_N; omega) (ce_B (by omega)) rfl rfl (Nat.le_of_ble_eq_true rfl) d_P_printThreeBytes_93 (fun v m93 hv => ?_)
      obtain ⟨rfl, rfl⟩ := hv
      refine jj_iinc h d_P_printThreeBytes_96 rfl rfl ?_
      refine jj_goto h 50 d_P_printThreeBytes_99 (by decide) ?_
      exact nx
  have step1 : ∀ (B i x : Int) (y : Option Value), 0 ≤ i → i < 3 → 0 ≤ B → B < 65536 → 0 ≤ x → x ≤ 255 → (x = if i < g then mem 13 (q + i) else 0) → JJ G X 0 0 mem 5 [some (vr G 20), some (vi q), some (vi g), some (vi (B * 256 + x)), some (vi (i + 1)), y] [] → JJ G X 0 0 mem 5 [some (vr G 20), some (vi q), some (vi g), some (vi B), some (vi i), y] [] := by
    intro B i x y i0 i1 B0 B1 X0 X1 hx nx
    have hs : ishl_ B 8 = B * 256 := by
      rw [ishl_k 8 (P := 256) (by decide) (by decide) (by omega) (by omega)]; rfl
    have ho : ior_ (B * 256) x = B * 256 + x := by
      have := ior_k (x := B) (v := x) 8 (P := 256) (by decide) (by omega) (by omega) (by omega) (by omega)
      exact this
    refine jj_iload h d_P_printThreeBytes_5 rfl ?_
    refine jj_iconst h d_P_printThreeBytes_7 ?_
    refine jj_icmp_ge h 47 d_P_printThreeBytes_8 (by decide) ⟨by omega, by omega⟩ ⟨by omega, by omega⟩ (fun q8 => absurd q8 (by omega)) (fun _ => ?_)
    refine jj_iload_n h d_P_printThreeBytes_11 rfl ?_
    refine jj_bipush h d_P_printThreeBytes_12 (by decide) ?_
    refine jj_ishl h d_P_printThreeBytes_14 ?_
    rw [hs]
    refine jj_iload h d_P_printThreeBytes_15 rfl ?_
    refine jj_iload_n h d_P_printThreeBytes_17 rfl ?_
    refine jj_icmp_ge h 38 d_P_printThreeBytes_18 (by decide) ⟨by omega, by omega⟩ ⟨by omega, by omega⟩ (fun q18 => ?_) (fun q18 => ?_)
    · rw [if_neg (by omega)] at hx
      refine jj_iconst h d_P_printThreeBytes_38 ?_
      rw [← hx]
      refine jj_ior h d_P_printThreeBytes_39 ?_
      rw [ho]
      refine jj_istore_n h d_P_printThreeBytes_40 (Nat.le_of_ble_eq_true rfl) rfl ?_
      refine jj_iinc h d_P_printThreeBytes_41 rfl rfl ?_
      refine jj_goto h 5 d_P_printThreeBytes_44 (by decide) ?_
      exact nx
    · rw [if_pos (by omega)] at hx
      refine jj_aload_n h d_P_printThreeBytes_21 rfl ⟨_, rfl⟩ ?_
      refine jj_g_P_tree h  fl_P_9 d_P_printThreeBytes_22 ?_
      refine jj_g_T_contents h  fl_P_122 d_P_printThreeBytes_25 ?_
      refine jj_iload_n h d_P_printThreeBytes_28 rfl ?_
      refine jj_iload h d_P_printThreeBytes_29 rfl ?_
      refine jj_iadd h d_P_printThreeBytes_31 ?_
      refine jj_callV h (cB_in hw (by omega) (by omega)) cv_P_134 (ro_of he (by first | decide | omega) (by decide)) rfl rfl (by unfold mt_N; omega) (ce_B (by omega)) rfl rfl (Nat.le_of_ble_eq_true rfl) d_P_printThreeBytes_32 (fun v m32 hv => ?_)
      obtain ⟨rfl, rfl⟩ := hv
      show JJ G X 0 0 mem _ _ (vi (mem 13 (q + i)) :: _)
      rw [← hx]
      refine jj_goto h 39 d_P_printThreeBytes_35 (by decide) ?_
      refine jj_ior h d_P_printThreeBytes_39 ?_
      rw [ho]
      refine jj_istore_n h d_P_printThreeBytes_40 (Nat.le_of_ble_eq_true rfl) rfl ?_
      refine jj_iinc h d_P_printThreeBytes_41 rfl rfl ?_
      refine jj_goto h 5 d_P_printThreeBytes_44 (by decide) ?_
      exact nx
  have at50 : ∀ B : Int, B = (x0 * 256 + x1) * 256 + x2 → ∀ y, JJ G X 0 0 mem 50 [some (vr G 20), some (vi q), some (vi g), some (vi B), some (vi 0), y] [] := by
    intro B hB y
    have d0 : iand_ (ishr_ B (18 - 6 * 0)) 63 = x0 / 4 := by
      rw [show (18 : Int) - 6 * 0 = 18 from rfl, ishr_k 18 (P := 262144) (by decide) (by decide) (by omega) (by omega), iand_k 6 (P := 64) (by decide) (by decide) (by omega) (by omega)]
      omega
    have d1 : iand_ (ishr_ B (18 - 6 * 1)) 63 = x0 % 4 * 16 + x1 / 16 := by
      rw [show (18 : Int) - 6 * 1 = 12 from rfl, ishr_k 12 (P := 4096) (by decide) (by decide) (by omega) (by omega), iand_k 6 (P := 64) (by decide) (by decide) (by omega) (by omega)]
      omega
    have d2 : iand_ (ishr_ B (18 - 6 * 2)) 63 = x1 % 16 * 4 + x2 / 64 := by
      rw [show (18 : Int) - 6 * 2 = 6 from rfl, ishr_k 6 (P := 64) (by decide) (by decide) (by omega) (by omega), iand_k 6 (P := 64) (by decide) (by decide) (by omega) (by omega)]
      omega
    have d3 : iand_ (ishr_ B (18 - 6 * 3)) 63 = x2 % 64 := by
      rw [show (18 : Int) - 6 * 3 = 0 from rfl, ishr_k 0 (P := 1) (by decide) (by decide) (by omega) (by omega), iand_k 6 (P := 64) (by decide) (by decide) (by omega) (by omega)]
      omega
    refine step2 B 0 _ [] y (by decide) (by decide) d0 (by omega) (by omega) ?_
    refine step2 B 1 _ _ _ (by decide) (by decide) d1 (by omega) (by omega) ?_
    refine step2 B 2 _ _ _ (by decide) (by decide) d2 (by omega) (by omega) ?_
    refine step2 B 3 _ _ _ (by decide) (by decide) d3 (by omega) (by omega) ?_
    rw [if_pos (show (0 : Int) ≤ g by omega), if_pos (show (1 : Int) ≤ g by omega)]
    refine jj_iload h d_P_printThreeBytes_50 rfl ?_
    refine jj_iconst h d_P_printThreeBytes_52 ?_
    refine jj_icmp_ge h 102 d_P_printThreeBytes_53 (by decide) ⟨by decide, by decide⟩ ⟨by decide, by decide⟩ (fun _ => ?_) (fun q53 => absurd ((by decide)) q53)
    refine jj_vret h he d_P_printThreeBytes_102 ?_
    exact ⟨rfl, rfl⟩
  have at5 : JJ G X 0 0 mem 5 [some (vr G 20), some (vi q), some (vi g), some (vi 0), some (vi 0), none] [] := by
    refine step1 0 0 x0 _ (by decide) (by decide) (by decide) (by decide) b0.1 b0.2 (by rw [if_pos (by omega), hx0, Int.add_zero]) ?_
    refine step1 _ 1 x1 _ (by decide) (by decide) (by omega) (by omega) b1.1 b1.2 hx1 ?_
    refine step1 _ 2 x2 _ (by decide) (by decide) (by omega) (by omega) b2.1 b2.2 hx2 ?_
    refine jj_iload h d_P_printThreeBytes_5 rfl ?_
    refine jj_iconst h d_P_printThreeBytes_7 ?_
    refine jj_icmp_ge h 47 d_P_printThreeBytes_8 (by decide) ⟨by decide, by decide⟩ ⟨by decide, by decide⟩ (fun _ => ?_) (fun q8 => absurd ((by decide)) q8)
    refine jj_iconst h d_P_printThreeBytes_47 ?_
    refine jj_istore h d_P_printThreeBytes_48 (Nat.le_of_ble_eq_true rfl) rfl ?_
    exact at50 _ (by omega) _
  refine jj_iconst h d_P_printThreeBytes_0 ?_
  refine jj_istore_n h d_P_printThreeBytes_1 (Nat.le_of_ble_eq_true rfl) rfl ?_
  refine jj_iconst h d_P_printThreeBytes_2 ?_
  refine jj_istore h d_P_printThreeBytes_3 (Nat.le_of_ble_eq_true rfl) rfl ?_
  exact at5
theorem nl_en {n : Int} (h : 0 ≤ n) : nl24 n ++ en24 n = [13, 10] := by
  unfold nl24 en24
  by_cases h0 : n % 24 = 0
  · rw [if_pos h0, if_neg (by omega)]; rfl
  · rw [if_neg h0, if_pos (by omega)]; rfl
set_option maxHeartbeats 6000000 in
theorem cP_printBase64 {G : mt_G} {l : Launch} {mem : mt_M} {p e : Int} (hw : bw_ mem 5) (h8 : 0 ≤ mem 8 1 ∧ mem 8 1 ≤ 700) (p0 : 0 ≤ p) (p1 : p ≤ e) (e1 : e ≤ mem 5 1) : CT G l y_P_printBase64 c_P_printBase64 5 none 6 [vr G 20, vi p, vi e] mem (fun v m' => v = none ∧ bL_ mem 8 (b6_ 0 (slc (mem 13) p e)) = m') := by
  have hsz := hw.2.2.1
  have hl5 : ln_ (5 + 8) = 320 := rfl
  have hl8 : ln_ (8 + 8) = 700 := rfl
  have t18 : tx_ 18 = [13, 10] := rfl
  refine CT.intro (by decide) rfl (Nat.le_of_ble_eq_true rfl) (fun X h he => ?_)
  generalize hD : b6_ 0 (slc (mem 13) p e) = D at *
  have sz : ∀ o : List Int, 0 ≤ bL_ mem 8 o 8 1 ∧ bL_ mem 8 o 8 1 ≤ 700 := fun o => bL_size (r := 8) o mem h8.1 h8.2
  have rr : ∀ (o : List Int) (r : Nat), r ≠ 8 → r ≠ 16 → bL_ mem 8 o r = mem r := fun o r a b => bL_row a b _ _
  have loop : ∀ (k : Nat) (i col n : Int) (out : List Int), (e - i).toNat ≤ k → p ≤ i → i ≤ e + 2 → (i < e → col = n % 24 ∧ 0 ≤ n ∧ n % 4 = 0 ∧ D = out ++ b6_ n (slc (mem 13) i e)) → (e ≤ i → D = out) → JJ G X 0 0 (bL_ mem 8 out) 5 [some (vr G 20), some (vi p), some (vi e), some (vi col), some (vi i)] [] := by
    intro k
    induction k with
    | zero =>
      intro i col n out k1 k2 k3 k4 k5
      have k5 := k5 (by omega)
      subst k5
      refine jj_iload h d_P_printBase64_5 rfl ?_
      refine jj_iload_n h d_P_printBase64_7 rfl ?_
      refine jj_icmp_ge h 59 d_P_printBase64_8 (by decide) ⟨by omega, by omega⟩ ⟨by omega, by omega⟩ (fun _ => ?_) (fun q8 => absurd (by omega) q8)
      refine jj_vret h he d_P_printBase64_59 ?_
      exact ⟨rfl, rfl⟩
    | succ k ih =>
      intro i col n out k1 k2 k3 k4 k5
      by_cases hi : e ≤ i
      · have k5 := k5 hi
        subst k5
        refine jj_iload h d_P_printBase64_5 rfl ?_
        refine jj_iload_n h d_P_printBase64_7 rfl ?_
        refine jj_icmp_ge h 59 d_P_printBase64_8 (by decide) ⟨by omega, by omega⟩ ⟨by omega, by omega⟩ (fun _ => ?_) (fun q8 => absurd (by omega) q8)
        refine jj_vret h he d_P_printBase64_59 ?_
        exact ⟨rfl, rfl⟩
      obtain ⟨c1, c2, c3, c4⟩ := k4 (by omega)
      have r5 := rr out 5 (by decide) (by decide)
      have r13 := rr out 13 (by decide) (by decide)
      have hwm : bw_ (bL_ mem 8 out) 5 := hw.mov r5 r13
      have tail : ∀ Gl : List Int, (i + 3 < e → D = out ++ Gl ++ nl24 (n + 4) ++ b6_ (n + 4) (slc (mem 13) (i + 3) e)) → (e ≤ i + 3 → D = out ++ Gl ++ [13, 10]) → JJ G X 0 0 (bL_ mem 8 (out ++ Gl)) 25 [some (vr G 20), some (vi p), some (vi e), some (vi col), some (vi i)] [] := by
        intro Gl t1 t2
        have hn4 : (n + 4) % 24 = if col + 4 = 24 then 0 else col + 4 := by split <;> omega
        have crlf : (col + 4 = 24 ∨ e ≤ i + 3) → JJ G X 0 0 (bL_ mem 8 (out ++ Gl)) 42 [some (vr G 20), some (vi p), some (vi e), some (vi (col + 4)), some (vi i)] [] := by
          intro hc
          refine jj_aload_n h d_P_printBase64_42 rfl ⟨_, rfl⟩ ?_
          refine jj_g_P_draft h  fl_P_20 d_P_printBase64_43 ?_
          refine jj_ldcS h 18 rfl d_P_printBase64_46 ?_
          refine jj_callV h (cB_putText (i := 18) (by decide) ⟨by decide, by decide⟩ (sz _).1 (sz _).2) cv_P_40 (ro_of he (by first | decide | omega) (by decide)) rfl rfl (by unfold mt_N; omega) (ce_B (by omega)) rfl rfl (Nat.le_of_ble_eq_true rfl) d_P_printBase64_48 (fun v m48 hv => ?_)
          obtain ⟨rfl, hv⟩ := hv
          rw [t18, ← bL_app] at hv
          subst hv
          refine jj_iconst h d_P_printBase64_51 ?_
          refine jj_istore_n h d_P_printBase64_52 (Nat.le_of_ble_eq_true rfl) rfl ?_
          refine jj_iinc h d_P_printBase64_53 rfl rfl ?_
          refine jj_goto h 5 d_P_printBase64_56 (by decide) ?_
          refine ih (i + 3) 0 (n + 4) (out ++ Gl ++ [13, 10]) (by omega) (by omega) (by omega) (fun z => ⟨?_, by omega, by omega, ?_⟩) t2
          · rw [hn4, if_pos (by omega)]
          · rw [t1 z]; unfold nl24; rw [if_pos (by rw [hn4, if_pos (by omega)])]
        refine jj_iinc h d_P_printBase64_25 rfl rfl ?_
        refine jj_iload_n h d_P_printBase64_28 rfl ?_
        refine jj_bipush h d_P_printBase64_29 (by decide) ?_
        refine jj_icmp_eq h 42 d_P_printBase64_31 (by decide) ⟨by omega, by omega⟩ ⟨by omega, by omega⟩ (fun q31 => ?_) (fun q31 => ?_)
        · exact crlf (Or.inl (by omega))
        · refine jj_iload h d_P_printBase64_34 rfl ?_
          refine jj_iconst h d_P_printBase64_36 ?_
          refine jj_iadd h d_P_printBase64_37 ?_
          refine jj_iload_n h d_P_printBase64_38 rfl ?_
          refine jj_icmp_lt h 53 d_P_printBase64_39 (by decide) ⟨by omega, by omega⟩ ⟨by omega, by omega⟩ (fun q39 => ?_) (fun q39 => ?_)
          · refine jj_iinc h d_P_printBase64_53 rfl rfl ?_
            refine jj_goto h 5 d_P_printBase64_56 (by decide) ?_
            refine ih (i + 3) (col + 4) (n + 4) (out ++ Gl) (by omega) (by omega) (by omega) (fun z => ⟨?_, by omega, by omega, ?_⟩) (fun z => by omega)
            · rw [hn4, if_neg (by omega)]
            · rw [t1 z]; unfold nl24; rw [if_neg (by rw [hn4, if_neg (by omega)]; omega), List.append_nil]
          · exact crlf (Or.inr (by omega))
      have cs1 : slc (mem 13) i e = mem 13 i :: slc (mem 13) (i + 1) e := slc_cons (by omega)
      by_cases h3 : i + 3 ≤ e
      · have hmin : min 3 (e - i) = 3 := by omega
        have cs3 : slc (mem 13) i e = mem 13 i :: mem 13 (i + 1) :: mem 13 (i + 2) :: slc (mem 13) (i + 3) e := by rw [cs1, slc_cons (by omega : i + 1 < e), show i + 1 + 1 = i + 2 by omega, slc_cons (by omega : i + 2 < e), show i + 2 + 1 = i + 3 by omega]
        have hth := cP_printThree (G := G) (l := X.2.1) (mem := bL_ mem 8 out) (q := i) (g := 3) (x0 := mem 13 i) (x1 := mem 13 (i + 1)) (x2 := mem 13 (i + 2)) hwm (sz out) (by omega) (by decide) (by decide) (by rw [r5]; omega) (by rw [r13]) (by rw [r13]; rfl) (by rw [r13]; rfl)
        have hG : tG_ 3 (mem 13 i) (mem 13 (i + 1)) (mem 13 (i + 2)) = [tl_ (mem 13 i / 4), tl_ (mem 13 i % 4 * 16 + mem 13 (i + 1) / 16), tl_ (mem 13 (i + 1) % 16 * 4 + mem 13 (i + 2) / 64), tl_ (mem 13 (i + 2) % 64)] := rfl
        rw [cs3] at c4
        have c4 : D = out ++ (tG_ 3 (mem 13 i) (mem 13 (i + 1)) (mem 13 (i + 2)) ++ nl24 (n + 4) ++ b6_ (n + 4) (slc (mem 13) (i + 3) e)) := c4
        generalize hGl : tG_ 3 (mem 13 i) (mem 13 (i + 1)) (mem 13 (i + 2)) = Gl at *
        refine jj_iload h d_P_printBase64_5 rfl ?_
        refine jj_iload_n h d_P_printBase64_7 rfl ?_
        refine jj_icmp_ge h 59 d_P_printBase64_8 (by decide) ⟨by omega, by omega⟩ ⟨by omega, by omega⟩ (fun q8 => absurd q8 (by omega)) (fun _ => ?_)
        refine jj_aload_n h d_P_printBase64_11 rfl ⟨_, rfl⟩ ?_
        refine jj_iload h d_P_printBase64_12 rfl ?_
        refine jj_iconst h d_P_printBase64_14 ?_
        refine jj_iload_n h d_P_printBase64_15 rfl ?_
        refine jj_iload h d_P_printBase64_16 rfl ?_
        refine jj_isub h d_P_printBase64_18 ?_
        refine jj_mn h he ⟨by decide, by decide⟩ ⟨by omega, by omega⟩ (by omega) rfl cv_P_125 (Nat.le_of_ble_eq_true rfl) d_P_printBase64_19 ?_
        rw [hmin]
        refine jj_callV h (hth) cv_P_131 (ro_of he (by first | decide | omega) (by decide)) rfl rfl (by decide) rfl rfl rfl (Nat.le_of_ble_eq_true rfl) d_P_printBase64_22 (fun v m22 hv => ?_)
        obtain ⟨rfl, hv⟩ := hv
        rw [← bL_app] at hv
        subst hv
        refine tail Gl (fun z => by rw [c4, List.append_assoc, List.append_assoc, List.append_assoc]) (fun z => ?_)
        rw [c4, slc_nil (by omega), show b6_ (n + 4) [] = en24 (n + 4) from rfl, List.append_assoc, nl_en (by omega), List.append_assoc]
      · by_cases h2 : i + 2 = e
        · have hmin : min 3 (e - i) = 2 := by omega
          have cs3 : slc (mem 13) i e = [mem 13 i, mem 13 (i + 1)] := by rw [cs1, slc_cons (by omega : i + 1 < e), slc_nil (by omega)]
          have hth := cP_printThree (G := G) (l := X.2.1) (mem := bL_ mem 8 out) (q := i) (g := 2) (x0 := mem 13 i) (x1 := mem 13 (i + 1)) (x2 := 0) hwm (sz out) (by omega) (by decide) (by decide) (by rw [r5]; omega) (by rw [r13]) (by rw [r13]; rfl) rfl
          rw [cs3] at c4
          have c4 : D = out ++ (tG_ 2 (mem 13 i) (mem 13 (i + 1)) 0 ++ nl24 (n + 4) ++ en24 (n + 4)) := c4
          generalize hGl : tG_ 2 (mem 13 i) (mem 13 (i + 1)) 0 = Gl at *
          refine jj_iload h d_P_printBase64_5 rfl ?_
          refine jj_iload_n h d_P_printBase64_7 rfl ?_
          refine jj_icmp_ge h 59 d_P_printBase64_8 (by decide) ⟨by omega, by omega⟩ ⟨by omega, by omega⟩ (fun q8 => absurd q8 (by omega)) (fun _ => ?_)
          refine jj_aload_n h d_P_printBase64_11 rfl ⟨_, rfl⟩ ?_
          refine jj_iload h d_P_printBase64_12 rfl ?_
          refine jj_iconst h d_P_printBase64_14 ?_
          refine jj_iload_n h d_P_printBase64_15 rfl ?_
          refine jj_iload h d_P_printBase64_16 rfl ?_
          refine jj_isub h d_P_printBase64_18 ?_
          refine jj_mn h he ⟨by decide, by decide⟩ ⟨by omega, by omega⟩ (by omega) rfl cv_P_125 (Nat.le_of_ble_eq_true rfl) d_P_printBase64_19 ?_
          rw [hmin]
          refine jj_callV h (hth) cv_P_131 (ro_of he (by first | decide | omega) (by decide)) rfl rfl (by decide) rfl rfl rfl (Nat.le_of_ble_eq_true rfl) d_P_printBase64_22 (fun v m22 hv => ?_)
          obtain ⟨rfl, hv⟩ := hv
          rw [← bL_app] at hv
          subst hv
          exact tail Gl (fun z => by omega) (fun z => by rw [c4, List.append_assoc, nl_en (by omega), List.append_assoc])
        · have hmin : min 3 (e - i) = 1 := by omega
          have cs3 : slc (mem 13) i e = [mem 13 i] := by rw [cs1, slc_nil (by omega)]
          have hth := cP_printThree (G := G) (l := X.2.1) (mem := bL_ mem 8 out) (q := i) (g := 1) (x0 := mem 13 i) (x1 := 0) (x2 := 0) hwm (sz out) (by omega) (by decide) (by decide) (by rw [r5]; omega) (by rw [r13]) rfl rfl
          rw [cs3] at c4
          have c4 : D = out ++ (tG_ 1 (mem 13 i) 0 0 ++ nl24 (n + 4) ++ en24 (n + 4)) := c4
          generalize hGl : tG_ 1 (mem 13 i) 0 0 = Gl at *
          refine jj_iload h d_P_printBase64_5 rfl ?_
          refine jj_iload_n h d_P_printBase64_7 rfl ?_
          refine jj_icmp_ge h 59 d_P_printBase64_8 (by decide) ⟨by omega, by omega⟩ ⟨by omega, by omega⟩ (fun q8 => absurd q8 (by omega)) (fun _ => ?_)
          refine jj_aload_n h d_P_printBase64_11 rfl ⟨_, rfl⟩ ?_
          refine jj_iload h d_P_printBase64_12 rfl ?_
          refine jj_iconst h d_P_printBase64_14 ?_
          refine jj_iload_n h d_P_printBase64_15 rfl ?_
          refine jj_iload h d_P_printBase64_16 rfl ?_
          refine jj_isub h d_P_printBase64_18 ?_
          refine jj_mn h he ⟨by decide, by decide⟩ ⟨by omega, by omega⟩ (by omega) rfl cv_P_125 (Nat.le_of_ble_eq_true rfl) d_P_printBase64_19 ?_
          rw [hmin]
          refine jj_callV h (hth) cv_P_131 (ro_of he (by first | decide | omega) (by decide)) rfl rfl (by decide) rfl rfl rfl (Nat.le_of_ble_eq_true rfl) d_P_printBase64_22 (fun v m22 hv => ?_)
          obtain ⟨rfl, hv⟩ := hv
          rw [← bL_app] at hv
          subst hv
          exact tail Gl (fun z => by omega) (fun z => by rw [c4, List.append_assoc, nl_en (by omega), List.append_assoc])
  refine jj_iconst h d_P_printBase64_0 ?_
  refine jj_istore_n h d_P_printBase64_1 (Nat.le_of_ble_eq_true rfl) rfl ?_
  refine jj_iload_n h d_P_printBase64_2 rfl ?_
  refine jj_istore h d_P_printBase64_3 (Nat.le_of_ble_eq_true rfl) rfl ?_
  refine loop _ p 0 0 [] (Nat.le_refl _) (Int.le_refl _) (by omega) (fun _ => ⟨rfl, by decide, by decide, by rw [hD]; rfl⟩) (fun z => ?_)
  rw [← hD, slc_nil (by omega)]; rfl
