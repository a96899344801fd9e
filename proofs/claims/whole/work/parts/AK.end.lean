/-! The world is built: roles and places. -/
def WF (G : mt_G) (x : Nat) (u v : Nat → Nat) (A : mt_A) (y : Nat) (q : Nat → Nat) (z : Nat) : va_W := (XX G x u v A ++ [(y, .inr (8, [vi 0, vi 0, .ref (q 0), vi 0, .ref (q 1), vi 0, .ref (q 2), .ref (q 3), .ref (q 4), vi 0, vi 0, .ref (q 5), .ref (q 6), vi 0, vi 0, vi 0, vi 0, vi 0, .ref (q 7), vi 0, vi 0, .ref (q 8), vi 0, .ref (q 9), .ref (q 10)])), cI_ G (q 0) 320, cI_ G (q 1) 320, cI_ G (q 2) 256, cI_ G (q 3) 512, cI_ G (q 4) 1400, cI_ G (q 5) 1400, cI_ G (q 6) 400, cI_ G (q 7) 1800, cI_ G (q 8) 700, cI_ G (q 9) 6, cI_ G (q 10) 6]) ++ [(z, .inl (G.2.2.1 1, 1, .inr (.inl (fun _ => Int64.ofInt 0))))]
def adr (x : Nat) (u v : Nat → Nat) (A : mt_A) (y : Nat) (q : Nat → Nat) (z : Nat) : Nat → Nat := fun r => if r = 0 then x else if r = 1 then u 0 else if r = 2 then u 2 else if r = 3 then v 0 else if r = 4 then v 2 else if r = 5 then v 4 else if r = 6 then v 6 else if r = 7 then v 9 else if r = 8 then u 6 else if r = 9 then u 1 else if r = 10 then u 3 else if r = 11 then v 1 else if r = 12 then v 3 else if r = 13 then v 5 else if r = 14 then v 7 else if r = 15 then v 10 else if r = 16 then u 7 else if r = 17 then u 4 else if r = 18 then v 8 else if r = 19 then v 11 else if r = 20 then u 5 else if r = 21 then v 12 else if r ≤ 37 then (A (r - 22)).1 else if r ≤ 53 then (A (r - 38)).2.1 else if r ≤ 181 then (A ((r - 54) / 8)).2.2 ((r - 54) % 8) else if r = 182 then y else if r ≤ 193 then q (r - 183) else z
def of9 (r : Nat) : Nat := if r = 0 then 0 else if r ≤ 2 then 2 * r - 1 else if r ≤ 6 then 6 + 2 * (r - 3) else if r = 7 then 15 else if r = 8 then 180 else if r ≤ 10 then 2 * (r - 8) else if r ≤ 14 then 7 + 2 * (r - 11) else if r = 15 then 16 else if r = 16 then 181 else if r = 17 then 5 else if r = 18 then 14 else if r = 19 then 17 else if r = 20 then 179 else if r = 21 then 18 else if r ≤ 37 then 19 + 10 * (r - 22) else if r ≤ 53 then 20 + 10 * (r - 38) else if r ≤ 181 then 21 + 10 * ((r - 54) / 8) + (r - 54) % 8 else r
theorem of9_inj : ∀ i, i < 195 → ∀ j, j < 195 → of9 i = of9 j → i = j := by decide +kernel
section Ends
variable {G : mt_G} {x y z : Nat} {u v q : Nat → Nat} {A : mt_A} {H : Heap}
theorem adr_E {j : Nat} (hj : j < 16) : adr x u v A y q z (22 + j) = (A j).1 := by
  unfold adr
  rw [if_neg (by omega), if_neg (by omega), if_neg (by omega), if_neg (by omega), if_neg (by omega), if_neg (by omega), if_neg (by omega), if_neg (by omega), if_neg (by omega), if_neg (by omega), if_neg (by omega), if_neg (by omega), if_neg (by omega), if_neg (by omega), if_neg (by omega), if_neg (by omega), if_neg (by omega), if_neg (by omega), if_neg (by omega), if_neg (by omega), if_neg (by omega), if_neg (by omega), if_pos (by omega), show 22 + j - 22 = j by omega]
theorem adr_F {j f : Nat} (hj : j < 16) (hf : f < 8) : adr x u v A y q z (54 + 8 * j + f) = (A j).2.2 f := by
  unfold adr
  rw [if_neg (by omega), if_neg (by omega), if_neg (by omega), if_neg (by omega), if_neg (by omega), if_neg (by omega), if_neg (by omega), if_neg (by omega), if_neg (by omega), if_neg (by omega), if_neg (by omega), if_neg (by omega), if_neg (by omega), if_neg (by omega), if_neg (by omega), if_neg (by omega), if_neg (by omega), if_neg (by omega), if_neg (by omega), if_neg (by omega), if_neg (by omega), if_neg (by omega), if_neg (by omega), if_neg (by omega), if_pos (by omega), show (54 + 8 * j + f - 54) / 8 = j by omega, show (54 + 8 * j + f - 54) % 8 = f by omega]
theorem va_qe {D : va_G} {cl : List vw_C} {a N : Nat} {c : ClassId} {f f' : Nat → Option Nat} (h : ∀ j, j < N → f j = f' j) (h1 : va_at D cl (a, .inl (c, N, .inr (.inr (.inr (.inr f))))) H) : va_at D cl (a, .inl (c, N, .inr (.inr (.inr (.inr f'))))) H := by
  have e : arrV c N (fun j => va_rf (f j)) = arrV c N (fun j => va_rf (f' j)) := by
    unfold arrV
    congr 2
    funext j
    show va_rf (f j.val) = va_rf (f' j.val)
    rw [h j.val j.isLt]
  have h2 : H[a]? = some (arrV c N (fun j => va_rf (f j))) := h1
  rw [e] at h2
  exact h2
/-- role r stands at place of9 r -/
def wf_ (G : mt_G) (x : Nat) (u v : Nat → Nat) (A : mt_A) (y : Nat) (q : Nat → Nat) (z : Nat) (H : Heap) (r : Nat) : Prop := ∃ e : va_E, (WF G x u v A y q z)[of9 r]? = some (adr x u v A y q z r, e) ∧ (va_at G.2.1 vwCl (adr x u v A y q z r, e) H → va_at G.2.1 vwCl (adr x u v A y q z r, ce_ (adr x u v A y q z, G.2) (fun _ => 0) r) H)
theorem wf_0 : wf_ G x u v A y q z H 0 := ⟨_, rfl, id⟩
theorem wf_1 : wf_ G x u v A y q z H 1 := ⟨_, rfl, id⟩
theorem wf_2 : wf_ G x u v A y q z H 2 := ⟨_, rfl, id⟩
theorem wf_3 : wf_ G x u v A y q z H 3 := ⟨_, rfl, id⟩
theorem wf_4 : wf_ G x u v A y q z H 4 := ⟨_, rfl, id⟩
theorem wf_5 : wf_ G x u v A y q z H 5 := ⟨_, rfl, id⟩
theorem wf_6 : wf_ G x u v A y q z H 6 := ⟨_, rfl, id⟩
theorem wf_7 : wf_ G x u v A y q z H 7 := ⟨_, rfl, id⟩
theorem wf_8 : wf_ G x u v A y q z H 8 := ⟨_, rfl, id⟩
theorem wf_9 : wf_ G x u v A y q z H 9 := ⟨_, rfl, id⟩
theorem wf_10 : wf_ G x u v A y q z H 10 := ⟨_, rfl, id⟩
theorem wf_11 : wf_ G x u v A y q z H 11 := ⟨_, rfl, id⟩
theorem wf_12 : wf_ G x u v A y q z H 12 := ⟨_, rfl, id⟩
theorem wf_13 : wf_ G x u v A y q z H 13 := ⟨_, rfl, id⟩
theorem wf_14 : wf_ G x u v A y q z H 14 := ⟨_, rfl, id⟩
theorem wf_15 : wf_ G x u v A y q z H 15 := ⟨_, rfl, id⟩
theorem wf_16 : wf_ G x u v A y q z H 16 := ⟨_, rfl, id⟩
theorem wf_17 : wf_ G x u v A y q z H 17 := ⟨_, rfl, id⟩
theorem wf_18 : wf_ G x u v A y q z H 18 := ⟨_, rfl, id⟩
theorem wf_19 : wf_ G x u v A y q z H 19 := ⟨_, rfl, id⟩
theorem wf_20 : wf_ G x u v A y q z H 20 := ⟨_, rfl, id⟩
theorem wf_21 : wf_ G x u v A y q z H 21 := ⟨_, rfl, va_qe (fun t ht => by show ei 16 (fun j => (A j).1) t = some (adr x u v A y q z (22 + t)); rw [adr_E ht]; exact if_pos ht)⟩
theorem wf_22 : wf_ G x u v A y q z H 22 := ⟨_, rfl, id⟩
theorem wf_23 : wf_ G x u v A y q z H 23 := ⟨_, rfl, id⟩
theorem wf_24 : wf_ G x u v A y q z H 24 := ⟨_, rfl, id⟩
theorem wf_25 : wf_ G x u v A y q z H 25 := ⟨_, rfl, id⟩
theorem wf_26 : wf_ G x u v A y q z H 26 := ⟨_, rfl, id⟩
theorem wf_27 : wf_ G x u v A y q z H 27 := ⟨_, rfl, id⟩
theorem wf_28 : wf_ G x u v A y q z H 28 := ⟨_, rfl, id⟩
theorem wf_29 : wf_ G x u v A y q z H 29 := ⟨_, rfl, id⟩
theorem wf_30 : wf_ G x u v A y q z H 30 := ⟨_, rfl, id⟩
theorem wf_31 : wf_ G x u v A y q z H 31 := ⟨_, rfl, id⟩
theorem wf_32 : wf_ G x u v A y q z H 32 := ⟨_, rfl, id⟩
theorem wf_33 : wf_ G x u v A y q z H 33 := ⟨_, rfl, id⟩
theorem wf_34 : wf_ G x u v A y q z H 34 := ⟨_, rfl, id⟩
theorem wf_35 : wf_ G x u v A y q z H 35 := ⟨_, rfl, id⟩
theorem wf_36 : wf_ G x u v A y q z H 36 := ⟨_, rfl, id⟩
theorem wf_37 : wf_ G x u v A y q z H 37 := ⟨_, rfl, id⟩
theorem wf_38 : wf_ G x u v A y q z H 38 := ⟨_, rfl, va_qe (fun t ht => by show ei 8 (A 0).2.2 t = some (adr x u v A y q z (54 + 8 * 0 + t)); rw [adr_F (by decide) ht]; exact if_pos ht)⟩
theorem wf_39 : wf_ G x u v A y q z H 39 := ⟨_, rfl, va_qe (fun t ht => by show ei 8 (A 1).2.2 t = some (adr x u v A y q z (54 + 8 * 1 + t)); rw [adr_F (by decide) ht]; exact if_pos ht)⟩
theorem wf_40 : wf_ G x u v A y q z H 40 := ⟨_, rfl, va_qe (fun t ht => by show ei 8 (A 2).2.2 t = some (adr x u v A y q z (54 + 8 * 2 + t)); rw [adr_F (by decide) ht]; exact if_pos ht)⟩
theorem wf_41 : wf_ G x u v A y q z H 41 := ⟨_, rfl, va_qe (fun t ht => by show ei 8 (A 3).2.2 t = some (adr x u v A y q z (54 + 8 * 3 + t)); rw [adr_F (by decide) ht]; exact if_pos ht)⟩
theorem wf_42 : wf_ G x u v A y q z H 42 := ⟨_, rfl, va_qe (fun t ht => by show ei 8 (A 4).2.2 t = some (adr x u v A y q z (54 + 8 * 4 + t)); rw [adr_F (by decide) ht]; exact if_pos ht)⟩
theorem wf_43 : wf_ G x u v A y q z H 43 := ⟨_, rfl, va_qe (fun t ht => by show ei 8 (A 5).2.2 t = some (adr x u v A y q z (54 + 8 * 5 + t)); rw [adr_F (by decide) ht]; exact if_pos ht)⟩
theorem wf_44 : wf_ G x u v A y q z H 44 := ⟨_, rfl, va_qe (fun t ht => by show ei 8 (A 6).2.2 t = some (adr x u v A y q z (54 + 8 * 6 + t)); rw [adr_F (by decide) ht]; exact if_pos ht)⟩
theorem wf_45 : wf_ G x u v A y q z H 45 := ⟨_, rfl, va_qe (fun t ht => by show ei 8 (A 7).2.2 t = some (adr x u v A y q z (54 + 8 * 7 + t)); rw [adr_F (by decide) ht]; exact if_pos ht)⟩
theorem wf_46 : wf_ G x u v A y q z H 46 := ⟨_, rfl, va_qe (fun t ht => by show ei 8 (A 8).2.2 t = some (adr x u v A y q z (54 + 8 * 8 + t)); rw [adr_F (by decide) ht]; exact if_pos ht)⟩
theorem wf_47 : wf_ G x u v A y q z H 47 := ⟨_, rfl, va_qe (fun t ht => by show ei 8 (A 9).2.2 t = some (adr x u v A y q z (54 + 8 * 9 + t)); rw [adr_F (by decide) ht]; exact if_pos ht)⟩
theorem wf_48 : wf_ G x u v A y q z H 48 := ⟨_, rfl, va_qe (fun t ht => by show ei 8 (A 10).2.2 t = some (adr x u v A y q z (54 + 8 * 10 + t)); rw [adr_F (by decide) ht]; exact if_pos ht)⟩
theorem wf_49 : wf_ G x u v A y q z H 49 := ⟨_, rfl, va_qe (fun t ht => by show ei 8 (A 11).2.2 t = some (adr x u v A y q z (54 + 8 * 11 + t)); rw [adr_F (by decide) ht]; exact if_pos ht)⟩
theorem wf_50 : wf_ G x u v A y q z H 50 := ⟨_, rfl, va_qe (fun t ht => by show ei 8 (A 12).2.2 t = some (adr x u v A y q z (54 + 8 * 12 + t)); rw [adr_F (by decide) ht]; exact if_pos ht)⟩
theorem wf_51 : wf_ G x u v A y q z H 51 := ⟨_, rfl, va_qe (fun t ht => by show ei 8 (A 13).2.2 t = some (adr x u v A y q z (54 + 8 * 13 + t)); rw [adr_F (by decide) ht]; exact if_pos ht)⟩
theorem wf_52 : wf_ G x u v A y q z H 52 := ⟨_, rfl, va_qe (fun t ht => by show ei 8 (A 14).2.2 t = some (adr x u v A y q z (54 + 8 * 14 + t)); rw [adr_F (by decide) ht]; exact if_pos ht)⟩
theorem wf_53 : wf_ G x u v A y q z H 53 := ⟨_, rfl, va_qe (fun t ht => by show ei 8 (A 15).2.2 t = some (adr x u v A y q z (54 + 8 * 15 + t)); rw [adr_F (by decide) ht]; exact if_pos ht)⟩
theorem wf_54 : wf_ G x u v A y q z H 54 := ⟨_, rfl, id⟩
theorem wf_55 : wf_ G x u v A y q z H 55 := ⟨_, rfl, id⟩
theorem wf_56 : wf_ G x u v A y q z H 56 := ⟨_, rfl, id⟩
theorem wf_57 : wf_ G x u v A y q z H 57 := ⟨_, rfl, id⟩
theorem wf_58 : wf_ G x u v A y q z H 58 := ⟨_, rfl, id⟩
theorem wf_59 : wf_ G x u v A y q z H 59 := ⟨_, rfl, id⟩
theorem wf_60 : wf_ G x u v A y q z H 60 := ⟨_, rfl, id⟩
theorem wf_61 : wf_ G x u v A y q z H 61 := ⟨_, rfl, id⟩
theorem wf_62 : wf_ G x u v A y q z H 62 := ⟨_, rfl, id⟩
theorem wf_63 : wf_ G x u v A y q z H 63 := ⟨_, rfl, id⟩
theorem wf_64 : wf_ G x u v A y q z H 64 := ⟨_, rfl, id⟩
theorem wf_65 : wf_ G x u v A y q z H 65 := ⟨_, rfl, id⟩
theorem wf_66 : wf_ G x u v A y q z H 66 := ⟨_, rfl, id⟩
theorem wf_67 : wf_ G x u v A y q z H 67 := ⟨_, rfl, id⟩
theorem wf_68 : wf_ G x u v A y q z H 68 := ⟨_, rfl, id⟩
theorem wf_69 : wf_ G x u v A y q z H 69 := ⟨_, rfl, id⟩
theorem wf_70 : wf_ G x u v A y q z H 70 := ⟨_, rfl, id⟩
theorem wf_71 : wf_ G x u v A y q z H 71 := ⟨_, rfl, id⟩
theorem wf_72 : wf_ G x u v A y q z H 72 := ⟨_, rfl, id⟩
theorem wf_73 : wf_ G x u v A y q z H 73 := ⟨_, rfl, id⟩
theorem wf_74 : wf_ G x u v A y q z H 74 := ⟨_, rfl, id⟩
theorem wf_75 : wf_ G x u v A y q z H 75 := ⟨_, rfl, id⟩
theorem wf_76 : wf_ G x u v A y q z H 76 := ⟨_, rfl, id⟩
theorem wf_77 : wf_ G x u v A y q z H 77 := ⟨_, rfl, id⟩
theorem wf_78 : wf_ G x u v A y q z H 78 := ⟨_, rfl, id⟩
theorem wf_79 : wf_ G x u v A y q z H 79 := ⟨_, rfl, id⟩
theorem wf_80 : wf_ G x u v A y q z H 80 := ⟨_, rfl, id⟩
theorem wf_81 : wf_ G x u v A y q z H 81 := ⟨_, rfl, id⟩
theorem wf_82 : wf_ G x u v A y q z H 82 := ⟨_, rfl, id⟩
theorem wf_83 : wf_ G x u v A y q z H 83 := ⟨_, rfl, id⟩
theorem wf_84 : wf_ G x u v A y q z H 84 := ⟨_, rfl, id⟩
theorem wf_85 : wf_ G x u v A y q z H 85 := ⟨_, rfl, id⟩
theorem wf_86 : wf_ G x u v A y q z H 86 := ⟨_, rfl, id⟩
theorem wf_87 : wf_ G x u v A y q z H 87 := ⟨_, rfl, id⟩
theorem wf_88 : wf_ G x u v A y q z H 88 := ⟨_, rfl, id⟩
theorem wf_89 : wf_ G x u v A y q z H 89 := ⟨_, rfl, id⟩
theorem wf_90 : wf_ G x u v A y q z H 90 := ⟨_, rfl, id⟩
theorem wf_91 : wf_ G x u v A y q z H 91 := ⟨_, rfl, id⟩
theorem wf_92 : wf_ G x u v A y q z H 92 := ⟨_, rfl, id⟩
theorem wf_93 : wf_ G x u v A y q z H 93 := ⟨_, rfl, id⟩
theorem wf_94 : wf_ G x u v A y q z H 94 := ⟨_, rfl, id⟩
theorem wf_95 : wf_ G x u v A y q z H 95 := ⟨_, rfl, id⟩
theorem wf_96 : wf_ G x u v A y q z H 96 := ⟨_, rfl, id⟩
theorem wf_97 : wf_ G x u v A y q z H 97 := ⟨_, rfl, id⟩
theorem wf_98 : wf_ G x u v A y q z H 98 := ⟨_, rfl, id⟩
theorem wf_99 : wf_ G x u v A y q z H 99 := ⟨_, rfl, id⟩
theorem wf_100 : wf_ G x u v A y q z H 100 := ⟨_, rfl, id⟩
theorem wf_101 : wf_ G x u v A y q z H 101 := ⟨_, rfl, id⟩
theorem wf_102 : wf_ G x u v A y q z H 102 := ⟨_, rfl, id⟩
theorem wf_103 : wf_ G x u v A y q z H 103 := ⟨_, rfl, id⟩
theorem wf_104 : wf_ G x u v A y q z H 104 := ⟨_, rfl, id⟩
theorem wf_105 : wf_ G x u v A y q z H 105 := ⟨_, rfl, id⟩
theorem wf_106 : wf_ G x u v A y q z H 106 := ⟨_, rfl, id⟩
theorem wf_107 : wf_ G x u v A y q z H 107 := ⟨_, rfl, id⟩
theorem wf_108 : wf_ G x u v A y q z H 108 := ⟨_, rfl, id⟩
theorem wf_109 : wf_ G x u v A y q z H 109 := ⟨_, rfl, id⟩
theorem wf_110 : wf_ G x u v A y q z H 110 := ⟨_, rfl, id⟩
theorem wf_111 : wf_ G x u v A y q z H 111 := ⟨_, rfl, id⟩
theorem wf_112 : wf_ G x u v A y q z H 112 := ⟨_, rfl, id⟩
theorem wf_113 : wf_ G x u v A y q z H 113 := ⟨_, rfl, id⟩
theorem wf_114 : wf_ G x u v A y q z H 114 := ⟨_, rfl, id⟩
theorem wf_115 : wf_ G x u v A y q z H 115 := ⟨_, rfl, id⟩
theorem wf_116 : wf_ G x u v A y q z H 116 := ⟨_, rfl, id⟩
theorem wf_117 : wf_ G x u v A y q z H 117 := ⟨_, rfl, id⟩
theorem wf_118 : wf_ G x u v A y q z H 118 := ⟨_, rfl, id⟩
theorem wf_119 : wf_ G x u v A y q z H 119 := ⟨_, rfl, id⟩
theorem wf_120 : wf_ G x u v A y q z H 120 := ⟨_, rfl, id⟩
theorem wf_121 : wf_ G x u v A y q z H 121 := ⟨_, rfl, id⟩
theorem wf_122 : wf_ G x u v A y q z H 122 := ⟨_, rfl, id⟩
theorem wf_123 : wf_ G x u v A y q z H 123 := ⟨_, rfl, id⟩
theorem wf_124 : wf_ G x u v A y q z H 124 := ⟨_, rfl, id⟩
theorem wf_125 : wf_ G x u v A y q z H 125 := ⟨_, rfl, id⟩
theorem wf_126 : wf_ G x u v A y q z H 126 := ⟨_, rfl, id⟩
theorem wf_127 : wf_ G x u v A y q z H 127 := ⟨_, rfl, id⟩
theorem wf_128 : wf_ G x u v A y q z H 128 := ⟨_, rfl, id⟩
theorem wf_129 : wf_ G x u v A y q z H 129 := ⟨_, rfl, id⟩
theorem wf_130 : wf_ G x u v A y q z H 130 := ⟨_, rfl, id⟩
theorem wf_131 : wf_ G x u v A y q z H 131 := ⟨_, rfl, id⟩
theorem wf_132 : wf_ G x u v A y q z H 132 := ⟨_, rfl, id⟩
theorem wf_133 : wf_ G x u v A y q z H 133 := ⟨_, rfl, id⟩
theorem wf_134 : wf_ G x u v A y q z H 134 := ⟨_, rfl, id⟩
theorem wf_135 : wf_ G x u v A y q z H 135 := ⟨_, rfl, id⟩
theorem wf_136 : wf_ G x u v A y q z H 136 := ⟨_, rfl, id⟩
theorem wf_137 : wf_ G x u v A y q z H 137 := ⟨_, rfl, id⟩
theorem wf_138 : wf_ G x u v A y q z H 138 := ⟨_, rfl, id⟩
theorem wf_139 : wf_ G x u v A y q z H 139 := ⟨_, rfl, id⟩
theorem wf_140 : wf_ G x u v A y q z H 140 := ⟨_, rfl, id⟩
theorem wf_141 : wf_ G x u v A y q z H 141 := ⟨_, rfl, id⟩
theorem wf_142 : wf_ G x u v A y q z H 142 := ⟨_, rfl, id⟩
theorem wf_143 : wf_ G x u v A y q z H 143 := ⟨_, rfl, id⟩
theorem wf_144 : wf_ G x u v A y q z H 144 := ⟨_, rfl, id⟩
theorem wf_145 : wf_ G x u v A y q z H 145 := ⟨_, rfl, id⟩
theorem wf_146 : wf_ G x u v A y q z H 146 := ⟨_, rfl, id⟩
theorem wf_147 : wf_ G x u v A y q z H 147 := ⟨_, rfl, id⟩
theorem wf_148 : wf_ G x u v A y q z H 148 := ⟨_, rfl, id⟩
theorem wf_149 : wf_ G x u v A y q z H 149 := ⟨_, rfl, id⟩
theorem wf_150 : wf_ G x u v A y q z H 150 := ⟨_, rfl, id⟩
theorem wf_151 : wf_ G x u v A y q z H 151 := ⟨_, rfl, id⟩
theorem wf_152 : wf_ G x u v A y q z H 152 := ⟨_, rfl, id⟩
theorem wf_153 : wf_ G x u v A y q z H 153 := ⟨_, rfl, id⟩
theorem wf_154 : wf_ G x u v A y q z H 154 := ⟨_, rfl, id⟩
theorem wf_155 : wf_ G x u v A y q z H 155 := ⟨_, rfl, id⟩
theorem wf_156 : wf_ G x u v A y q z H 156 := ⟨_, rfl, id⟩
theorem wf_157 : wf_ G x u v A y q z H 157 := ⟨_, rfl, id⟩
theorem wf_158 : wf_ G x u v A y q z H 158 := ⟨_, rfl, id⟩
theorem wf_159 : wf_ G x u v A y q z H 159 := ⟨_, rfl, id⟩
theorem wf_160 : wf_ G x u v A y q z H 160 := ⟨_, rfl, id⟩
theorem wf_161 : wf_ G x u v A y q z H 161 := ⟨_, rfl, id⟩
theorem wf_162 : wf_ G x u v A y q z H 162 := ⟨_, rfl, id⟩
theorem wf_163 : wf_ G x u v A y q z H 163 := ⟨_, rfl, id⟩
theorem wf_164 : wf_ G x u v A y q z H 164 := ⟨_, rfl, id⟩
theorem wf_165 : wf_ G x u v A y q z H 165 := ⟨_, rfl, id⟩
theorem wf_166 : wf_ G x u v A y q z H 166 := ⟨_, rfl, id⟩
theorem wf_167 : wf_ G x u v A y q z H 167 := ⟨_, rfl, id⟩
theorem wf_168 : wf_ G x u v A y q z H 168 := ⟨_, rfl, id⟩
theorem wf_169 : wf_ G x u v A y q z H 169 := ⟨_, rfl, id⟩
theorem wf_170 : wf_ G x u v A y q z H 170 := ⟨_, rfl, id⟩
theorem wf_171 : wf_ G x u v A y q z H 171 := ⟨_, rfl, id⟩
theorem wf_172 : wf_ G x u v A y q z H 172 := ⟨_, rfl, id⟩
theorem wf_173 : wf_ G x u v A y q z H 173 := ⟨_, rfl, id⟩
theorem wf_174 : wf_ G x u v A y q z H 174 := ⟨_, rfl, id⟩
theorem wf_175 : wf_ G x u v A y q z H 175 := ⟨_, rfl, id⟩
theorem wf_176 : wf_ G x u v A y q z H 176 := ⟨_, rfl, id⟩
theorem wf_177 : wf_ G x u v A y q z H 177 := ⟨_, rfl, id⟩
theorem wf_178 : wf_ G x u v A y q z H 178 := ⟨_, rfl, id⟩
theorem wf_179 : wf_ G x u v A y q z H 179 := ⟨_, rfl, id⟩
theorem wf_180 : wf_ G x u v A y q z H 180 := ⟨_, rfl, id⟩
theorem wf_181 : wf_ G x u v A y q z H 181 := ⟨_, rfl, id⟩
theorem wf_182 : wf_ G x u v A y q z H 182 := ⟨_, rfl, id⟩
theorem wf_183 : wf_ G x u v A y q z H 183 := ⟨_, rfl, id⟩
theorem wf_184 : wf_ G x u v A y q z H 184 := ⟨_, rfl, id⟩
theorem wf_185 : wf_ G x u v A y q z H 185 := ⟨_, rfl, id⟩
theorem wf_186 : wf_ G x u v A y q z H 186 := ⟨_, rfl, id⟩
theorem wf_187 : wf_ G x u v A y q z H 187 := ⟨_, rfl, id⟩
theorem wf_188 : wf_ G x u v A y q z H 188 := ⟨_, rfl, id⟩
theorem wf_189 : wf_ G x u v A y q z H 189 := ⟨_, rfl, id⟩
theorem wf_190 : wf_ G x u v A y q z H 190 := ⟨_, rfl, id⟩
theorem wf_191 : wf_ G x u v A y q z H 191 := ⟨_, rfl, id⟩
theorem wf_192 : wf_ G x u v A y q z H 192 := ⟨_, rfl, id⟩
theorem wf_193 : wf_ G x u v A y q z H 193 := ⟨_, rfl, id⟩
theorem wf_194 : wf_ G x u v A y q z H 194 := ⟨_, rfl, id⟩
theorem wf_all : ∀ r, r < 195 → wf_ G x u v A y q z H r
  | 0, _ => wf_0
  | 1, _ => wf_1
  | 2, _ => wf_2
  | 3, _ => wf_3
  | 4, _ => wf_4
  | 5, _ => wf_5
  | 6, _ => wf_6
  | 7, _ => wf_7
  | 8, _ => wf_8
  | 9, _ => wf_9
  | 10, _ => wf_10
  | 11, _ => wf_11
  | 12, _ => wf_12
  | 13, _ => wf_13
  | 14, _ => wf_14
  | 15, _ => wf_15
  | 16, _ => wf_16
  | 17, _ => wf_17
  | 18, _ => wf_18
  | 19, _ => wf_19
  | 20, _ => wf_20
  | 21, _ => wf_21
  | 22, _ => wf_22
  | 23, _ => wf_23
  | 24, _ => wf_24
  | 25, _ => wf_25
  | 26, _ => wf_26
  | 27, _ => wf_27
  | 28, _ => wf_28
  | 29, _ => wf_29
  | 30, _ => wf_30
  | 31, _ => wf_31
  | 32, _ => wf_32
  | 33, _ => wf_33
  | 34, _ => wf_34
  | 35, _ => wf_35
  | 36, _ => wf_36
  | 37, _ => wf_37
  | 38, _ => wf_38
  | 39, _ => wf_39
  | 40, _ => wf_40
  | 41, _ => wf_41
  | 42, _ => wf_42
  | 43, _ => wf_43
  | 44, _ => wf_44
  | 45, _ => wf_45
  | 46, _ => wf_46
  | 47, _ => wf_47
  | 48, _ => wf_48
  | 49, _ => wf_49
  | 50, _ => wf_50
  | 51, _ => wf_51
  | 52, _ => wf_52
  | 53, _ => wf_53
  | 54, _ => wf_54
  | 55, _ => wf_55
  | 56, _ => wf_56
  | 57, _ => wf_57
  | 58, _ => wf_58
  | 59, _ => wf_59
  | 60, _ => wf_60
  | 61, _ => wf_61
  | 62, _ => wf_62
  | 63, _ => wf_63
  | 64, _ => wf_64
  | 65, _ => wf_65
  | 66, _ => wf_66
  | 67, _ => wf_67
  | 68, _ => wf_68
  | 69, _ => wf_69
  | 70, _ => wf_70
  | 71, _ => wf_71
  | 72, _ => wf_72
  | 73, _ => wf_73
  | 74, _ => wf_74
  | 75, _ => wf_75
  | 76, _ => wf_76
  | 77, _ => wf_77
  | 78, _ => wf_78
  | 79, _ => wf_79
  | 80, _ => wf_80
  | 81, _ => wf_81
  | 82, _ => wf_82
  | 83, _ => wf_83
  | 84, _ => wf_84
  | 85, _ => wf_85
  | 86, _ => wf_86
  | 87, _ => wf_87
  | 88, _ => wf_88
  | 89, _ => wf_89
  | 90, _ => wf_90
  | 91, _ => wf_91
  | 92, _ => wf_92
  | 93, _ => wf_93
  | 94, _ => wf_94
  | 95, _ => wf_95
  | 96, _ => wf_96
  | 97, _ => wf_97
  | 98, _ => wf_98
  | 99, _ => wf_99
  | 100, _ => wf_100
  | 101, _ => wf_101
  | 102, _ => wf_102
  | 103, _ => wf_103
  | 104, _ => wf_104
  | 105, _ => wf_105
  | 106, _ => wf_106
  | 107, _ => wf_107
  | 108, _ => wf_108
  | 109, _ => wf_109
  | 110, _ => wf_110
  | 111, _ => wf_111
  | 112, _ => wf_112
  | 113, _ => wf_113
  | 114, _ => wf_114
  | 115, _ => wf_115
  | 116, _ => wf_116
  | 117, _ => wf_117
  | 118, _ => wf_118
  | 119, _ => wf_119
  | 120, _ => wf_120
  | 121, _ => wf_121
  | 122, _ => wf_122
  | 123, _ => wf_123
  | 124, _ => wf_124
  | 125, _ => wf_125
  | 126, _ => wf_126
  | 127, _ => wf_127
  | 128, _ => wf_128
  | 129, _ => wf_129
  | 130, _ => wf_130
  | 131, _ => wf_131
  | 132, _ => wf_132
  | 133, _ => wf_133
  | 134, _ => wf_134
  | 135, _ => wf_135
  | 136, _ => wf_136
  | 137, _ => wf_137
  | 138, _ => wf_138
  | 139, _ => wf_139
  | 140, _ => wf_140
  | 141, _ => wf_141
  | 142, _ => wf_142
  | 143, _ => wf_143
  | 144, _ => wf_144
  | 145, _ => wf_145
  | 146, _ => wf_146
  | 147, _ => wf_147
  | 148, _ => wf_148
  | 149, _ => wf_149
  | 150, _ => wf_150
  | 151, _ => wf_151
  | 152, _ => wf_152
  | 153, _ => wf_153
  | 154, _ => wf_154
  | 155, _ => wf_155
  | 156, _ => wf_156
  | 157, _ => wf_157
  | 158, _ => wf_158
  | 159, _ => wf_159
  | 160, _ => wf_160
  | 161, _ => wf_161
  | 162, _ => wf_162
  | 163, _ => wf_163
  | 164, _ => wf_164
  | 165, _ => wf_165
  | 166, _ => wf_166
  | 167, _ => wf_167
  | 168, _ => wf_168
  | 169, _ => wf_169
  | 170, _ => wf_170
  | 171, _ => wf_171
  | 172, _ => wf_172
  | 173, _ => wf_173
  | 174, _ => wf_174
  | 175, _ => wf_175
  | 176, _ => wf_176
  | 177, _ => wf_177
  | 178, _ => wf_178
  | 179, _ => wf_179
  | 180, _ => wf_180
  | 181, _ => wf_181
  | 182, _ => wf_182
  | 183, _ => wf_183
  | 184, _ => wf_184
  | 185, _ => wf_185
  | 186, _ => wf_186
  | 187, _ => wf_187
  | 188, _ => wf_188
  | 189, _ => wf_189
  | 190, _ => wf_190
  | 191, _ => wf_191
  | 192, _ => wf_192
  | 193, _ => wf_193
  | 194, _ => wf_194
  | r + 195, h => absurd h (by omega)
end Ends
theorem bw_0 {r : Nat} (h : 1 ≤ r ∧ r ≤ 8) : bw_ (fun _ _ => 0) r := ⟨h, Int.le_refl _, Int.natCast_nonneg _, fun i i0 i1 => absurd (show (0 : Int) < 0 from Int.lt_of_le_of_lt i0 i1) (by decide)⟩
theorem IV_0 : IV (fun _ _ => 0) := by
  refine ⟨⟨bw_0 (by decide), rfl, fun i i0 i1 => rfl⟩, ⟨bw_0 (by decide), rfl, fun i i0 i1 => rfl⟩, [], ⟨rfl, by decide, fun N E h => by simp at h, bw_0 (by decide), bw_0 (by decide), bw_0 (by decide), bw_0 (by decide), bw_0 (by decide)⟩, ⟨fun i E h => by simp at h, rfl, by decide, ⟨Int.le_refl _, by decide, fun i i0 i1 => absurd (show (0 : Int) < 0 from Int.lt_of_le_of_lt i0 i1) (by decide)⟩⟩, Or.inl ⟨rfl, rfl⟩⟩
theorem nn_jj {p : Program} {l : Launch} {e : Env} {s : State} {m : MethodId} {below : List Frame} {meth : Method} {c : Code} {b N k n x y z : Nat} {xs : Nat → Int32} {G : mt_G} {u v q : Nat → Nat} {A : mt_A} (hN : N ≤ 2560) (hl : l.stackTraces = false) (hx : p.tables.exec = Jvm.exec) (hb : c.code = c_L_law) (hr : meth.sig.returnType = ret) (hml : c.maxLocals = 7) (ho : s.vm.findClass R_L = some m.cls) (hT : ∀ w ∈ mt_T, w.before #[Value.ref b] s = true) (hX : va_X b N xs s s.heap) (hbl : b < s.heap.size) (hlk : meth.locks = false) (hXn : Xn G s) (hEx : Ex_ G (Au s.heap.size) s s.heap) (hk : k ≤ 1000) (hn : n ≤ 100000) {a4 a5 a6 : Option Value} :
    NN G (p, l, e, room_1, s, m, #[Value.ref b], below, meth, c, Au s.heap.size, lw_Z below #[Value.ref b] s) s.heap.size k n (WF G x u v A y q z) 20 [some (.ref b), some (.ref x), some (.ref y), some (.ref z), a4, a5, a6] [] := by
  intro H locs ls hP hD hS hL
  have hin : in_ (adr x u v A y q z, G.2) := fun i j hi hj e9 => by
    obtain ⟨e1, h1, -⟩ := wf_all (G := G) (x := x) (y := y) (z := z) (u := u) (v := v) (q := q) (A := A) (H := H) i hi
    obtain ⟨e2, h2, -⟩ := wf_all (G := G) (x := x) (y := y) (z := z) (u := u) (v := v) (q := q) (A := A) (H := H) j hj
    exact of9_inj i hi j hj (hD.1 _ _ _ _ h1 h2 e9)
  have hA : ∀ r, r < mt_N → Au s.heap.size (adr x u v A y q z r) := fun r hr => by
    obtain ⟨e1, h1, -⟩ := wf_all (G := G) (x := x) (y := y) (z := z) (u := u) (v := v) (q := q) (A := A) (H := H) r hr
    exact hD.2 _ _ h1
  have hW : va_P G.2.1 vwCl (wd (adr x u v A y q z, G.2) (fun _ _ => 0)) H := fun r qq hk => by
    obtain ⟨hlt, rfl⟩ := wd_at hk
    obtain ⟨e1, h1, h2⟩ := wf_all (G := G) (x := x) (y := y) (z := z) (u := u) (v := v) (q := q) (A := A) (H := H) r hlt
    exact h2 (hP _ _ h1)
  have hOK : OK (adr x u v A y q z, G.2) (p, l, e, room_1, s, m, #[Value.ref b], below, meth, c, Au s.heap.size, lw_Z below #[Value.ref b] s) c_L_law R_L 7 := ⟨hx, hb, hml, ho, hT, hXn.1, hin, hA, fun q hq => hq, hEx⟩
  have hOL : OL (adr x u v A y q z, G.2) (p, l, e, room_1, s, m, #[Value.ref b], below, meth, c, Au s.heap.size, lw_Z below #[Value.ref b] s) b N xs := ⟨rfl, rfl, rfl, rfl, hX, hbl, hr, hlk, hl⟩
  have hJ : JJ (adr x u v A y q z, G.2) (p, l, e, room_1, s, m, #[Value.ref b], below, meth, c, Au s.heap.size, lw_Z below #[Value.ref b] s) k n (fun _ _ => 0) 20 [some (.ref b), some (.ref x), some (.ref y), some (.ref z), a4, a5, a6] [] := by
    refine jj_iconst hOK d_L_law_20 ?_
    refine jj_istore hOK d_L_law_21 (Nat.le_of_ble_eq_true rfl) rfl ?_
    exact lw_loop hOK rfl hOL hN 513 k n (fun _ _ => 0) 0 a5 a6 IV_0 (by decide) (by decide) (by omega) (by omega) (by omega)
  exact hJ H locs ls hW hS hL
theorem whole_start {p : Program} {e : Env} {s : State} {m : MethodId} {below : List Frame} {meth : Method} {c : Code} (l : Launch) (hl : l.stackTraces = false) {b L : Nat} {xs : Nat → Int32} (hL : L ≤ 2560) (C0 : lw_At p s m meth c b L xs) : W p l e room_1 s m #[Value.ref b] below meth c s.heap [] 0 0 (lw_Z below #[Value.ref b] s) (entryFrame m ([Value.ref b] : List Value).toArray 7) := by
  obtain ⟨hx, hb, hr, hml, ho, hts, hX, hbl, hlk, hgv⟩ := C0
  obtain ⟨G, hXn, hEx⟩ := st_all hts hgv
  have hT : ∀ w ∈ mt_T, w.before #[Value.ref b] s = true := fun w hw => hts w (List.mem_filter.mp hw).1
  have h : ON G (p, l, e, room_1, s, m, #[Value.ref b], below, meth, c, Au s.heap.size, lw_Z below #[Value.ref b] s) c_L_law R_L 7 s.heap.size := ⟨hx, hb, hml, ho, hT, hXn, Nat.le_refl _, by decide, by decide⟩
  have key : NN G (p, l, e, room_1, s, m, #[Value.ref b], below, meth, c, Au s.heap.size, lw_Z below #[Value.ref b] s) s.heap.size 0 0 [] 0 (lo0 [.ref b] 7) [] := by
    refine nn_new h (ci := 7) tf_X ty_X uw_X kl_L_8 ki_X kj_X rfl hf_X ⟨by decide, by decide⟩ d_L_law_0 (fun x => ?_)
    refine nn_dup h d_L_law_3 rfl ?_
    refine nn_init h (np := 0) (kX_init) wm_L_39 kn_X wc_X_init kj_X ⟨rfl, by decide, by decide, by decide +kernel⟩ ⟨by decide, by decide, by decide, by decide⟩ rfl rfl rfl (Nat.le_of_ble_eq_true rfl) d_L_law_4 (fun ws9 hw9 => ?_)
    obtain ⟨u, v, A, rfl⟩ := hw9
    refine nn_astore_n h d_L_law_7 ⟨_, rfl⟩ (Nat.le_of_ble_eq_true rfl) rfl ?_
    refine nn_new h (ci := 8) tf_M ty_M uw_M kl_L_40 ki_M kj_M rfl hf_M ⟨by decide, by decide⟩ d_L_law_8 (fun y => ?_)
    refine nn_dup h d_L_law_11 rfl ?_
    refine nn_init h (np := 0) (kM_init) wm_L_42 kn_M wc_M_init kj_M ⟨rfl, by decide, by decide, by decide +kernel⟩ ⟨by decide, by decide, by decide, by decide⟩ rfl rfl rfl (Nat.le_of_ble_eq_true rfl) d_L_law_12 (fun ws9 hw9 => ?_)
    obtain ⟨q, rfl⟩ := hw9
    refine nn_astore_n h d_L_law_15 ⟨_, rfl⟩ (Nat.le_of_ble_eq_true rfl) rfl ?_
    refine nn_iconst h d_L_law_16 ?_
    refine nn_newl h (N := 1) ka_long rfl (by decide) ⟨by decide, by decide⟩ d_L_law_17 (fun z => ?_)
    refine nn_astore_n h d_L_law_19 ⟨_, rfl⟩ (Nat.le_of_ble_eq_true rfl) rfl ?_
    exact nn_jj hL hl hx hb hr hml ho hT hX hbl hlk hXn hEx (by decide) (by decide)
  rw [lg_entry_eq]
  exact key s.heap [] _ (fun k q hk => by simp at hk) ⟨fun i j p q hp => by simp at hp, fun k q hk => by simp at hk⟩ va_S.rf (lo0_ok [Value.ref b] (Nat.le_of_ble_eq_true rfl))
