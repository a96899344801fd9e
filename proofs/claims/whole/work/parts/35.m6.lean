/-! The reference: contracts of the scanner's methods in lists; fields, encoding. -/
theorem CT.mono {G : mt_G} {l : Launch} {y : MethodName} {cc : ByteArray} {nL : Nat} {ret : Option FieldType} {d : Nat} {vs : List Value} {mem : mt_M} {P P' : Option Value → mt_M → Prop} (h : CT G l y cc nL ret d vs mem P) (hp : ∀ v m, P v m → P' v m) : CT G l y cc nL ret d vs mem P' := by
  intro sz p e ha h1 h2 s m args below hf hap hP hk
  obtain ⟨n, o, a, b, c, ⟨⟨v, mem', e1, e2, e3⟩, hF⟩, hL⟩ := h sz p e ha h1 h2 s m args below hf hap hP hk
  exact ⟨n, o, a, b, c, ⟨⟨v, mem', e1, hp v mem' e2, e3⟩, hF⟩, hL⟩
/-- only the scanner's place and word may have changed -/
def fq_ (mem m : mt_M) : Prop := ∀ (r : Nat) (z : Int), (r ≠ 182 ∨ (z ≠ 13 ∧ z ≠ 15 ∧ z ≠ 16)) → m r z = mem r z
theorem fq_.rf {mem : mt_M} : fq_ mem mem := fun _ _ _ => rfl
theorem fq_.trans {a b c : mt_M} (h1 : fq_ a b) (h2 : fq_ b c) : fq_ a c := fun r z p => (h2 r z p).trans (h1 r z p)
theorem fq_.st {a b : mt_M} {z v : Int} (h : fq_ a b) (hz : z = 13 ∨ z = 15 ∨ z = 16) : fq_ a (st_ b 182 z v) := fun r z' q => by
  rw [st_ne (by rcases q with q | q; exact Or.inl q; exact Or.inr (by rcases hz with rfl | rfl | rfl <;> omega))]; exact h r z' q
theorem fq_.txt {a b : mt_M} (h : fq_ a b) : b 187 = a 187 := by funext z; exact h _ _ (Or.inl (by decide))
theorem fq_.fr {a b : mt_M} (h : fq_ a b) : fr_ a b := ⟨by rw [h _ _ (Or.inr (by decide))]; exact Int.le_refl _, fun r z _ q => h r z (by rcases q with q | q; exact Or.inl q; exact Or.inr ⟨q.1, q.2.1, q.2.2.1⟩)⟩
/-- the scanner stands before the list L -/
def sL (mem : mt_M) (s : Int) (L : List Int) : Prop := sc_ mem (mem 182 13) s ∧ slc (mem 187) (mem 182 13) s = L
theorem sL.len {mem : mt_M} {s : Int} {L : List Int} (h : sL mem s L) : (L.length : Int) = s - mem 182 13 := by rw [← h.2, slc_len]; have := h.1.2.2.2.1; omega
theorem sL.suf {mem : mt_M} {s : Int} {L L' : List Int} (h : sL mem s L) (hL : L' <:+ L) : sL (st_ mem 182 13 (s - L'.length)) s L' := by
  have h4 := h.1.2.2.2.1
  rw [← h.2] at hL
  obtain ⟨e1, e2, e3⟩ := slc_suf h4 hL
  refine ⟨?_, ?_⟩
  · rw [st_same]; exact h.1.to e2 (by omega)
  · rw [st_same, st_row (by decide)]; exact e1
theorem cM_spaceL {G : mt_G} {l : Launch} {mem : mt_M} {s : Int} {L : List Int} (hs : sL mem s L) : CT G l y_M_space c_M_space 2 none 3 [vr G 182] mem (fun v m' => v = none ∧ fq_ mem m' ∧ sL m' s (skp 0 L) ∧ m' 182 15 = mem 182 15 ∧ m' 182 16 = mem 182 16) := by
  refine (cM_space hs.1).mono (fun v m hv => ?_)
  obtain ⟨rfl, rfl⟩ := hv
  rw [hs.2]
  exact ⟨rfl, fq_.rf.st (by decide), hs.suf (skp_suf L 0), st_ne (by decide), st_ne (by decide)⟩
theorem dw_suf (p : Int → Bool) (L : List Int) : L.dropWhile p <:+ L := ⟨L.takeWhile p, List.takeWhile_append_dropWhile⟩
theorem cM_atomL {G : mt_G} {l : Launch} {mem : mt_M} {s : Int} {L : List Int} (hs : sL mem s L) : CT G l y_M_atom c_M_atom 1 (some .boolean) 3 [vr G 182] mem (fun v m' => v = some (vi (if L.takeWhile at_ = [] then 0 else 1)) ∧ fq_ mem m' ∧ sL m' s (L.dropWhile at_) ∧ 0 ≤ m' 182 15 ∧ 0 ≤ m' 182 16 ∧ m' 182 15 + m' 182 16 ≤ s ∧ mem 182 13 ≤ m' 182 15 ∧ slc (mem 187) (m' 182 15) (m' 182 15 + m' 182 16) = L.takeWhile at_) := by
  refine (cM_atom hs.1).mono (fun v m hv => ?_)
  obtain ⟨rfl, rfl⟩ := hv
  rw [hs.2]
  have h4 := hs.1.2.2.2.1
  have h3 := hs.1.2.2.1
  have hl := hs.len
  have hd := dw_suf at_ L
  have hq := hs.suf hd
  have hdl := hd.length_le
  have e1 : am_ mem (mem 182 13) s 182 15 = mem 182 13 := by unfold am_; rw [st_ne (by decide), st_ne (by decide), st_same]
  have e2 : am_ mem (mem 182 13) s 182 16 = s - (L.dropWhile at_).length - mem 182 13 := by unfold am_; rw [st_same, hs.2]
  have e3 : am_ mem (mem 182 13) s 182 13 = s - (L.dropWhile at_).length := by unfold am_; rw [st_ne (by decide), st_same, hs.2]
  have e4 : fq_ mem (am_ mem (mem 182 13) s) := ((fq_.rf.st (by decide)).st (by decide)).st (by decide)
  refine ⟨rfl, e4, ⟨?_, ?_⟩, by omega, by omega, by omega, by omega, ?_⟩
  · obtain ⟨q1, q2, q3, q4, q5, q6⟩ := hq.1
    rw [st_same] at q1 q3 q4 q6
    rw [st_row (by decide)] at q6
    rw [st_ne (by decide)] at q2
    refine ⟨rfl, ?_, by omega, by omega, q5, ?_⟩
    · rw [e4 _ _ (Or.inr (by decide))]; exact q2
    · rw [e4.txt, e3]; exact q6
  · have := hq.2
    rw [st_same, st_row (by decide)] at this
    rw [e4.txt, e3]; exact this
  · rw [e1, e2]
    have e5 : slc (mem 187) (mem 182 13) s = slc (mem 187) (mem 182 13) (s - (L.dropWhile at_).length) ++ slc (mem 187) (s - (L.dropWhile at_).length) s := slc_app (by omega) (by omega)
    have e6 := hq.2
    rw [st_same, st_row (by decide)] at e6
    rw [hs.2, e6] at e5
    have e7 : L.takeWhile at_ ++ L.dropWhile at_ = L := List.takeWhile_append_dropWhile
    rw [show mem 182 13 + (s - ((L.dropWhile at_).length : Int) - mem 182 13) = s - (L.dropWhile at_).length by omega]
    exact (List.append_cancel_right (e7.trans e5)).symm
theorem cM_takesL {G : mt_G} {l : Launch} {mem : mt_M} {s c : Int} {L : List Int} (hs : sL mem s L) (hc : 0 ≤ c ∧ c ≤ 255) : CT G l y_M_takes c_M_takes 2 (some .boolean) 3 [vr G 182, vi c] mem (fun v m' => fq_ mem m' ∧ match tk_ c L with
    | none => v = some (vi 0) ∧ mem = m'
    | some L' => v = some (vi 1) ∧ sL m' s L') := by
  refine (cM_takes hs.1 hc).mono (fun v m hv => ?_)
  rw [hs.2] at hv
  cases L with
  | nil => obtain ⟨rfl, rfl⟩ := hv; exact ⟨fq_.rf, rfl, rfl⟩
  | cons b t =>
    have e0 : tk_ c (b :: t) = if b = c then some t else none := rfl
    rw [e0] at hv ⊢
    by_cases hb : b = c
    · rw [if_pos hb] at hv ⊢
      obtain ⟨rfl, rfl⟩ := hv
      refine ⟨fq_.rf.st (by decide), rfl, ?_⟩
      have := hs.suf (L' := t) (List.suffix_cons b t)
      have hl := hs.len
      rw [List.length_cons] at hl
      rw [show mem 182 13 + 1 = s - t.length by omega]
      exact this
    · rw [if_neg hb] at hv ⊢
      obtain ⟨rfl, rfl⟩ := hv
      exact ⟨fq_.rf, rfl, rfl⟩
