/-! The reference: contents of a leaf; trimming. -/
/-- out of its encoding -/
def dec_ (en : Int) (L : List Int) : List Int := if en = 1 then b64d L else if en = 2 then qp_ L else L
theorem cM_contents {G : mt_G} {l : Launch} {mem : mt_M} {e b s en : Int} (h0 : 0 ≤ e) (h1 : e < 16) (hd8 : mem 185 (16 * e + 8) = b) (hd9 : mem 185 (16 * e + 9) = s) (hd4 : mem 185 (16 * e + 4) = en) (hen : r32 en) (hb0 : 0 ≤ b) (hb1 : b ≤ s) (hs2 : s ≤ 320) (hb : by_ (mem 184) b s) (hT : 0 ≤ mem 182 9) (hro : mem 182 9 + (s - b) ≤ 1400) : CT G l y_M_contents c_M_contents 5 none 4 [vr G 182, vi e] mem (fun v m' => v = none ∧ ∃ m : mt_M, ap_ mem (dec_ en (slc (mem 184) b s)) m ∧ m 182 9 ≤ mem 182 9 + (s - b) ∧ m' = st_ (st_ m 185 (16 * e + 10) (mem 182 9)) 185 (16 * e + 5) ((dec_ en (slc (mem 184) b s)).length)) := by
  refine CT.intro (by decide) rfl (Nat.le_of_ble_eq_true rfl) (fun X h he => ?_)
  sorry
