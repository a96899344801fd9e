/-! The class: a quoted one. -/
theorem qt_end {t : List Int} : qtd (34 :: t) = some ([], t) := by cases t <;> rfl
theorem qt_back {c : Int} {t : List Int} : qtd (92 :: c :: t) = (qtd t).map (fun q => (c :: q.1, q.2)) := rfl
theorem qt_back1 : qtd [92] = none := rfl
theorem qt_other {b : Int} {t : List Int} (h1 : b ≠ 34) (h2 : b ≠ 92) : qtd (b :: t) = (qtd t).map (fun q => (b :: q.1, q.2)) := by
  cases t with
  | nil => show (if b = 34 then some ([], []) else none) = _; rw [if_neg h1]; rfl
  | cons c t => show (if b = 34 then some ([], c :: t) else if b = 92 then (qtd t).map (fun q => (c :: q.1, q.2)) else (qtd (c :: t)).map (fun q => (b :: q.1, q.2))) = _; rw [if_neg h1, if_neg h2]
