/-! The world: cells by their roles. 0 the MailTree; 1..8 its rows of bytes (message, latest, source, values, contents, boundaries, word, draft), 9..16 their arrays; 17 Tree, 18 Scanner, 19 Decoder, 20 Printer; 21 Entity[]; 22..37 entities, 38..53 their Field[], 54..181 fields; 182 the reference, 183..193 its arrays; 194 long[1]. -/
abbrev mt_M : Type := Nat → Int → Int
/-- addresses of the cells; classes and slots; array classes; the literals' addresses -/
abbrev mt_G : Type := (Nat → Nat) × va_G × (Nat → ClassId) × (Nat → Nat) × (Nat → Nat)
def vi (z : Int) : Value := .int (Int32.ofInt z)
def vl (z : Int) : Value := .long (Int64.ofInt z)
def vr (G : mt_G) (r : Nat) : Value := .ref (G.1 r)
/-- a literal -/
def vs (G : mt_G) (i : Nat) : Value := .ref (G.2.2.2.1 i)
def mt_N : Nat := 195
def ln_ (r : Nat) : Nat := if r = 10 then 700 else if r = 16 then 700 else if r ≤ 16 then 320 else if r = 183 then 320 else if r = 184 then 320 else if r = 185 then 256 else if r = 186 then 512 else if r = 187 then 1400 else if r = 188 then 1400 else if r = 189 then 400 else if r = 190 then 1800 else if r = 191 then 700 else if r = 192 then 6 else if r = 193 then 6 else 0
def ce_ (G : mt_G) (f : Int → Int) (r : Nat) : va_E :=
  if r = 0 then .inr (7, [vr G 1, vr G 2, vr G 17, vr G 20]) else
  if r ≤ 8 then .inr (0, [vr G (r + 8), vi (f 1), vi (f 2)]) else
  if r ≤ 16 then .inl (G.2.2.1 0, ln_ r, .inl (fun j => Int32.ofInt (f (j : Int)))) else
  if r = 17 then .inr (6, [vr G 3, vr G 4, vr G 5, vr G 6, vr G 21, vr G 18, vr G 19, vi (f 7)]) else
  if r = 18 then .inr (5, [vr G 4, vr G 7, vi (f 2), vi (f 3), vi (f 4)]) else
  if r = 19 then .inr (1, [vr G 3, vr G 5]) else
  if r = 20 then .inr (4, [vr G 17, vr G 8]) else
  if r = 21 then .inl (G.2.2.1 2, 16, .inr (.inr (.inr (.inr (fun j => some (G.1 (22 + j))))))) else
  if r ≤ 37 then .inr (2, [vi (f 0), vi (f 1), vi (f 2), vi (f 3), vi (f 4), vi (f 5), vi (f 6), vi (f 7), vi (f 8), vi (f 9), vi (f 10), vi (f 11), vi (f 12), vr G (r + 16)]) else
  if r ≤ 53 then .inl (G.2.2.1 3, 8, .inr (.inr (.inr (.inr (fun j => some (G.1 (54 + 8 * (r - 38) + j))))))) else
  if r ≤ 181 then .inr (3, [vi (f 0), vi (f 1), vi (f 2), vi (f 3)]) else
  if r = 182 then .inr (8, [vi (f 0), vi (f 1), vr G 183, vi (f 3), vr G 184, vi (f 5), vr G 185, vr G 186, vr G 187, vi (f 9), vi (f 10), vr G 188, vr G 189, vi (f 13), vi (f 14), vi (f 15), vi (f 16), vi (f 17), vr G 190, vi (f 19), vi (f 20), vr G 191, vi (f 22), vr G 192, vr G 193]) else
  if r ≤ 193 then .inl (G.2.2.1 0, ln_ r, .inl (fun j => Int32.ofInt (f (j : Int)))) else
  .inl (G.2.2.1 1, 1, .inr (.inl (fun j => Int64.ofInt (f (j : Int)))))
def ty_ (G : mt_G) : List (ClassId × FieldType) := [(G.2.2.1 0, .int), (G.2.2.1 1, .long), (G.2.2.1 2, .object R_E), (G.2.2.1 3, .object R_F)]
theorem ce_B {G : mt_G} {f : Int → Int} {r : Nat} (h : 1 ≤ r ∧ r ≤ 8) : ce_ G f r = .inr (0, [vr G (r + 8), vi (f 1), vi (f 2)]) := by
  unfold ce_
  rw [if_neg (by omega), if_pos (by omega)]
theorem ce_E {G : mt_G} {f : Int → Int} {r : Nat} (h : 22 ≤ r ∧ r ≤ 37) : ce_ G f r = .inr (2, [vi (f 0), vi (f 1), vi (f 2), vi (f 3), vi (f 4), vi (f 5), vi (f 6), vi (f 7), vi (f 8), vi (f 9), vi (f 10), vi (f 11), vi (f 12), vr G (r + 16)]) := by
  unfold ce_
  rw [if_neg (by omega), if_neg (by omega), if_neg (by omega), if_neg (by omega), if_neg (by omega), if_neg (by omega), if_neg (by omega), if_neg (by omega), if_pos (by omega)]
theorem ce_F {G : mt_G} {f : Int → Int} {r : Nat} (h : 54 ≤ r ∧ r ≤ 181) : ce_ G f r = .inr (3, [vi (f 0), vi (f 1), vi (f 2), vi (f 3)]) := by
  unfold ce_
  rw [if_neg (by omega), if_neg (by omega), if_neg (by omega), if_neg (by omega), if_neg (by omega), if_neg (by omega), if_neg (by omega), if_neg (by omega), if_neg (by omega), if_neg (by omega), if_pos (by omega)]
theorem ce_A {G : mt_G} {f : Int → Int} {r : Nat} (h : 9 ≤ r ∧ r ≤ 16) : ce_ G f r = .inl (G.2.2.1 0, ln_ r, .inl (fun j => Int32.ofInt (f (j : Int)))) := by
  unfold ce_
  rw [if_neg (by omega), if_neg (by omega), if_pos (by omega)]
theorem ce_K {G : mt_G} {f : Int → Int} {r : Nat} (h : 38 ≤ r ∧ r ≤ 53) : ce_ G f r = .inl (G.2.2.1 3, 8, .inr (.inr (.inr (.inr (fun j => some (G.1 (54 + 8 * (r - 38) + j))))))) := by
  unfold ce_
  rw [if_neg (by omega), if_neg (by omega), if_neg (by omega), if_neg (by omega), if_neg (by omega), if_neg (by omega), if_neg (by omega), if_neg (by omega), if_neg (by omega), if_pos (by omega)]
theorem ln_A {r : Nat} (h : 9 ≤ r ∧ r ≤ 16) : ln_ r = if r = 10 ∨ r = 16 then 700 else 320 := by
  unfold ln_
  by_cases h1 : r = 10
  · simp [h1]
  · by_cases h2 : r = 16
    · simp [h2]
    · rw [if_neg h1, if_neg h2, if_pos (by omega), if_neg (by omega)]
/-- the literals: class, entry, text -/
def mt_str : List (String × Nat × String) := [("MailTree$Tree", 175, "content-transfer-encoding"), ("MailTree", 186, "()<>@,;:\\\"/[]?="), ("MailTree$Tree", 195, "base64"), ("MailTree$Tree", 204, "quoted-printable"), ("MailTree$Tree", 206, "content-type"), ("MailTree$Tree", 208, "multipart"), ("MailTree$Tree", 210, "message"), ("MailTree$Tree", 215, "rfc822"), ("MailTree$Scanner", 72, "boundary"), ("MailTree", 196, "ABCDEFGHIJKLMNOPQRSTUVWXYZabcdefghijklmnopqrstuvwxyz0123456789+/"), ("MailTree$Tree", 248, "--"), ("MailTree$Tree", 60, "no such entity"), ("MailTree", 96, "no such thing to look at"), ("MailTree$Entity", 60, "no such field"), ("MailTree", 113, "neither name nor value"), ("MailTree", 183, "no such byte"), ("MailTree", 152, "nothing was read"), ("MailTree$Printer", 87, ": "), ("MailTree$Printer", 38, "\r\n"), ("MailTree$Printer", 138, "ABCDEFGHIJKLMNOPQRSTUVWXYZabcdefghijklmnopqrstuvwxyz0123456789+/"), ("MailTree$Printer", 164, "0123456789ABCDEF"), ("MailTree$Printer", 63, "--"), ("MailTree", 168, "too much to write")]
def mt_len : List Nat := [25, 15, 6, 16, 12, 9, 7, 6, 8, 64, 2, 14, 24, 13, 22, 12, 16, 2, 2, 64, 16, 2, 17]
def mt_byt : List (List Int32) := [[99, 111, 110, 116, 101, 110, 116, 45, 116, 114, 97, 110, 115, 102, 101, 114, 45, 101, 110, 99, 111, 100, 105, 110, 103], [40, 41, 60, 62, 64, 44, 59, 58, 92, 34, 47, 91, 93, 63, 61], [98, 97, 115, 101, 54, 52], [113, 117, 111, 116, 101, 100, 45, 112, 114, 105, 110, 116, 97, 98, 108, 101], [99, 111, 110, 116, 101, 110, 116, 45, 116, 121, 112, 101], [109, 117, 108, 116, 105, 112, 97, 114, 116], [109, 101, 115, 115, 97, 103, 101], [114, 102, 99, 56, 50, 50], [98, 111, 117, 110, 100, 97, 114, 121], [65, 66, 67, 68, 69, 70, 71, 72, 73, 74, 75, 76, 77, 78, 79, 80, 81, 82, 83, 84, 85, 86, 87, 88, 89, 90, 97, 98, 99, 100, 101, 102, 103, 104, 105, 106, 107, 108, 109, 110, 111, 112, 113, 114, 115, 116, 117, 118, 119, 120, 121, 122, 48, 49, 50, 51, 52, 53, 54, 55, 56, 57, 43, 47], [45, 45], [110, 111, 32, 115, 117, 99, 104, 32, 101, 110, 116, 105, 116, 121], [110, 111, 32, 115, 117, 99, 104, 32, 116, 104, 105, 110, 103, 32, 116, 111, 32, 108, 111, 111, 107, 32, 97, 116], [110, 111, 32, 115, 117, 99, 104, 32, 102, 105, 101, 108, 100], [110, 101, 105, 116, 104, 101, 114, 32, 110, 97, 109, 101, 32, 110, 111, 114, 32, 118, 97, 108, 117, 101], [110, 111, 32, 115, 117, 99, 104, 32, 98, 121, 116, 101], [110, 111, 116, 104, 105, 110, 103, 32, 119, 97, 115, 32, 114, 101, 97, 100], [58, 32], [13, 10], [65, 66, 67, 68, 69, 70, 71, 72, 73, 74, 75, 76, 77, 78, 79, 80, 81, 82, 83, 84, 85, 86, 87, 88, 89, 90, 97, 98, 99, 100, 101, 102, 103, 104, 105, 106, 107, 108, 109, 110, 111, 112, 113, 114, 115, 116, 117, 118, 119, 120, 121, 122, 48, 49, 50, 51, 52, 53, 54, 55, 56, 57, 43, 47], [48, 49, 50, 51, 52, 53, 54, 55, 56, 57, 65, 66, 67, 68, 69, 70], [45, 45], [116, 111, 111, 32, 109, 117, 99, 104, 32, 116, 111, 32, 119, 114, 105, 116, 101]]
/-- words that stay under warmer tables, but are no good words -/
def mt_isF : Cond → Bool
  | .declares .. => true
  | .castable .. => true
  | _ => false
def mt_face : List Cond := tables_1.filter mt_isF
theorem mt_faceF {w : Cond} (h : w ∈ mt_face) : w.onTables = true ∧ w.keepsFace = true := by
  have h2 := (List.mem_filter.mp h).2
  cases w <;> first | exact ⟨rfl, rfl⟩ | (exact absurd h2 (by simp [mt_isF]))
/-- no object of the first class is one of the second -/
def mt_ncp : List (String × String) := [("java/lang/IllegalArgumentException", "java/util/NoSuchElementException"), ("java/lang/UnsupportedOperationException", "java/lang/IllegalStateException")]
def nc_ (U : State) : Prop := ∀ q ∈ mt_ncp, ∃ ca cb : ClassId, U.vm.findClass q.1 = some ca ∧ U.vm.findClass q.2 = some cb ∧ U.vm.assignable ca cb = false
theorem nc_.moved {u U : State} (h : u.vm.Alike U.vm) (hn : nc_ u) : nc_ U := fun q hq => by
  obtain ⟨ca, cb, h1, h2, h3⟩ := hn q hq
  exact ⟨ca, cb, by rw [h.findClass]; exact h1, by rw [h.findClass]; exact h2, by rw [h.assignable]; exact h3⟩
/-- a static of Throwable's that holds a reference or null -/
def th_ (A : Nat → Prop) (U : State) (H : Heap) (n d : String) : Prop := ∃ (c : ClassId) (k : Class) (i : Nat) (f : Field) (a : Nat) (cell : Cell) (v : Value), U.vm.findClass "java/lang/Throwable" = some c ∧ U.fieldFound? "java/lang/Throwable" n d = some (c, k, i, f) ∧ f.isStatic = true ∧ k.statics = some a ∧ k.staticTypes[f.slot]? = some f.type ∧ H[a]? = some cell ∧ cell.vm.isStatics = true ∧ cell.cls = c ∧ f.slot < cell.slots.size ∧ cell.slots[f.slot]? = some v ∧ v.isRef = true ∧ ¬ A a
theorem th_.moved {A : Nat → Prop} {u U : State} {H : Heap} {n d : String} (hvm : u.vm.Alike U.vm) (h : th_ A u H n d) : th_ A U H n d := by
  obtain ⟨c, k, i, f, a, cell, v, h0, h1, h2, h3, h4, h5⟩ := h
  obtain ⟨k', hi', he⟩ := State.fieldFound?_setVm hvm h1
  exact ⟨c, k', i, f, a, cell, v, by rw [hvm.findClass]; exact h0, hi', h2, by rw [he]; exact h3, by rw [he]; exact h4, h5⟩
theorem th_.kept {A : Nat → Prop} {U : State} {H H1 : Heap} {n d : String} (h : th_ A U H n d) (hq : ∀ a : Nat, a < H.size → ¬ A a → H1[a]? = H[a]?) : th_ A U H1 n d := by
  obtain ⟨c, k, i, f, a, cell, v, h0, h1, h2, h3, h4, h5, h6, h7, h8, h9, h10, h11⟩ := h
  exact ⟨c, k, i, f, a, cell, v, h0, h1, h2, h3, h4, by rw [hq a (Array.getElem?_eq_some_iff.mp h5).1 h11]; exact h5, h6, h7, h8, h9, h10, h11⟩
theorem th_.narrow {A B : Nat → Prop} {U : State} {H : Heap} {n d : String} (h : th_ A U H n d) (hAB : ∀ q, B q → A q) : th_ B U H n d := by
  obtain ⟨c, k, i, f, a, cell, v, h0, h1, h2, h3, h4, h5, h6, h7, h8, h9, h10, h11⟩ := h
  exact ⟨c, k, i, f, a, cell, v, h0, h1, h2, h3, h4, h5, h6, h7, h8, h9, h10, fun z => h11 (hAB a z)⟩
/-- the literals, as Strings of bytes (two of them may be one and the same) -/
def vq_ (G : mt_G) (A : Nat → Prop) (U : State) (H : Heap) : Prop := (∀ i : Nat, i < 23 → va_O "java/lang/String" (G.2.2.2.1 i) A U H ∧ va_OF "java/lang/String" "coder" "B" (.int 0) (G.2.2.2.1 i) A U H ∧ va_OF "java/lang/String" "value" "[B" (.ref (G.2.2.2.2 i)) (G.2.2.2.1 i) A U H ∧ va_T .byte (G.2.2.2.2 i) (mt_len.getD i 0) (fun j => .int ((mt_byt.getD i []).getD j 0)) A U H) ∧ True
theorem vq_.moved {G : mt_G} {A : Nat → Prop} {u U : State} {H : Heap} (hvm : u.vm.Alike U.vm) (h : vq_ G A u H) : vq_ G A U H := ⟨fun i hi => ⟨va_O.moved hvm (h.1 i hi).1, va_OF.moved hvm (h.1 i hi).2.1, va_OF.moved hvm (h.1 i hi).2.2.1, va_T.moved hvm (h.1 i hi).2.2.2⟩, trivial⟩
theorem vq_.kept {G : mt_G} {A : Nat → Prop} {U : State} {H H1 : Heap} (h : vq_ G A U H) (hq : ∀ a : Nat, a < H.size → ¬ A a → H1[a]? = H[a]?) : vq_ G A U H1 := ⟨fun i hi => ⟨(h.1 i hi).1.kept hq, (h.1 i hi).2.1.kept hq, (h.1 i hi).2.2.1.kept hq, (h.1 i hi).2.2.2.kept hq⟩, trivial⟩
theorem vq_.narrow {G : mt_G} {A B : Nat → Prop} {U : State} {H : Heap} (h : vq_ G A U H) (hAB : ∀ q, B q → A q) : vq_ G B U H := ⟨fun i hi => ⟨(h.1 i hi).1.narrow hAB, (h.1 i hi).2.1.narrow hAB, (h.1 i hi).2.2.1.narrow hAB, (h.1 i hi).2.2.2.narrow hAB⟩, trivial⟩
theorem vq_.recv {G : mt_G} {A : Nat → Prop} {s : State} {H : Heap} {locs : List Loc} {i : Nat} (h : vq_ G A s s.heap) (hi : i < 23) (hS : va_S A s.heap H locs) : ∃ cell : Cell, H[G.2.2.2.1 i]? = some cell ∧ cell.vm.isStatics = false ∧ s.vm.findClass "java/lang/String" = some cell.cls := by
  obtain ⟨cell, h1, h2, h3, -⟩ := (h.1 i hi).1.kept hS.2.1
  exact ⟨cell, h1, h2, h3⟩
/-- what stands outside the world and stays: links between nest mates, the literals, statics -/
def Ex_ (G : mt_G) (A : Nat → Prop) (U : State) (H : Heap) : Prop := (∀ w ∈ mt_nest, va_Nw w U) ∧ (∀ (i : Nat) (q : String × Nat × String), mt_str[i]? = some q → vk_R q.1 q.2.1 q.2.2 (G.2.2.2.1 i) U) ∧ vq_ G A U H ∧ va_Z "java/lang/String" "COMPACT_STRINGS" "Z" (.int 1) A U H ∧ va_Zq "java/lang/Throwable" "UNASSIGNED_STACK" "[Ljava/lang/StackTraceElement;" A U H ∧ va_Zq "java/lang/Throwable" "SUPPRESSED_SENTINEL" "Ljava/util/List;" A U H ∧ va_Zq "jdk/internal/util/Preconditions" "SIOOBE_FORMATTER" "Ljava/util/function/BiFunction;" A U H ∧ (∀ w ∈ mt_face, va_Nw w U) ∧ nc_ U ∧ th_ A U H "UNASSIGNED_STACK" "[Ljava/lang/StackTraceElement;" ∧ th_ A U H "SUPPRESSED_SENTINEL" "Ljava/util/List;"
theorem Ex_.same {G : mt_G} {A : Nat → Prop} {u U : State} {H : Heap} (hv : u.vm = U.vm) (h : Ex_ G A u H) : Ex_ G A U H := by
  have hA : u.vm.Alike U.vm := by rw [hv]; exact Vm.Alike.refl _
  obtain ⟨h1, h2, h3, h4, h5, h6, h7, h8, h9, h10, h11⟩ := h
  exact ⟨fun w hw => by obtain ⟨a, i, x, b, rfl⟩ := mt_nestF hw; exact va_Nw.same rfl hv (h1 _ hw), fun i q hq => vk_R.same hv.symm (h2 i q hq), vq_.moved hA h3, va_Z.moved hA h4, va_Zq.moved hA h5, va_Zq.moved hA h6, va_Zq.moved hA h7, fun w hw => va_Nw.same (mt_faceF hw).1 hv (h8 w hw), nc_.moved hA h9, th_.moved hA h10, th_.moved hA h11⟩
theorem Ex_.warm {G : mt_G} {A : Nat → Prop} {s U : State} {H : Heap} (hW : s.WarmedH U.vm) (h : Ex_ G A s H) : Ex_ G A U H := by
  obtain ⟨h1, h2, h3, h4, h5, h6, h7, h8, h9, h10, h11⟩ := h
  exact ⟨fun w hw => by obtain ⟨a, i, x, b, rfl⟩ := mt_nestF hw; exact va_Nw.warmM hW (h1 _ hw), fun i q hq => vk_R.warm hW (h2 i q hq), vq_.moved hW.alike h3, va_Z.moved hW.alike h4, va_Zq.moved hW.alike h5, va_Zq.moved hW.alike h6, va_Zq.moved hW.alike h7, fun w hw => va_tabs (mt_faceF hw).1 (rfl : (s.setVm U.vm).vm = U.vm) (Cond.before_shiftedFace (State.Shifted.of_warmed hW) w (mt_faceF hw).2 (h8 w hw)), nc_.moved hW.alike h9, th_.moved hW.alike h10, th_.moved hW.alike h11⟩
theorem Ex_.kept {G : mt_G} {A : Nat → Prop} {U : State} {H H1 : Heap} (h : Ex_ G A U H) (hq : ∀ a : Nat, a < H.size → ¬ A a → H1[a]? = H[a]?) : Ex_ G A U H1 := by
  obtain ⟨h1, h2, h3, h4, h5, h6, h7, h8, h9, h10, h11⟩ := h
  exact ⟨h1, h2, vq_.kept h3 hq, va_Z.kept h4 hq, va_Zq.kept h5 hq, va_Zq.kept h6 hq, va_Zq.kept h7 hq, h8, h9, th_.kept h10 hq, th_.kept h11 hq⟩
theorem Ex_.narrow {G : mt_G} {A B : Nat → Prop} {U : State} {H : Heap} (h : Ex_ G A U H) (hAB : ∀ q, B q → A q) : Ex_ G B U H := by
  obtain ⟨h1, h2, h3, h4, h5, h6, h7, h8, h9, h10, h11⟩ := h
  exact ⟨h1, h2, vq_.narrow h3 hAB, va_Z.narrow h4 hAB, va_Zq.narrow h5 hAB, va_Zq.narrow h6 hAB, va_Zq.narrow h7 hAB, h8, h9, th_.narrow h10 hAB, th_.narrow h11 hAB⟩
