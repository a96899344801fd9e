/-! The document's terms as functions of lists of numbers. -/
abbrev bl_ (c : Int) : Prop := c = 32 ∨ c = 9
def sm_ (c : Int) : Int := if 65 ≤ c ∧ c ≤ 90 then c + 32 else c
/-- a byte of an atom -/
def at_ (c : Int) : Bool := decide (33 ≤ c ∧ c ≤ 126 ∧ ¬ (c = 40 ∨ c = 41 ∨ c = 60 ∨ c = 62 ∨ c = 64 ∨ c = 44 ∨ c = 59 ∨ c = 58 ∨ c = 92 ∨ c = 34 ∨ c = 47 ∨ c = 91 ∨ c = 93 ∨ c = 63 ∨ c = 61))
/-- the word w, whatever its capital letters -/
def wd_ (w l : List Int) : Bool := decide (l.map sm_ = w)
/-- behind the space that begins here; o comments are open -/
def skp : Nat → List Int → List Int
  | _, [] => []
  | o, [b] => if o = 0 ∧ b ≠ 40 ∧ ¬ bl_ b then [b] else []
  | o, b :: c :: t => if o = 0 ∧ b ≠ 40 ∧ ¬ bl_ b then b :: c :: t else if b = 40 then skp (o + 1) (c :: t) else if b = 41 then skp (o - 1) (c :: t) else if b = 92 then skp o t else skp o (c :: t)
/-- behind a sign -/
def tk_ (c : Int) : List Int → Option (List Int)
  | [] => none
  | b :: t => if b = c then some t else none
/-- behind the opening '"': what stands up to the closing one, and what comes behind it -/
def qtd : List Int → Option (List Int × List Int)
  | [] => none
  | [b] => if b = 34 then some ([], []) else none
  | b :: c :: t => if b = 34 then some ([], c :: t) else if b = 92 then (qtd t).map (fun q => (c :: q.1, q.2)) else (qtd (c :: t)).map (fun q => (b :: q.1, q.2))
/-- an atom (with at least a byte) and what comes behind it -/
def atm (l : List Int) : Option (List Int × List Int) := if l.takeWhile at_ = [] then none else some (l.takeWhile at_, l.dropWhile at_)
/-- 'boundary' -/
def w_boundary : List Int := [98, 111, 117, 110, 100, 97, 114, 121]
def w_base64 : List Int := [98, 97, 115, 101, 54, 52]
def w_qp : List Int := [113, 117, 111, 116, 101, 100, 45, 112, 114, 105, 110, 116, 97, 98, 108, 101]
def w_message : List Int := [109, 101, 115, 115, 97, 103, 101]
def w_rfc822 : List Int := [114, 102, 99, 56, 50, 50]
def w_multipart : List Int := [109, 117, 108, 116, 105, 112, 97, 114, 116]
def w_ctype : List Int := [99, 111, 110, 116, 101, 110, 116, 45, 116, 121, 112, 101]
def w_cte : List Int := [99, 111, 110, 116, 101, 110, 116, 45, 116, 114, 97, 110, 115, 102, 101, 114, 45, 101, 110, 99, 111, 100, 105, 110, 103]
/-- a parameter: is its attribute boundary, its value, what comes behind it -/
def par (l : List Int) : Option (Bool × List Int × List Int) :=
  (tk_ 59 l).bind fun l1 => (atm (skp 0 l1)).bind fun q => (tk_ 61 (skp 0 q.2)).bind fun l2 =>
    (match tk_ 34 (skp 0 l2) with
      | some l3 => qtd l3
      | none => atm (skp 0 l2)).map fun (w : List Int × List Int) => (wd_ w_boundary q.1, w.1, skp 0 w.2)
/-- the value of the first parameter boundary -/
def prs : Nat → List Int → Option (List Int)
  | 0, _ => none
  | n + 1, l => match par l with
    | none => none
    | some q => if q.1 then some q.2.1 else prs n q.2.2
/-- can it be a boundary -/
def bd_ (w : List Int) : Bool := decide (1 ≤ w.length ∧ w.length ≤ 20 ∧ (∀ c ∈ w, 32 ≤ c ∧ c ≤ 126) ∧ w.getLast? ≠ some 32)
/-- kind and boundary of a multipart, out of its parameters -/
def mlt (r : List Int) : Int × List Int := match prs r.length r with
  | none => (0, [])
  | some b => if bd_ b then (1, b) else (0, [])
def kn2 : Option (List Int × List Int × List Int) → Int × List Int
  | none => (0, [])
  | some (t, s, r) => if wd_ w_message t ∧ wd_ w_rfc822 s then (2, []) else if wd_ w_multipart t then mlt r else (0, [])
/-- kind and boundary out of the value of Content-Type -/
def knd (l : List Int) : Int × List Int := kn2 ((atm (skp 0 l)).bind fun q => (tk_ 47 (skp 0 q.2)).bind fun l2 => (atm (skp 0 l2)).map fun r => (q.1, r.1, skp 0 r.2))
/-- the encoding out of the value of Content-Transfer-Encoding -/
def enc_ (l : List Int) : Int :=
  match atm (skp 0 l) with
  | none => 0
  | some q => if skp 0 q.2 = [] then (if wd_ w_base64 q.1 then 1 else if wd_ w_qp q.1 then 2 else 0) else 0
