/-! THE ABSTRACT MACHINE: a method's run over a memory of whole numbers. A value: a number, or a cell by its number (AV). The cells' kinds and the references between them stand still (lay); what changes is M: cell, place ↦ number. -/
abbrev AV : Type := Int ⊕ Nat
abbrev Mm : Type := Nat → Nat → Int
def mset (M : Mm) (a k : Nat) (v : Int) : Mm := fun b j => if b = a ∧ j = k then v else M b j
def inR (x : Int) : Prop := -2147483648 ≤ x ∧ x ≤ 2147483647
abbrev iN (x : Int) : Int32 := Int32.ofInt x
def bAnd (x y : Int) : Int := (iN x &&& iN y).toInt
def bOr (x y : Int) : Int := (iN x ||| iN y).toInt
def bXor (x y : Int) : Int := (iN x ^^^ iN y).toInt
def bShl (x y : Int) : Int := (iN x <<< (iN y &&& 31)).toInt
def bShr (x y : Int) : Int := (iN x >>> (iN y &&& 31)).toInt
def bUshr (x y : Int) : Int := (((iN x).toUInt32 >>> ((iN y).toUInt32 &&& Int32.toUInt32 31)).toInt32).toInt
abbrev AL : Type := List (Option AV)
def am_ld : AL → Nat → Option AV
  | [], _ => none
  | a :: _, 0 => a
  | _ :: l, n + 1 => am_ld l n
def am_st : AL → Nat → AV → Option AL
  | [], _, _ => none
  | _ :: l, 0, v => some (some v :: l)
  | a :: l, n + 1, v => (am_st l n v).map (fun l' => a :: l')
def am_args : Nat → List AV → List AV → Option (List AV × List AV)
  | 0, st, acc => some (acc, st)
  | _ + 1, [], _ => none
  | n + 1, v :: st, acc => am_args n st (v :: acc)
def am_tgt (pc : Nat) : Int → Nat
  | .ofNat k => pc + k
  | .negSucc k => pc - (k + 1)
def am_fld (L : LC) (ci k : Nat) (v : Int) : Option AV := match L with
  | .inr (.inl (c, fs)) => if c = ci then (match fs[k]? with
    | some none => some (.inl v)
    | some (some r) => some (.inr r)
    | none => none) else none
  | _ => none
def am_len : LC → Option Nat
  | .inl (0, n) => some n
  | .inl (1, n) => some n
  | .inr (.inr (_, rs)) => some rs.length
  | _ => none
def k1 (st : List AV) (f : Int → List AV → Prop) : Prop := match st with
  | .inl x :: r => f x r
  | _ => False
def k2 (st : List AV) (f : Int → Int → List AV → Prop) : Prop := match st with
  | .inl y :: .inl x :: r => f x y r
  | _ => False
def kr (st : List AV) (f : Nat → List AV → Prop) : Prop := match st with
  | .inr a :: r => f a r
  | _ => False
def kri (st : List AV) (f : Nat → Int → List AV → Prop) : Prop := match st with
  | .inl i :: .inr a :: r => f a i r
  | _ => False
def krii (st : List AV) (f : Nat → Int → Int → List AV → Prop) : Prop := match st with
  | .inl x :: .inl i :: .inr a :: r => f a i x r
  | _ => False
def kv (st : List AV) (f : AV → List AV → Prop) : Prop := match st with
  | v :: r => f v r
  | _ => False
def kvv (st : List AV) (f : AV → AV → List AV → Prop) : Prop := match st with
  | v :: w :: r => f v w r
  | _ => False
def kO {α : Type} (o : Option α) (f : α → Prop) : Prop := match o with
  | some x => f x
  | none => False
def kI (o : Option AV) (f : Int → Prop) : Prop := match o with
  | some (.inl x) => f x
  | _ => False
def kR (o : Option AV) (f : Nat → Prop) : Prop := match o with
  | some (.inr x) => f x
  | _ => False
/-- an array of numbers (t: 0 int, 1 boolean) -/
def kA (L : LC) (t : Nat) (f : Nat → Prop) : Prop := match L with
  | .inl (t', n) => t' = t ∧ f n
  | _ => False
/-- an array of references -/
def kQ (L : LC) (f : List Nat → Prop) : Prop := match L with
  | .inr (.inr (_, rs)) => f rs
  | _ => False
def cz : Jvm.ClassFile.Cond → Int → Prop
  | .eq, x => x = 0
  | .ne, x => ¬ x = 0
  | .lt, x => x < 0
  | .ge, x => 0 ≤ x
  | .gt, x => 0 < x
  | .le, x => x ≤ 0
def cc2 : Jvm.ClassFile.Cond → Int → Int → Prop
  | .eq, x, y => x = y
  | .ne, x, y => ¬ x = y
  | .lt, x, y => x < y
  | .ge, x, y => y ≤ x
  | .gt, x, y => y < x
  | .le, x, y => x ≤ y
def swc (x : Int) (pc : Nat) (k : Nat → Prop) : Int → List Int → Prop
  | _, [] => True
  | v, o :: os => (x = v → k (am_tgt pc o)) ∧ swc x pc k (v + 1) os
/-- a jump stays in the method -/
def am_okt (pc : Nat) (off : Int) : Prop := (pc : Int) + off = (am_tgt pc off : Int)
def kc (L : LC) (c : Nat) : Prop := match L with
  | .inr (.inl (c', _)) => c' = c
  | _ => False
def am_rcv (mj : Nat) (ar : List AV) : Prop := match ar with
  | .inr a :: _ => kc (lay a) (oM mj) ∨ (oM mj = 15 ∧ NN ≤ a ∧ a < NN + 7)
  | _ => False
def kS (op : Nat) (a b c d : Prop) : Prop := match op with
  | 3 => a
  | 4 => b
  | 5 => c
  | _ => d
