/-! THE FIRST WORLD (printed by wip/whole/g75.py): the constructors' cells are the layout's, with the memory M00. -/
def adrF (ks : Nat → Nat) (b a : Nat) : Nat := if a < 76 then b + a else if a < 191 then b + 2 + a else if a = 198 then b + 76 else ks (a - 191)
def M00 : Mm := fun a j => if a = 1 ∧ j = 3 ∨ a = 33 ∧ (j = 7 ∨ j = 8) ∨ a = 154 ∧ j = 17 ∨ a = 156 ∧ 1 ≤ j ∧ j < 4 ∨ (a = 8 ∨ a = 81 ∨ a = 120) ∧ j < 8 then -1 else if (a = 3 ∨ a = 76 ∨ a = 115) ∧ j = 4 then 70 else if (a = 3 ∨ a = 76 ∨ a = 115) ∧ j = 5 then 6 else if (a = 3 ∨ a = 76 ∨ a = 115) ∧ j = 6 then 5 else if (a = 34 ∨ a = 41) ∧ j = 0 then 24 else if a = 48 ∧ j = 0 then 924 else 0
theorem yr8 : (upd (upd (upd (upd (upd (upd (upd (upd (fun _ => 0) 0 (iN (-1))) 1 (iN (-1))) 2 (iN (-1))) 3 (iN (-1))) 4 (iN (-1))) 5 (iN (-1))) 6 (iN (-1))) 7 (iN (-1)) : Nat → Int32) = fun j => iN (if j < 8 then -1 else 0) := by
  funext j
  by_cases h : j < 8
  · rw [if_pos h]
    rcases (show j = 0 ∨ j = 1 ∨ j = 2 ∨ j = 3 ∨ j = 4 ∨ j = 5 ∨ j = 6 ∨ j = 7 by omega) with rfl | rfl | rfl | rfl | rfl | rfl | rfl | rfl <;> rfl
  · rw [if_neg h]
    simp only [upd]
    rw [if_neg (by omega), if_neg (by omega), if_neg (by omega), if_neg (by omega), if_neg (by omega), if_neg (by omega), if_neg (by omega), if_neg (by omega)]
    rfl
theorem td4 : (upd (upd (upd (upd (fun _ => 0) 0 (iN ((0 : Nat) : Int))) 1 (iN (-1))) 2 (iN (-1))) 3 (iN (-1)) : Nat → Int32) = fun j => iN (if 1 ≤ j ∧ j < 4 then -1 else 0) := by
  funext j
  by_cases h : j < 4
  · rcases (show j = 0 ∨ j = 1 ∨ j = 2 ∨ j = 3 by omega) with rfl | rfl | rfl | rfl <;> rfl
  · rw [if_neg (by omega)]
    simp only [upd]
    rw [if_neg (by omega), if_neg (by omega), if_neg (by omega), if_neg (by omega)]
    rfl
theorem tm8 (q : Nat) : (va_up (va_up (va_up (va_up (va_up (va_up (va_up (va_up (fun _ => none) 0 (some (q + 6))) 1 (some (q + 9))) 2 (some (q + 12))) 3 (some (q + 15))) 4 (some (q + 18))) 5 (some (q + 21))) 6 (some (q + 24))) 7 (some (q + 27)) : Nat → Option Nat) = fun j => ([q + 6, q + 9, q + 12, q + 15, q + 18, q + 21, q + 24, q + 27] : List Nat)[j]? := by
  funext j
  by_cases h : j < 8
  · rcases (show j = 0 ∨ j = 1 ∨ j = 2 ∨ j = 3 ∨ j = 4 ∨ j = 5 ∨ j = 6 ∨ j = 7 by omega) with rfl | rfl | rfl | rfl | rfl | rfl | rfl | rfl <;> rfl
  · rw [List.getElem?_eq_none (by simp; omega)]
    simp only [va_up]
    rw [if_neg (by omega), if_neg (by omega), if_neg (by omega), if_neg (by omega), if_neg (by omega), if_neg (by omega), if_neg (by omega), if_neg (by omega)]
theorem wd6 (ks : Nat → Nat) : (va_up (va_up (va_up (va_up (va_up (va_up (fun _ => none) 0 (some (ks 0))) 1 (some (ks 1))) 2 (some (ks 2))) 3 (some (ks 3))) 4 (some (ks 4))) 5 (some (ks 5)) : Nat → Option Nat) = fun j => ([ks 0, ks 1, ks 2, ks 3, ks 4, ks 5] : List Nat)[j]? := by
  funext j
  by_cases h : j < 6
  · rcases (show j = 0 ∨ j = 1 ∨ j = 2 ∨ j = 3 ∨ j = 4 ∨ j = 5 by omega) with rfl | rfl | rfl | rfl | rfl | rfl <;> rfl
  · rw [List.getElem?_eq_none (by simp; omega)]
    simp only [va_up]
    rw [if_neg (by omega), if_neg (by omega), if_neg (by omega), if_neg (by omega), if_neg (by omega), if_neg (by omega)]
section W0
variable {ks : Nat → Nat} {tA : Nat → ClassId} {b : Nat}
theorem ln_Lf7 {q : Nat} : (Lf7 tA q).length = 1 := rfl
theorem ln_Lf1 {q : Nat} : (Lf1 tA q).length = 2 := rfl
theorem ln_Lf6_24 {q : Nat} : (Lf6_24 tA q).length = 7 := rfl
theorem ln_Lf6_924 {q : Nat} : (Lf6_924 tA q).length = 7 := rfl
set_option maxRecDepth 100000 in
theorem w0_0 : (Lf11 tA b)[0]? = some (cel tA (adrF ks b) M00 0) := by
  simp only [Lf11, List.getElem?_append, List.length_append, List.length_cons, List.length_nil, len_5, len_0, len_10, len_2, len_9, len_13, len_8, len_3, len_4, ln_Lf7, ln_Lf1, ln_Lf6_24, ln_Lf6_924, Nat.reduceAdd, Nat.reduceLT, Nat.reduceSub, ↓reduceIte, Nat.reduceLeDiff]
  rfl
theorem g11_1 {q : Nat} : (Lf11 tA q)[1]? = (Lf5 tA (q + 1))[0]? := by
  simp only [Lf11, List.getElem?_append, List.length_append, List.length_cons, List.length_nil, len_5, len_0, len_10, len_2, len_9, len_13, len_8, len_3, len_4, ln_Lf7, ln_Lf1, ln_Lf6_24, ln_Lf6_924, Nat.reduceAdd, Nat.reduceLT, Nat.reduceSub, ↓reduceIte, Nat.reduceLeDiff]
set_option maxRecDepth 100000 in
theorem w0_1 : (Lf11 tA b)[1]? = some (cel tA (adrF ks b) M00 1) := by
  rw [g11_1]
  simp only [Lf5, List.getElem?_append, List.length_append, List.length_cons, List.length_nil, len_5, len_0, len_10, len_2, len_9, len_13, len_8, len_3, len_4, ln_Lf7, ln_Lf1, ln_Lf6_24, ln_Lf6_924, Nat.reduceAdd, Nat.reduceLT, Nat.reduceSub, ↓reduceIte, Nat.reduceLeDiff]
  rfl
theorem g11_2 {q : Nat} : (Lf11 tA q)[2]? = (Lf5 tA (q + 1))[1]? := by
  simp only [Lf11, List.getElem?_append, List.length_append, List.length_cons, List.length_nil, len_5, len_0, len_10, len_2, len_9, len_13, len_8, len_3, len_4, ln_Lf7, ln_Lf1, ln_Lf6_24, ln_Lf6_924, Nat.reduceAdd, Nat.reduceLT, Nat.reduceSub, ↓reduceIte, Nat.reduceLeDiff]
set_option maxRecDepth 100000 in
theorem w0_2 : (Lf11 tA b)[2]? = some (cel tA (adrF ks b) M00 2) := by
  rw [g11_2]
  simp only [Lf5, List.getElem?_append, List.length_append, List.length_cons, List.length_nil, len_5, len_0, len_10, len_2, len_9, len_13, len_8, len_3, len_4, ln_Lf7, ln_Lf1, ln_Lf6_24, ln_Lf6_924, Nat.reduceAdd, Nat.reduceLT, Nat.reduceSub, ↓reduceIte, Nat.reduceLeDiff]
  rfl
theorem g11_3 {q : Nat} : (Lf11 tA q)[3]? = (Lf5 tA (q + 1))[2]? := by
  simp only [Lf11, List.getElem?_append, List.length_append, List.length_cons, List.length_nil, len_5, len_0, len_10, len_2, len_9, len_13, len_8, len_3, len_4, ln_Lf7, ln_Lf1, ln_Lf6_24, ln_Lf6_924, Nat.reduceAdd, Nat.reduceLT, Nat.reduceSub, ↓reduceIte, Nat.reduceLeDiff]
theorem g5_2 {q : Nat} : (Lf5 tA q)[2]? = (Lf8 tA (q + 2))[0]? := by
  simp only [Lf5, List.getElem?_append, List.length_append, List.length_cons, List.length_nil, len_5, len_0, len_10, len_2, len_9, len_13, len_8, len_3, len_4, ln_Lf7, ln_Lf1, ln_Lf6_24, ln_Lf6_924, Nat.reduceAdd, Nat.reduceLT, Nat.reduceSub, ↓reduceIte, Nat.reduceLeDiff]
set_option maxRecDepth 100000 in
theorem w0_3 : (Lf11 tA b)[3]? = some (cel tA (adrF ks b) M00 3) := by
  rw [g11_3, g5_2]
  simp only [Lf8, List.getElem?_append, List.length_append, List.length_cons, List.length_nil, len_5, len_0, len_10, len_2, len_9, len_13, len_8, len_3, len_4, ln_Lf7, ln_Lf1, ln_Lf6_24, ln_Lf6_924, Nat.reduceAdd, Nat.reduceLT, Nat.reduceSub, ↓reduceIte, Nat.reduceLeDiff]
  rfl
theorem g11_4 {q : Nat} : (Lf11 tA q)[4]? = (Lf5 tA (q + 1))[3]? := by
  simp only [Lf11, List.getElem?_append, List.length_append, List.length_cons, List.length_nil, len_5, len_0, len_10, len_2, len_9, len_13, len_8, len_3, len_4, ln_Lf7, ln_Lf1, ln_Lf6_24, ln_Lf6_924, Nat.reduceAdd, Nat.reduceLT, Nat.reduceSub, ↓reduceIte, Nat.reduceLeDiff]
theorem g5_3 {q : Nat} : (Lf5 tA q)[3]? = (Lf8 tA (q + 2))[1]? := by
  simp only [Lf5, List.getElem?_append, List.length_append, List.length_cons, List.length_nil, len_5, len_0, len_10, len_2, len_9, len_13, len_8, len_3, len_4, ln_Lf7, ln_Lf1, ln_Lf6_24, ln_Lf6_924, Nat.reduceAdd, Nat.reduceLT, Nat.reduceSub, ↓reduceIte, Nat.reduceLeDiff]
set_option maxRecDepth 100000 in
theorem w0_4 : (Lf11 tA b)[4]? = some (cel tA (adrF ks b) M00 4) := by
  rw [g11_4, g5_3]
  simp only [Lf8, List.getElem?_append, List.length_append, List.length_cons, List.length_nil, len_5, len_0, len_10, len_2, len_9, len_13, len_8, len_3, len_4, ln_Lf7, ln_Lf1, ln_Lf6_24, ln_Lf6_924, Nat.reduceAdd, Nat.reduceLT, Nat.reduceSub, ↓reduceIte, Nat.reduceLeDiff]
  have hR : ([b + 1 + 2 + 6, b + 1 + 2 + 9, b + 1 + 2 + 12, b + 1 + 2 + 15, b + 1 + 2 + 18, b + 1 + 2 + 21, b + 1 + 2 + 24, b + 1 + 2 + 27] : List Nat) = [9, 12, 15, 18, 21, 24, 27, 30].map (adrF ks b) := by
    simp [adrF]
  show _ = some (Sum.inl (tA 2, (8, Sum.inr (Sum.inr (Sum.inr (Sum.inr (fun j => (([9, 12, 15, 18, 21, 24, 27, 30] : List Nat)[j]?).map (adrF ks b))))))))
  have hF : (fun j : Nat => (([9, 12, 15, 18, 21, 24, 27, 30] : List Nat)[j]?).map (adrF ks b)) = fun j => ([b + 1 + 2 + 6, b + 1 + 2 + 9, b + 1 + 2 + 12, b + 1 + 2 + 15, b + 1 + 2 + 18, b + 1 + 2 + 21, b + 1 + 2 + 24, b + 1 + 2 + 27] : List Nat)[j]? := by
    funext j
    rw [hR, List.getElem?_map]
  rw [hF, ← tm8 (b + 1 + 2)]
  rfl
theorem g11_5 {q : Nat} : (Lf11 tA q)[5]? = (Lf5 tA (q + 1))[4]? := by
  simp only [Lf11, List.getElem?_append, List.length_append, List.length_cons, List.length_nil, len_5, len_0, len_10, len_2, len_9, len_13, len_8, len_3, len_4, ln_Lf7, ln_Lf1, ln_Lf6_24, ln_Lf6_924, Nat.reduceAdd, Nat.reduceLT, Nat.reduceSub, ↓reduceIte, Nat.reduceLeDiff]
theorem g5_4 {q : Nat} : (Lf5 tA q)[4]? = (Lf8 tA (q + 2))[2]? := by
  simp only [Lf5, List.getElem?_append, List.length_append, List.length_cons, List.length_nil, len_5, len_0, len_10, len_2, len_9, len_13, len_8, len_3, len_4, ln_Lf7, ln_Lf1, ln_Lf6_24, ln_Lf6_924, Nat.reduceAdd, Nat.reduceLT, Nat.reduceSub, ↓reduceIte, Nat.reduceLeDiff]
theorem g8_2 {q : Nat} : (Lf8 tA q)[2]? = (Lf9 tA (q + 2))[0]? := by
  simp only [Lf8, List.getElem?_append, List.length_append, List.length_cons, List.length_nil, len_5, len_0, len_10, len_2, len_9, len_13, len_8, len_3, len_4, ln_Lf7, ln_Lf1, ln_Lf6_24, ln_Lf6_924, Nat.reduceAdd, Nat.reduceLT, Nat.reduceSub, ↓reduceIte, Nat.reduceLeDiff]
set_option maxRecDepth 100000 in
theorem w0_5 : (Lf11 tA b)[5]? = some (cel tA (adrF ks b) M00 5) := by
  rw [g11_5, g5_4, g8_2]
  rfl
theorem g11_6 {q : Nat} : (Lf11 tA q)[6]? = (Lf5 tA (q + 1))[5]? := by
  simp only [Lf11, List.getElem?_append, List.length_append, List.length_cons, List.length_nil, len_5, len_0, len_10, len_2, len_9, len_13, len_8, len_3, len_4, ln_Lf7, ln_Lf1, ln_Lf6_24, ln_Lf6_924, Nat.reduceAdd, Nat.reduceLT, Nat.reduceSub, ↓reduceIte, Nat.reduceLeDiff]
theorem g5_5 {q : Nat} : (Lf5 tA q)[5]? = (Lf8 tA (q + 2))[3]? := by
  simp only [Lf5, List.getElem?_append, List.length_append, List.length_cons, List.length_nil, len_5, len_0, len_10, len_2, len_9, len_13, len_8, len_3, len_4, ln_Lf7, ln_Lf1, ln_Lf6_24, ln_Lf6_924, Nat.reduceAdd, Nat.reduceLT, Nat.reduceSub, ↓reduceIte, Nat.reduceLeDiff]
theorem g8_3 {q : Nat} : (Lf8 tA q)[3]? = (Lf9 tA (q + 2))[1]? := by
  simp only [Lf8, List.getElem?_append, List.length_append, List.length_cons, List.length_nil, len_5, len_0, len_10, len_2, len_9, len_13, len_8, len_3, len_4, ln_Lf7, ln_Lf1, ln_Lf6_24, ln_Lf6_924, Nat.reduceAdd, Nat.reduceLT, Nat.reduceSub, ↓reduceIte, Nat.reduceLeDiff]
set_option maxRecDepth 100000 in
theorem w0_6 : (Lf11 tA b)[6]? = some (cel tA (adrF ks b) M00 6) := by
  rw [g11_6, g5_5, g8_3]
  rfl
theorem g11_7 {q : Nat} : (Lf11 tA q)[7]? = (Lf5 tA (q + 1))[6]? := by
  simp only [Lf11, List.getElem?_append, List.length_append, List.length_cons, List.length_nil, len_5, len_0, len_10, len_2, len_9, len_13, len_8, len_3, len_4, ln_Lf7, ln_Lf1, ln_Lf6_24, ln_Lf6_924, Nat.reduceAdd, Nat.reduceLT, Nat.reduceSub, ↓reduceIte, Nat.reduceLeDiff]
theorem g5_6 {q : Nat} : (Lf5 tA q)[6]? = (Lf8 tA (q + 2))[4]? := by
  simp only [Lf5, List.getElem?_append, List.length_append, List.length_cons, List.length_nil, len_5, len_0, len_10, len_2, len_9, len_13, len_8, len_3, len_4, ln_Lf7, ln_Lf1, ln_Lf6_24, ln_Lf6_924, Nat.reduceAdd, Nat.reduceLT, Nat.reduceSub, ↓reduceIte, Nat.reduceLeDiff]
theorem g8_4 {q : Nat} : (Lf8 tA q)[4]? = (Lf9 tA (q + 2))[2]? := by
  simp only [Lf8, List.getElem?_append, List.length_append, List.length_cons, List.length_nil, len_5, len_0, len_10, len_2, len_9, len_13, len_8, len_3, len_4, ln_Lf7, ln_Lf1, ln_Lf6_24, ln_Lf6_924, Nat.reduceAdd, Nat.reduceLT, Nat.reduceSub, ↓reduceIte, Nat.reduceLeDiff]
set_option maxRecDepth 100000 in
theorem w0_7 : (Lf11 tA b)[7]? = some (cel tA (adrF ks b) M00 7) := by
  rw [g11_7, g5_6, g8_4]
  rfl
theorem g11_8 {q : Nat} : (Lf11 tA q)[8]? = (Lf5 tA (q + 1))[7]? := by
  simp only [Lf11, List.getElem?_append, List.length_append, List.length_cons, List.length_nil, len_5, len_0, len_10, len_2, len_9, len_13, len_8, len_3, len_4, ln_Lf7, ln_Lf1, ln_Lf6_24, ln_Lf6_924, Nat.reduceAdd, Nat.reduceLT, Nat.reduceSub, ↓reduceIte, Nat.reduceLeDiff]
theorem g5_7 {q : Nat} : (Lf5 tA q)[7]? = (Lf8 tA (q + 2))[5]? := by
  simp only [Lf5, List.getElem?_append, List.length_append, List.length_cons, List.length_nil, len_5, len_0, len_10, len_2, len_9, len_13, len_8, len_3, len_4, ln_Lf7, ln_Lf1, ln_Lf6_24, ln_Lf6_924, Nat.reduceAdd, Nat.reduceLT, Nat.reduceSub, ↓reduceIte, Nat.reduceLeDiff]
set_option maxRecDepth 100000 in
theorem w0_8 : (Lf11 tA b)[8]? = some (cel tA (adrF ks b) M00 8) := by
  rw [g11_8, g5_7]
  simp only [Lf8, List.getElem?_append, List.length_append, List.length_cons, List.length_nil, len_5, len_0, len_10, len_2, len_9, len_13, len_8, len_3, len_4, ln_Lf7, ln_Lf1, ln_Lf6_24, ln_Lf6_924, Nat.reduceAdd, Nat.reduceLT, Nat.reduceSub, ↓reduceIte, Nat.reduceLeDiff]
  have hM : ∀ j, M00 8 j = if j < 8 then -1 else 0 := fun j => by simp [M00]
  show _ = some (Sum.inl (tA 0, (8, Sum.inl (fun j => iN (M00 8 j)))))
  simp only [hM, ← yr8]
  rfl
theorem g11_9 {q : Nat} : (Lf11 tA q)[9]? = (Lf5 tA (q + 1))[8]? := by
  simp only [Lf11, List.getElem?_append, List.length_append, List.length_cons, List.length_nil, len_5, len_0, len_10, len_2, len_9, len_13, len_8, len_3, len_4, ln_Lf7, ln_Lf1, ln_Lf6_24, ln_Lf6_924, Nat.reduceAdd, Nat.reduceLT, Nat.reduceSub, ↓reduceIte, Nat.reduceLeDiff]
theorem g5_8 {q : Nat} : (Lf5 tA q)[8]? = (Lf8 tA (q + 2))[6]? := by
  simp only [Lf5, List.getElem?_append, List.length_append, List.length_cons, List.length_nil, len_5, len_0, len_10, len_2, len_9, len_13, len_8, len_3, len_4, ln_Lf7, ln_Lf1, ln_Lf6_24, ln_Lf6_924, Nat.reduceAdd, Nat.reduceLT, Nat.reduceSub, ↓reduceIte, Nat.reduceLeDiff]
theorem g8_6 {q : Nat} : (Lf8 tA q)[6]? = (Lf9 tA (q + 6))[0]? := by
  simp only [Lf8, List.getElem?_append, List.length_append, List.length_cons, List.length_nil, len_5, len_0, len_10, len_2, len_9, len_13, len_8, len_3, len_4, ln_Lf7, ln_Lf1, ln_Lf6_24, ln_Lf6_924, Nat.reduceAdd, Nat.reduceLT, Nat.reduceSub, ↓reduceIte, Nat.reduceLeDiff]
set_option maxRecDepth 100000 in
theorem w0_9 : (Lf11 tA b)[9]? = some (cel tA (adrF ks b) M00 9) := by
  rw [g11_9, g5_8, g8_6]
  rfl
theorem g11_10 {q : Nat} : (Lf11 tA q)[10]? = (Lf5 tA (q + 1))[9]? := by
  simp only [Lf11, List.getElem?_append, List.length_append, List.length_cons, List.length_nil, len_5, len_0, len_10, len_2, len_9, len_13, len_8, len_3, len_4, ln_Lf7, ln_Lf1, ln_Lf6_24, ln_Lf6_924, Nat.reduceAdd, Nat.reduceLT, Nat.reduceSub, ↓reduceIte, Nat.reduceLeDiff]
theorem g5_9 {q : Nat} : (Lf5 tA q)[9]? = (Lf8 tA (q + 2))[7]? := by
  simp only [Lf5, List.getElem?_append, List.length_append, List.length_cons, List.length_nil, len_5, len_0, len_10, len_2, len_9, len_13, len_8, len_3, len_4, ln_Lf7, ln_Lf1, ln_Lf6_24, ln_Lf6_924, Nat.reduceAdd, Nat.reduceLT, Nat.reduceSub, ↓reduceIte, Nat.reduceLeDiff]
theorem g8_7 {q : Nat} : (Lf8 tA q)[7]? = (Lf9 tA (q + 6))[1]? := by
  simp only [Lf8, List.getElem?_append, List.length_append, List.length_cons, List.length_nil, len_5, len_0, len_10, len_2, len_9, len_13, len_8, len_3, len_4, ln_Lf7, ln_Lf1, ln_Lf6_24, ln_Lf6_924, Nat.reduceAdd, Nat.reduceLT, Nat.reduceSub, ↓reduceIte, Nat.reduceLeDiff]
set_option maxRecDepth 100000 in
theorem w0_10 : (Lf11 tA b)[10]? = some (cel tA (adrF ks b) M00 10) := by
  rw [g11_10, g5_9, g8_7]
  rfl
theorem g11_11 {q : Nat} : (Lf11 tA q)[11]? = (Lf5 tA (q + 1))[10]? := by
  simp only [Lf11, List.getElem?_append, List.length_append, List.length_cons, List.length_nil, len_5, len_0, len_10, len_2, len_9, len_13, len_8, len_3, len_4, ln_Lf7, ln_Lf1, ln_Lf6_24, ln_Lf6_924, Nat.reduceAdd, Nat.reduceLT, Nat.reduceSub, ↓reduceIte, Nat.reduceLeDiff]
theorem g5_10 {q : Nat} : (Lf5 tA q)[10]? = (Lf8 tA (q + 2))[8]? := by
  simp only [Lf5, List.getElem?_append, List.length_append, List.length_cons, List.length_nil, len_5, len_0, len_10, len_2, len_9, len_13, len_8, len_3, len_4, ln_Lf7, ln_Lf1, ln_Lf6_24, ln_Lf6_924, Nat.reduceAdd, Nat.reduceLT, Nat.reduceSub, ↓reduceIte, Nat.reduceLeDiff]
theorem g8_8 {q : Nat} : (Lf8 tA q)[8]? = (Lf9 tA (q + 6))[2]? := by
  simp only [Lf8, List.getElem?_append, List.length_append, List.length_cons, List.length_nil, len_5, len_0, len_10, len_2, len_9, len_13, len_8, len_3, len_4, ln_Lf7, ln_Lf1, ln_Lf6_24, ln_Lf6_924, Nat.reduceAdd, Nat.reduceLT, Nat.reduceSub, ↓reduceIte, Nat.reduceLeDiff]
set_option maxRecDepth 100000 in
theorem w0_11 : (Lf11 tA b)[11]? = some (cel tA (adrF ks b) M00 11) := by
  rw [g11_11, g5_10, g8_8]
  rfl
theorem g11_12 {q : Nat} : (Lf11 tA q)[12]? = (Lf5 tA (q + 1))[11]? := by
  simp only [Lf11, List.getElem?_append, List.length_append, List.length_cons, List.length_nil, len_5, len_0, len_10, len_2, len_9, len_13, len_8, len_3, len_4, ln_Lf7, ln_Lf1, ln_Lf6_24, ln_Lf6_924, Nat.reduceAdd, Nat.reduceLT, Nat.reduceSub, ↓reduceIte, Nat.reduceLeDiff]
theorem g5_11 {q : Nat} : (Lf5 tA q)[11]? = (Lf8 tA (q + 2))[9]? := by
  simp only [Lf5, List.getElem?_append, List.length_append, List.length_cons, List.length_nil, len_5, len_0, len_10, len_2, len_9, len_13, len_8, len_3, len_4, ln_Lf7, ln_Lf1, ln_Lf6_24, ln_Lf6_924, Nat.reduceAdd, Nat.reduceLT, Nat.reduceSub, ↓reduceIte, Nat.reduceLeDiff]
theorem g8_9 {q : Nat} : (Lf8 tA q)[9]? = (Lf9 tA (q + 9))[0]? := by
  simp only [Lf8, List.getElem?_append, List.length_append, List.length_cons, List.length_nil, len_5, len_0, len_10, len_2, len_9, len_13, len_8, len_3, len_4, ln_Lf7, ln_Lf1, ln_Lf6_24, ln_Lf6_924, Nat.reduceAdd, Nat.reduceLT, Nat.reduceSub, ↓reduceIte, Nat.reduceLeDiff]
set_option maxRecDepth 100000 in
theorem w0_12 : (Lf11 tA b)[12]? = some (cel tA (adrF ks b) M00 12) := by
  rw [g11_12, g5_11, g8_9]
  rfl
theorem g11_13 {q : Nat} : (Lf11 tA q)[13]? = (Lf5 tA (q + 1))[12]? := by
  simp only [Lf11, List.getElem?_append, List.length_append, List.length_cons, List.length_nil, len_5, len_0, len_10, len_2, len_9, len_13, len_8, len_3, len_4, ln_Lf7, ln_Lf1, ln_Lf6_24, ln_Lf6_924, Nat.reduceAdd, Nat.reduceLT, Nat.reduceSub, ↓reduceIte, Nat.reduceLeDiff]
theorem g5_12 {q : Nat} : (Lf5 tA q)[12]? = (Lf8 tA (q + 2))[10]? := by
  simp only [Lf5, List.getElem?_append, List.length_append, List.length_cons, List.length_nil, len_5, len_0, len_10, len_2, len_9, len_13, len_8, len_3, len_4, ln_Lf7, ln_Lf1, ln_Lf6_24, ln_Lf6_924, Nat.reduceAdd, Nat.reduceLT, Nat.reduceSub, ↓reduceIte, Nat.reduceLeDiff]
theorem g8_10 {q : Nat} : (Lf8 tA q)[10]? = (Lf9 tA (q + 9))[1]? := by
  simp only [Lf8, List.getElem?_append, List.length_append, List.length_cons, List.length_nil, len_5, len_0, len_10, len_2, len_9, len_13, len_8, len_3, len_4, ln_Lf7, ln_Lf1, ln_Lf6_24, ln_Lf6_924, Nat.reduceAdd, Nat.reduceLT, Nat.reduceSub, ↓reduceIte, Nat.reduceLeDiff]
set_option maxRecDepth 100000 in
theorem w0_13 : (Lf11 tA b)[13]? = some (cel tA (adrF ks b) M00 13) := by
  rw [g11_13, g5_12, g8_10]
  rfl
theorem g11_14 {q : Nat} : (Lf11 tA q)[14]? = (Lf5 tA (q + 1))[13]? := by
  simp only [Lf11, List.getElem?_append, List.length_append, List.length_cons, List.length_nil, len_5, len_0, len_10, len_2, len_9, len_13, len_8, len_3, len_4, ln_Lf7, ln_Lf1, ln_Lf6_24, ln_Lf6_924, Nat.reduceAdd, Nat.reduceLT, Nat.reduceSub, ↓reduceIte, Nat.reduceLeDiff]
theorem g5_13 {q : Nat} : (Lf5 tA q)[13]? = (Lf8 tA (q + 2))[11]? := by
  simp only [Lf5, List.getElem?_append, List.length_append, List.length_cons, List.length_nil, len_5, len_0, len_10, len_2, len_9, len_13, len_8, len_3, len_4, ln_Lf7, ln_Lf1, ln_Lf6_24, ln_Lf6_924, Nat.reduceAdd, Nat.reduceLT, Nat.reduceSub, ↓reduceIte, Nat.reduceLeDiff]
theorem g8_11 {q : Nat} : (Lf8 tA q)[11]? = (Lf9 tA (q + 9))[2]? := by
  simp only [Lf8, List.getElem?_append, List.length_append, List.length_cons, List.length_nil, len_5, len_0, len_10, len_2, len_9, len_13, len_8, len_3, len_4, ln_Lf7, ln_Lf1, ln_Lf6_24, ln_Lf6_924, Nat.reduceAdd, Nat.reduceLT, Nat.reduceSub, ↓reduceIte, Nat.reduceLeDiff]
set_option maxRecDepth 100000 in
theorem w0_14 : (Lf11 tA b)[14]? = some (cel tA (adrF ks b) M00 14) := by
  rw [g11_14, g5_13, g8_11]
  rfl
theorem g11_15 {q : Nat} : (Lf11 tA q)[15]? = (Lf5 tA (q + 1))[14]? := by
  simp only [Lf11, List.getElem?_append, List.length_append, List.length_cons, List.length_nil, len_5, len_0, len_10, len_2, len_9, len_13, len_8, len_3, len_4, ln_Lf7, ln_Lf1, ln_Lf6_24, ln_Lf6_924, Nat.reduceAdd, Nat.reduceLT, Nat.reduceSub, ↓reduceIte, Nat.reduceLeDiff]
theorem g5_14 {q : Nat} : (Lf5 tA q)[14]? = (Lf8 tA (q + 2))[12]? := by
  simp only [Lf5, List.getElem?_append, List.length_append, List.length_cons, List.length_nil, len_5, len_0, len_10, len_2, len_9, len_13, len_8, len_3, len_4, ln_Lf7, ln_Lf1, ln_Lf6_24, ln_Lf6_924, Nat.reduceAdd, Nat.reduceLT, Nat.reduceSub, ↓reduceIte, Nat.reduceLeDiff]
theorem g8_12 {q : Nat} : (Lf8 tA q)[12]? = (Lf9 tA (q + 12))[0]? := by
  simp only [Lf8, List.getElem?_append, List.length_append, List.length_cons, List.length_nil, len_5, len_0, len_10, len_2, len_9, len_13, len_8, len_3, len_4, ln_Lf7, ln_Lf1, ln_Lf6_24, ln_Lf6_924, Nat.reduceAdd, Nat.reduceLT, Nat.reduceSub, ↓reduceIte, Nat.reduceLeDiff]
set_option maxRecDepth 100000 in
theorem w0_15 : (Lf11 tA b)[15]? = some (cel tA (adrF ks b) M00 15) := by
  rw [g11_15, g5_14, g8_12]
  rfl
theorem g11_16 {q : Nat} : (Lf11 tA q)[16]? = (Lf5 tA (q + 1))[15]? := by
  simp only [Lf11, List.getElem?_append, List.length_append, List.length_cons, List.length_nil, len_5, len_0, len_10, len_2, len_9, len_13, len_8, len_3, len_4, ln_Lf7, ln_Lf1, ln_Lf6_24, ln_Lf6_924, Nat.reduceAdd, Nat.reduceLT, Nat.reduceSub, ↓reduceIte, Nat.reduceLeDiff]
theorem g5_15 {q : Nat} : (Lf5 tA q)[15]? = (Lf8 tA (q + 2))[13]? := by
  simp only [Lf5, List.getElem?_append, List.length_append, List.length_cons, List.length_nil, len_5, len_0, len_10, len_2, len_9, len_13, len_8, len_3, len_4, ln_Lf7, ln_Lf1, ln_Lf6_24, ln_Lf6_924, Nat.reduceAdd, Nat.reduceLT, Nat.reduceSub, ↓reduceIte, Nat.reduceLeDiff]
theorem g8_13 {q : Nat} : (Lf8 tA q)[13]? = (Lf9 tA (q + 12))[1]? := by
  simp only [Lf8, List.getElem?_append, List.length_append, List.length_cons, List.length_nil, len_5, len_0, len_10, len_2, len_9, len_13, len_8, len_3, len_4, ln_Lf7, ln_Lf1, ln_Lf6_24, ln_Lf6_924, Nat.reduceAdd, Nat.reduceLT, Nat.reduceSub, ↓reduceIte, Nat.reduceLeDiff]
set_option maxRecDepth 100000 in
theorem w0_16 : (Lf11 tA b)[16]? = some (cel tA (adrF ks b) M00 16) := by
  rw [g11_16, g5_15, g8_13]
  rfl
theorem g11_17 {q : Nat} : (Lf11 tA q)[17]? = (Lf5 tA (q + 1))[16]? := by
  simp only [Lf11, List.getElem?_append, List.length_append, List.length_cons, List.length_nil, len_5, len_0, len_10, len_2, len_9, len_13, len_8, len_3, len_4, ln_Lf7, ln_Lf1, ln_Lf6_24, ln_Lf6_924, Nat.reduceAdd, Nat.reduceLT, Nat.reduceSub, ↓reduceIte, Nat.reduceLeDiff]
theorem g5_16 {q : Nat} : (Lf5 tA q)[16]? = (Lf8 tA (q + 2))[14]? := by
  simp only [Lf5, List.getElem?_append, List.length_append, List.length_cons, List.length_nil, len_5, len_0, len_10, len_2, len_9, len_13, len_8, len_3, len_4, ln_Lf7, ln_Lf1, ln_Lf6_24, ln_Lf6_924, Nat.reduceAdd, Nat.reduceLT, Nat.reduceSub, ↓reduceIte, Nat.reduceLeDiff]
theorem g8_14 {q : Nat} : (Lf8 tA q)[14]? = (Lf9 tA (q + 12))[2]? := by
  simp only [Lf8, List.getElem?_append, List.length_append, List.length_cons, List.length_nil, len_5, len_0, len_10, len_2, len_9, len_13, len_8, len_3, len_4, ln_Lf7, ln_Lf1, ln_Lf6_24, ln_Lf6_924, Nat.reduceAdd, Nat.reduceLT, Nat.reduceSub, ↓reduceIte, Nat.reduceLeDiff]
set_option maxRecDepth 100000 in
theorem w0_17 : (Lf11 tA b)[17]? = some (cel tA (adrF ks b) M00 17) := by
  rw [g11_17, g5_16, g8_14]
  rfl
theorem g11_18 {q : Nat} : (Lf11 tA q)[18]? = (Lf5 tA (q + 1))[17]? := by
  simp only [Lf11, List.getElem?_append, List.length_append, List.length_cons, List.length_nil, len_5, len_0, len_10, len_2, len_9, len_13, len_8, len_3, len_4, ln_Lf7, ln_Lf1, ln_Lf6_24, ln_Lf6_924, Nat.reduceAdd, Nat.reduceLT, Nat.reduceSub, ↓reduceIte, Nat.reduceLeDiff]
theorem g5_17 {q : Nat} : (Lf5 tA q)[17]? = (Lf8 tA (q + 2))[15]? := by
  simp only [Lf5, List.getElem?_append, List.length_append, List.length_cons, List.length_nil, len_5, len_0, len_10, len_2, len_9, len_13, len_8, len_3, len_4, ln_Lf7, ln_Lf1, ln_Lf6_24, ln_Lf6_924, Nat.reduceAdd, Nat.reduceLT, Nat.reduceSub, ↓reduceIte, Nat.reduceLeDiff]
theorem g8_15 {q : Nat} : (Lf8 tA q)[15]? = (Lf9 tA (q + 15))[0]? := by
  simp only [Lf8, List.getElem?_append, List.length_append, List.length_cons, List.length_nil, len_5, len_0, len_10, len_2, len_9, len_13, len_8, len_3, len_4, ln_Lf7, ln_Lf1, ln_Lf6_24, ln_Lf6_924, Nat.reduceAdd, Nat.reduceLT, Nat.reduceSub, ↓reduceIte, Nat.reduceLeDiff]
set_option maxRecDepth 100000 in
theorem w0_18 : (Lf11 tA b)[18]? = some (cel tA (adrF ks b) M00 18) := by
  rw [g11_18, g5_17, g8_15]
  rfl
theorem g11_19 {q : Nat} : (Lf11 tA q)[19]? = (Lf5 tA (q + 1))[18]? := by
  simp only [Lf11, List.getElem?_append, List.length_append, List.length_cons, List.length_nil, len_5, len_0, len_10, len_2, len_9, len_13, len_8, len_3, len_4, ln_Lf7, ln_Lf1, ln_Lf6_24, ln_Lf6_924, Nat.reduceAdd, Nat.reduceLT, Nat.reduceSub, ↓reduceIte, Nat.reduceLeDiff]
theorem g5_18 {q : Nat} : (Lf5 tA q)[18]? = (Lf8 tA (q + 2))[16]? := by
  simp only [Lf5, List.getElem?_append, List.length_append, List.length_cons, List.length_nil, len_5, len_0, len_10, len_2, len_9, len_13, len_8, len_3, len_4, ln_Lf7, ln_Lf1, ln_Lf6_24, ln_Lf6_924, Nat.reduceAdd, Nat.reduceLT, Nat.reduceSub, ↓reduceIte, Nat.reduceLeDiff]
theorem g8_16 {q : Nat} : (Lf8 tA q)[16]? = (Lf9 tA (q + 15))[1]? := by
  simp only [Lf8, List.getElem?_append, List.length_append, List.length_cons, List.length_nil, len_5, len_0, len_10, len_2, len_9, len_13, len_8, len_3, len_4, ln_Lf7, ln_Lf1, ln_Lf6_24, ln_Lf6_924, Nat.reduceAdd, Nat.reduceLT, Nat.reduceSub, ↓reduceIte, Nat.reduceLeDiff]
set_option maxRecDepth 100000 in
theorem w0_19 : (Lf11 tA b)[19]? = some (cel tA (adrF ks b) M00 19) := by
  rw [g11_19, g5_18, g8_16]
  rfl
theorem g11_20 {q : Nat} : (Lf11 tA q)[20]? = (Lf5 tA (q + 1))[19]? := by
  simp only [Lf11, List.getElem?_append, List.length_append, List.length_cons, List.length_nil, len_5, len_0, len_10, len_2, len_9, len_13, len_8, len_3, len_4, ln_Lf7, ln_Lf1, ln_Lf6_24, ln_Lf6_924, Nat.reduceAdd, Nat.reduceLT, Nat.reduceSub, ↓reduceIte, Nat.reduceLeDiff]
theorem g5_19 {q : Nat} : (Lf5 tA q)[19]? = (Lf8 tA (q + 2))[17]? := by
  simp only [Lf5, List.getElem?_append, List.length_append, List.length_cons, List.length_nil, len_5, len_0, len_10, len_2, len_9, len_13, len_8, len_3, len_4, ln_Lf7, ln_Lf1, ln_Lf6_24, ln_Lf6_924, Nat.reduceAdd, Nat.reduceLT, Nat.reduceSub, ↓reduceIte, Nat.reduceLeDiff]
theorem g8_17 {q : Nat} : (Lf8 tA q)[17]? = (Lf9 tA (q + 15))[2]? := by
  simp only [Lf8, List.getElem?_append, List.length_append, List.length_cons, List.length_nil, len_5, len_0, len_10, len_2, len_9, len_13, len_8, len_3, len_4, ln_Lf7, ln_Lf1, ln_Lf6_24, ln_Lf6_924, Nat.reduceAdd, Nat.reduceLT, Nat.reduceSub, ↓reduceIte, Nat.reduceLeDiff]
set_option maxRecDepth 100000 in
theorem w0_20 : (Lf11 tA b)[20]? = some (cel tA (adrF ks b) M00 20) := by
  rw [g11_20, g5_19, g8_17]
  rfl
theorem g11_21 {q : Nat} : (Lf11 tA q)[21]? = (Lf5 tA (q + 1))[20]? := by
  simp only [Lf11, List.getElem?_append, List.length_append, List.length_cons, List.length_nil, len_5, len_0, len_10, len_2, len_9, len_13, len_8, len_3, len_4, ln_Lf7, ln_Lf1, ln_Lf6_24, ln_Lf6_924, Nat.reduceAdd, Nat.reduceLT, Nat.reduceSub, ↓reduceIte, Nat.reduceLeDiff]
theorem g5_20 {q : Nat} : (Lf5 tA q)[20]? = (Lf8 tA (q + 2))[18]? := by
  simp only [Lf5, List.getElem?_append, List.length_append, List.length_cons, List.length_nil, len_5, len_0, len_10, len_2, len_9, len_13, len_8, len_3, len_4, ln_Lf7, ln_Lf1, ln_Lf6_24, ln_Lf6_924, Nat.reduceAdd, Nat.reduceLT, Nat.reduceSub, ↓reduceIte, Nat.reduceLeDiff]
theorem g8_18 {q : Nat} : (Lf8 tA q)[18]? = (Lf9 tA (q + 18))[0]? := by
  simp only [Lf8, List.getElem?_append, List.length_append, List.length_cons, List.length_nil, len_5, len_0, len_10, len_2, len_9, len_13, len_8, len_3, len_4, ln_Lf7, ln_Lf1, ln_Lf6_24, ln_Lf6_924, Nat.reduceAdd, Nat.reduceLT, Nat.reduceSub, ↓reduceIte, Nat.reduceLeDiff]
set_option maxRecDepth 100000 in
theorem w0_21 : (Lf11 tA b)[21]? = some (cel tA (adrF ks b) M00 21) := by
  rw [g11_21, g5_20, g8_18]
  rfl
theorem g11_22 {q : Nat} : (Lf11 tA q)[22]? = (Lf5 tA (q + 1))[21]? := by
  simp only [Lf11, List.getElem?_append, List.length_append, List.length_cons, List.length_nil, len_5, len_0, len_10, len_2, len_9, len_13, len_8, len_3, len_4, ln_Lf7, ln_Lf1, ln_Lf6_24, ln_Lf6_924, Nat.reduceAdd, Nat.reduceLT, Nat.reduceSub, ↓reduceIte, Nat.reduceLeDiff]
theorem g5_21 {q : Nat} : (Lf5 tA q)[21]? = (Lf8 tA (q + 2))[19]? := by
  simp only [Lf5, List.getElem?_append, List.length_append, List.length_cons, List.length_nil, len_5, len_0, len_10, len_2, len_9, len_13, len_8, len_3, len_4, ln_Lf7, ln_Lf1, ln_Lf6_24, ln_Lf6_924, Nat.reduceAdd, Nat.reduceLT, Nat.reduceSub, ↓reduceIte, Nat.reduceLeDiff]
theorem g8_19 {q : Nat} : (Lf8 tA q)[19]? = (Lf9 tA (q + 18))[1]? := by
  simp only [Lf8, List.getElem?_append, List.length_append, List.length_cons, List.length_nil, len_5, len_0, len_10, len_2, len_9, len_13, len_8, len_3, len_4, ln_Lf7, ln_Lf1, ln_Lf6_24, ln_Lf6_924, Nat.reduceAdd, Nat.reduceLT, Nat.reduceSub, ↓reduceIte, Nat.reduceLeDiff]
set_option maxRecDepth 100000 in
theorem w0_22 : (Lf11 tA b)[22]? = some (cel tA (adrF ks b) M00 22) := by
  rw [g11_22, g5_21, g8_19]
  rfl
theorem g11_23 {q : Nat} : (Lf11 tA q)[23]? = (Lf5 tA (q + 1))[22]? := by
  simp only [Lf11, List.getElem?_append, List.length_append, List.length_cons, List.length_nil, len_5, len_0, len_10, len_2, len_9, len_13, len_8, len_3, len_4, ln_Lf7, ln_Lf1, ln_Lf6_24, ln_Lf6_924, Nat.reduceAdd, Nat.reduceLT, Nat.reduceSub, ↓reduceIte, Nat.reduceLeDiff]
theorem g5_22 {q : Nat} : (Lf5 tA q)[22]? = (Lf8 tA (q + 2))[20]? := by
  simp only [Lf5, List.getElem?_append, List.length_append, List.length_cons, List.length_nil, len_5, len_0, len_10, len_2, len_9, len_13, len_8, len_3, len_4, ln_Lf7, ln_Lf1, ln_Lf6_24, ln_Lf6_924, Nat.reduceAdd, Nat.reduceLT, Nat.reduceSub, ↓reduceIte, Nat.reduceLeDiff]
theorem g8_20 {q : Nat} : (Lf8 tA q)[20]? = (Lf9 tA (q + 18))[2]? := by
  simp only [Lf8, List.getElem?_append, List.length_append, List.length_cons, List.length_nil, len_5, len_0, len_10, len_2, len_9, len_13, len_8, len_3, len_4, ln_Lf7, ln_Lf1, ln_Lf6_24, ln_Lf6_924, Nat.reduceAdd, Nat.reduceLT, Nat.reduceSub, ↓reduceIte, Nat.reduceLeDiff]
set_option maxRecDepth 100000 in
theorem w0_23 : (Lf11 tA b)[23]? = some (cel tA (adrF ks b) M00 23) := by
  rw [g11_23, g5_22, g8_20]
  rfl
theorem g11_24 {q : Nat} : (Lf11 tA q)[24]? = (Lf5 tA (q + 1))[23]? := by
  simp only [Lf11, List.getElem?_append, List.length_append, List.length_cons, List.length_nil, len_5, len_0, len_10, len_2, len_9, len_13, len_8, len_3, len_4, ln_Lf7, ln_Lf1, ln_Lf6_24, ln_Lf6_924, Nat.reduceAdd, Nat.reduceLT, Nat.reduceSub, ↓reduceIte, Nat.reduceLeDiff]
theorem g5_23 {q : Nat} : (Lf5 tA q)[23]? = (Lf8 tA (q + 2))[21]? := by
  simp only [Lf5, List.getElem?_append, List.length_append, List.length_cons, List.length_nil, len_5, len_0, len_10, len_2, len_9, len_13, len_8, len_3, len_4, ln_Lf7, ln_Lf1, ln_Lf6_24, ln_Lf6_924, Nat.reduceAdd, Nat.reduceLT, Nat.reduceSub, ↓reduceIte, Nat.reduceLeDiff]
theorem g8_21 {q : Nat} : (Lf8 tA q)[21]? = (Lf9 tA (q + 21))[0]? := by
  simp only [Lf8, List.getElem?_append, List.length_append, List.length_cons, List.length_nil, len_5, len_0, len_10, len_2, len_9, len_13, len_8, len_3, len_4, ln_Lf7, ln_Lf1, ln_Lf6_24, ln_Lf6_924, Nat.reduceAdd, Nat.reduceLT, Nat.reduceSub, ↓reduceIte, Nat.reduceLeDiff]
set_option maxRecDepth 100000 in
theorem w0_24 : (Lf11 tA b)[24]? = some (cel tA (adrF ks b) M00 24) := by
  rw [g11_24, g5_23, g8_21]
  rfl
theorem g11_25 {q : Nat} : (Lf11 tA q)[25]? = (Lf5 tA (q + 1))[24]? := by
  simp only [Lf11, List.getElem?_append, List.length_append, List.length_cons, List.length_nil, len_5, len_0, len_10, len_2, len_9, len_13, len_8, len_3, len_4, ln_Lf7, ln_Lf1, ln_Lf6_24, ln_Lf6_924, Nat.reduceAdd, Nat.reduceLT, Nat.reduceSub, ↓reduceIte, Nat.reduceLeDiff]
theorem g5_24 {q : Nat} : (Lf5 tA q)[24]? = (Lf8 tA (q + 2))[22]? := by
  simp only [Lf5, List.getElem?_append, List.length_append, List.length_cons, List.length_nil, len_5, len_0, len_10, len_2, len_9, len_13, len_8, len_3, len_4, ln_Lf7, ln_Lf1, ln_Lf6_24, ln_Lf6_924, Nat.reduceAdd, Nat.reduceLT, Nat.reduceSub, ↓reduceIte, Nat.reduceLeDiff]
theorem g8_22 {q : Nat} : (Lf8 tA q)[22]? = (Lf9 tA (q + 21))[1]? := by
  simp only [Lf8, List.getElem?_append, List.length_append, List.length_cons, List.length_nil, len_5, len_0, len_10, len_2, len_9, len_13, len_8, len_3, len_4, ln_Lf7, ln_Lf1, ln_Lf6_24, ln_Lf6_924, Nat.reduceAdd, Nat.reduceLT, Nat.reduceSub, ↓reduceIte, Nat.reduceLeDiff]
set_option maxRecDepth 100000 in
theorem w0_25 : (Lf11 tA b)[25]? = some (cel tA (adrF ks b) M00 25) := by
  rw [g11_25, g5_24, g8_22]
  rfl
theorem g11_26 {q : Nat} : (Lf11 tA q)[26]? = (Lf5 tA (q + 1))[25]? := by
  simp only [Lf11, List.getElem?_append, List.length_append, List.length_cons, List.length_nil, len_5, len_0, len_10, len_2, len_9, len_13, len_8, len_3, len_4, ln_Lf7, ln_Lf1, ln_Lf6_24, ln_Lf6_924, Nat.reduceAdd, Nat.reduceLT, Nat.reduceSub, ↓reduceIte, Nat.reduceLeDiff]
theorem g5_25 {q : Nat} : (Lf5 tA q)[25]? = (Lf8 tA (q + 2))[23]? := by
  simp only [Lf5, List.getElem?_append, List.length_append, List.length_cons, List.length_nil, len_5, len_0, len_10, len_2, len_9, len_13, len_8, len_3, len_4, ln_Lf7, ln_Lf1, ln_Lf6_24, ln_Lf6_924, Nat.reduceAdd, Nat.reduceLT, Nat.reduceSub, ↓reduceIte, Nat.reduceLeDiff]
theorem g8_23 {q : Nat} : (Lf8 tA q)[23]? = (Lf9 tA (q + 21))[2]? := by
  simp only [Lf8, List.getElem?_append, List.length_append, List.length_cons, List.length_nil, len_5, len_0, len_10, len_2, len_9, len_13, len_8, len_3, len_4, ln_Lf7, ln_Lf1, ln_Lf6_24, ln_Lf6_924, Nat.reduceAdd, Nat.reduceLT, Nat.reduceSub, ↓reduceIte, Nat.reduceLeDiff]
set_option maxRecDepth 100000 in
theorem w0_26 : (Lf11 tA b)[26]? = some (cel tA (adrF ks b) M00 26) := by
  rw [g11_26, g5_25, g8_23]
  rfl
theorem g11_27 {q : Nat} : (Lf11 tA q)[27]? = (Lf5 tA (q + 1))[26]? := by
  simp only [Lf11, List.getElem?_append, List.length_append, List.length_cons, List.length_nil, len_5, len_0, len_10, len_2, len_9, len_13, len_8, len_3, len_4, ln_Lf7, ln_Lf1, ln_Lf6_24, ln_Lf6_924, Nat.reduceAdd, Nat.reduceLT, Nat.reduceSub, ↓reduceIte, Nat.reduceLeDiff]
theorem g5_26 {q : Nat} : (Lf5 tA q)[26]? = (Lf8 tA (q + 2))[24]? := by
  simp only [Lf5, List.getElem?_append, List.length_append, List.length_cons, List.length_nil, len_5, len_0, len_10, len_2, len_9, len_13, len_8, len_3, len_4, ln_Lf7, ln_Lf1, ln_Lf6_24, ln_Lf6_924, Nat.reduceAdd, Nat.reduceLT, Nat.reduceSub, ↓reduceIte, Nat.reduceLeDiff]
theorem g8_24 {q : Nat} : (Lf8 tA q)[24]? = (Lf9 tA (q + 24))[0]? := by
  simp only [Lf8, List.getElem?_append, List.length_append, List.length_cons, List.length_nil, len_5, len_0, len_10, len_2, len_9, len_13, len_8, len_3, len_4, ln_Lf7, ln_Lf1, ln_Lf6_24, ln_Lf6_924, Nat.reduceAdd, Nat.reduceLT, Nat.reduceSub, ↓reduceIte, Nat.reduceLeDiff]
set_option maxRecDepth 100000 in
theorem w0_27 : (Lf11 tA b)[27]? = some (cel tA (adrF ks b) M00 27) := by
  rw [g11_27, g5_26, g8_24]
  rfl
theorem g11_28 {q : Nat} : (Lf11 tA q)[28]? = (Lf5 tA (q + 1))[27]? := by
  simp only [Lf11, List.getElem?_append, List.length_append, List.length_cons, List.length_nil, len_5, len_0, len_10, len_2, len_9, len_13, len_8, len_3, len_4, ln_Lf7, ln_Lf1, ln_Lf6_24, ln_Lf6_924, Nat.reduceAdd, Nat.reduceLT, Nat.reduceSub, ↓reduceIte, Nat.reduceLeDiff]
theorem g5_27 {q : Nat} : (Lf5 tA q)[27]? = (Lf8 tA (q + 2))[25]? := by
  simp only [Lf5, List.getElem?_append, List.length_append, List.length_cons, List.length_nil, len_5, len_0, len_10, len_2, len_9, len_13, len_8, len_3, len_4, ln_Lf7, ln_Lf1, ln_Lf6_24, ln_Lf6_924, Nat.reduceAdd, Nat.reduceLT, Nat.reduceSub, ↓reduceIte, Nat.reduceLeDiff]
theorem g8_25 {q : Nat} : (Lf8 tA q)[25]? = (Lf9 tA (q + 24))[1]? := by
  simp only [Lf8, List.getElem?_append, List.length_append, List.length_cons, List.length_nil, len_5, len_0, len_10, len_2, len_9, len_13, len_8, len_3, len_4, ln_Lf7, ln_Lf1, ln_Lf6_24, ln_Lf6_924, Nat.reduceAdd, Nat.reduceLT, Nat.reduceSub, ↓reduceIte, Nat.reduceLeDiff]
set_option maxRecDepth 100000 in
theorem w0_28 : (Lf11 tA b)[28]? = some (cel tA (adrF ks b) M00 28) := by
  rw [g11_28, g5_27, g8_25]
  rfl
theorem g11_29 {q : Nat} : (Lf11 tA q)[29]? = (Lf5 tA (q + 1))[28]? := by
  simp only [Lf11, List.getElem?_append, List.length_append, List.length_cons, List.length_nil, len_5, len_0, len_10, len_2, len_9, len_13, len_8, len_3, len_4, ln_Lf7, ln_Lf1, ln_Lf6_24, ln_Lf6_924, Nat.reduceAdd, Nat.reduceLT, Nat.reduceSub, ↓reduceIte, Nat.reduceLeDiff]
theorem g5_28 {q : Nat} : (Lf5 tA q)[28]? = (Lf8 tA (q + 2))[26]? := by
  simp only [Lf5, List.getElem?_append, List.length_append, List.length_cons, List.length_nil, len_5, len_0, len_10, len_2, len_9, len_13, len_8, len_3, len_4, ln_Lf7, ln_Lf1, ln_Lf6_24, ln_Lf6_924, Nat.reduceAdd, Nat.reduceLT, Nat.reduceSub, ↓reduceIte, Nat.reduceLeDiff]
theorem g8_26 {q : Nat} : (Lf8 tA q)[26]? = (Lf9 tA (q + 24))[2]? := by
  simp only [Lf8, List.getElem?_append, List.length_append, List.length_cons, List.length_nil, len_5, len_0, len_10, len_2, len_9, len_13, len_8, len_3, len_4, ln_Lf7, ln_Lf1, ln_Lf6_24, ln_Lf6_924, Nat.reduceAdd, Nat.reduceLT, Nat.reduceSub, ↓reduceIte, Nat.reduceLeDiff]
set_option maxRecDepth 100000 in
theorem w0_29 : (Lf11 tA b)[29]? = some (cel tA (adrF ks b) M00 29) := by
  rw [g11_29, g5_28, g8_26]
  rfl
theorem g11_30 {q : Nat} : (Lf11 tA q)[30]? = (Lf5 tA (q + 1))[29]? := by
  simp only [Lf11, List.getElem?_append, List.length_append, List.length_cons, List.length_nil, len_5, len_0, len_10, len_2, len_9, len_13, len_8, len_3, len_4, ln_Lf7, ln_Lf1, ln_Lf6_24, ln_Lf6_924, Nat.reduceAdd, Nat.reduceLT, Nat.reduceSub, ↓reduceIte, Nat.reduceLeDiff]
theorem g5_29 {q : Nat} : (Lf5 tA q)[29]? = (Lf8 tA (q + 2))[27]? := by
  simp only [Lf5, List.getElem?_append, List.length_append, List.length_cons, List.length_nil, len_5, len_0, len_10, len_2, len_9, len_13, len_8, len_3, len_4, ln_Lf7, ln_Lf1, ln_Lf6_24, ln_Lf6_924, Nat.reduceAdd, Nat.reduceLT, Nat.reduceSub, ↓reduceIte, Nat.reduceLeDiff]
theorem g8_27 {q : Nat} : (Lf8 tA q)[27]? = (Lf9 tA (q + 27))[0]? := by
  simp only [Lf8, List.getElem?_append, List.length_append, List.length_cons, List.length_nil, len_5, len_0, len_10, len_2, len_9, len_13, len_8, len_3, len_4, ln_Lf7, ln_Lf1, ln_Lf6_24, ln_Lf6_924, Nat.reduceAdd, Nat.reduceLT, Nat.reduceSub, ↓reduceIte, Nat.reduceLeDiff]
set_option maxRecDepth 100000 in
theorem w0_30 : (Lf11 tA b)[30]? = some (cel tA (adrF ks b) M00 30) := by
  rw [g11_30, g5_29, g8_27]
  rfl
theorem g11_31 {q : Nat} : (Lf11 tA q)[31]? = (Lf5 tA (q + 1))[30]? := by
  simp only [Lf11, List.getElem?_append, List.length_append, List.length_cons, List.length_nil, len_5, len_0, len_10, len_2, len_9, len_13, len_8, len_3, len_4, ln_Lf7, ln_Lf1, ln_Lf6_24, ln_Lf6_924, Nat.reduceAdd, Nat.reduceLT, Nat.reduceSub, ↓reduceIte, Nat.reduceLeDiff]
theorem g5_30 {q : Nat} : (Lf5 tA q)[30]? = (Lf8 tA (q + 2))[28]? := by
  simp only [Lf5, List.getElem?_append, List.length_append, List.length_cons, List.length_nil, len_5, len_0, len_10, len_2, len_9, len_13, len_8, len_3, len_4, ln_Lf7, ln_Lf1, ln_Lf6_24, ln_Lf6_924, Nat.reduceAdd, Nat.reduceLT, Nat.reduceSub, ↓reduceIte, Nat.reduceLeDiff]
theorem g8_28 {q : Nat} : (Lf8 tA q)[28]? = (Lf9 tA (q + 27))[1]? := by
  simp only [Lf8, List.getElem?_append, List.length_append, List.length_cons, List.length_nil, len_5, len_0, len_10, len_2, len_9, len_13, len_8, len_3, len_4, ln_Lf7, ln_Lf1, ln_Lf6_24, ln_Lf6_924, Nat.reduceAdd, Nat.reduceLT, Nat.reduceSub, ↓reduceIte, Nat.reduceLeDiff]
set_option maxRecDepth 100000 in
theorem w0_31 : (Lf11 tA b)[31]? = some (cel tA (adrF ks b) M00 31) := by
  rw [g11_31, g5_30, g8_28]
  rfl
theorem g11_32 {q : Nat} : (Lf11 tA q)[32]? = (Lf5 tA (q + 1))[31]? := by
  simp only [Lf11, List.getElem?_append, List.length_append, List.length_cons, List.length_nil, len_5, len_0, len_10, len_2, len_9, len_13, len_8, len_3, len_4, ln_Lf7, ln_Lf1, ln_Lf6_24, ln_Lf6_924, Nat.reduceAdd, Nat.reduceLT, Nat.reduceSub, ↓reduceIte, Nat.reduceLeDiff]
theorem g5_31 {q : Nat} : (Lf5 tA q)[31]? = (Lf8 tA (q + 2))[29]? := by
  simp only [Lf5, List.getElem?_append, List.length_append, List.length_cons, List.length_nil, len_5, len_0, len_10, len_2, len_9, len_13, len_8, len_3, len_4, ln_Lf7, ln_Lf1, ln_Lf6_24, ln_Lf6_924, Nat.reduceAdd, Nat.reduceLT, Nat.reduceSub, ↓reduceIte, Nat.reduceLeDiff]
theorem g8_29 {q : Nat} : (Lf8 tA q)[29]? = (Lf9 tA (q + 27))[2]? := by
  simp only [Lf8, List.getElem?_append, List.length_append, List.length_cons, List.length_nil, len_5, len_0, len_10, len_2, len_9, len_13, len_8, len_3, len_4, ln_Lf7, ln_Lf1, ln_Lf6_24, ln_Lf6_924, Nat.reduceAdd, Nat.reduceLT, Nat.reduceSub, ↓reduceIte, Nat.reduceLeDiff]
set_option maxRecDepth 100000 in
theorem w0_32 : (Lf11 tA b)[32]? = some (cel tA (adrF ks b) M00 32) := by
  rw [g11_32, g5_31, g8_29]
  rfl
theorem g11_33 {q : Nat} : (Lf11 tA q)[33]? = (Lf0 tA (q + 33))[0]? := by
  simp only [Lf11, List.getElem?_append, List.length_append, List.length_cons, List.length_nil, len_5, len_0, len_10, len_2, len_9, len_13, len_8, len_3, len_4, ln_Lf7, ln_Lf1, ln_Lf6_24, ln_Lf6_924, Nat.reduceAdd, Nat.reduceLT, Nat.reduceSub, ↓reduceIte, Nat.reduceLeDiff]
set_option maxRecDepth 100000 in
theorem w0_33 : (Lf11 tA b)[33]? = some (cel tA (adrF ks b) M00 33) := by
  rw [g11_33]
  simp only [Lf0, List.getElem?_append, List.length_append, List.length_cons, List.length_nil, len_5, len_0, len_10, len_2, len_9, len_13, len_8, len_3, len_4, ln_Lf7, ln_Lf1, ln_Lf6_24, ln_Lf6_924, Nat.reduceAdd, Nat.reduceLT, Nat.reduceSub, ↓reduceIte, Nat.reduceLeDiff]
  rfl
theorem g11_34 {q : Nat} : (Lf11 tA q)[34]? = (Lf0 tA (q + 33))[1]? := by
  simp only [Lf11, List.getElem?_append, List.length_append, List.length_cons, List.length_nil, len_5, len_0, len_10, len_2, len_9, len_13, len_8, len_3, len_4, ln_Lf7, ln_Lf1, ln_Lf6_24, ln_Lf6_924, Nat.reduceAdd, Nat.reduceLT, Nat.reduceSub, ↓reduceIte, Nat.reduceLeDiff]
theorem g0_1 {q : Nat} : (Lf0 tA q)[1]? = (Lf6_24 tA (q + 1))[0]? := by
  simp only [Lf0, List.getElem?_append, List.length_append, List.length_cons, List.length_nil, len_5, len_0, len_10, len_2, len_9, len_13, len_8, len_3, len_4, ln_Lf7, ln_Lf1, ln_Lf6_24, ln_Lf6_924, Nat.reduceAdd, Nat.reduceLT, Nat.reduceSub, ↓reduceIte, Nat.reduceLeDiff]
set_option maxRecDepth 100000 in
theorem w0_34 : (Lf11 tA b)[34]? = some (cel tA (adrF ks b) M00 34) := by
  rw [g11_34, g0_1]
  rfl
theorem g11_35 {q : Nat} : (Lf11 tA q)[35]? = (Lf0 tA (q + 33))[2]? := by
  simp only [Lf11, List.getElem?_append, List.length_append, List.length_cons, List.length_nil, len_5, len_0, len_10, len_2, len_9, len_13, len_8, len_3, len_4, ln_Lf7, ln_Lf1, ln_Lf6_24, ln_Lf6_924, Nat.reduceAdd, Nat.reduceLT, Nat.reduceSub, ↓reduceIte, Nat.reduceLeDiff]
theorem g0_2 {q : Nat} : (Lf0 tA q)[2]? = (Lf6_24 tA (q + 1))[1]? := by
  simp only [Lf0, List.getElem?_append, List.length_append, List.length_cons, List.length_nil, len_5, len_0, len_10, len_2, len_9, len_13, len_8, len_3, len_4, ln_Lf7, ln_Lf1, ln_Lf6_24, ln_Lf6_924, Nat.reduceAdd, Nat.reduceLT, Nat.reduceSub, ↓reduceIte, Nat.reduceLeDiff]
set_option maxRecDepth 100000 in
theorem w0_35 : (Lf11 tA b)[35]? = some (cel tA (adrF ks b) M00 35) := by
  rw [g11_35, g0_2]
  rfl
theorem g11_36 {q : Nat} : (Lf11 tA q)[36]? = (Lf0 tA (q + 33))[3]? := by
  simp only [Lf11, List.getElem?_append, List.length_append, List.length_cons, List.length_nil, len_5, len_0, len_10, len_2, len_9, len_13, len_8, len_3, len_4, ln_Lf7, ln_Lf1, ln_Lf6_24, ln_Lf6_924, Nat.reduceAdd, Nat.reduceLT, Nat.reduceSub, ↓reduceIte, Nat.reduceLeDiff]
theorem g0_3 {q : Nat} : (Lf0 tA q)[3]? = (Lf6_24 tA (q + 1))[2]? := by
  simp only [Lf0, List.getElem?_append, List.length_append, List.length_cons, List.length_nil, len_5, len_0, len_10, len_2, len_9, len_13, len_8, len_3, len_4, ln_Lf7, ln_Lf1, ln_Lf6_24, ln_Lf6_924, Nat.reduceAdd, Nat.reduceLT, Nat.reduceSub, ↓reduceIte, Nat.reduceLeDiff]
set_option maxRecDepth 100000 in
theorem w0_36 : (Lf11 tA b)[36]? = some (cel tA (adrF ks b) M00 36) := by
  rw [g11_36, g0_3]
  rfl
theorem g11_37 {q : Nat} : (Lf11 tA q)[37]? = (Lf0 tA (q + 33))[4]? := by
  simp only [Lf11, List.getElem?_append, List.length_append, List.length_cons, List.length_nil, len_5, len_0, len_10, len_2, len_9, len_13, len_8, len_3, len_4, ln_Lf7, ln_Lf1, ln_Lf6_24, ln_Lf6_924, Nat.reduceAdd, Nat.reduceLT, Nat.reduceSub, ↓reduceIte, Nat.reduceLeDiff]
theorem g0_4 {q : Nat} : (Lf0 tA q)[4]? = (Lf6_24 tA (q + 1))[3]? := by
  simp only [Lf0, List.getElem?_append, List.length_append, List.length_cons, List.length_nil, len_5, len_0, len_10, len_2, len_9, len_13, len_8, len_3, len_4, ln_Lf7, ln_Lf1, ln_Lf6_24, ln_Lf6_924, Nat.reduceAdd, Nat.reduceLT, Nat.reduceSub, ↓reduceIte, Nat.reduceLeDiff]
set_option maxRecDepth 100000 in
theorem w0_37 : (Lf11 tA b)[37]? = some (cel tA (adrF ks b) M00 37) := by
  rw [g11_37, g0_4]
  rfl
theorem g11_38 {q : Nat} : (Lf11 tA q)[38]? = (Lf0 tA (q + 33))[5]? := by
  simp only [Lf11, List.getElem?_append, List.length_append, List.length_cons, List.length_nil, len_5, len_0, len_10, len_2, len_9, len_13, len_8, len_3, len_4, ln_Lf7, ln_Lf1, ln_Lf6_24, ln_Lf6_924, Nat.reduceAdd, Nat.reduceLT, Nat.reduceSub, ↓reduceIte, Nat.reduceLeDiff]
theorem g0_5 {q : Nat} : (Lf0 tA q)[5]? = (Lf6_24 tA (q + 1))[4]? := by
  simp only [Lf0, List.getElem?_append, List.length_append, List.length_cons, List.length_nil, len_5, len_0, len_10, len_2, len_9, len_13, len_8, len_3, len_4, ln_Lf7, ln_Lf1, ln_Lf6_24, ln_Lf6_924, Nat.reduceAdd, Nat.reduceLT, Nat.reduceSub, ↓reduceIte, Nat.reduceLeDiff]
set_option maxRecDepth 100000 in
theorem w0_38 : (Lf11 tA b)[38]? = some (cel tA (adrF ks b) M00 38) := by
  rw [g11_38, g0_5]
  rfl
theorem g11_39 {q : Nat} : (Lf11 tA q)[39]? = (Lf0 tA (q + 33))[6]? := by
  simp only [Lf11, List.getElem?_append, List.length_append, List.length_cons, List.length_nil, len_5, len_0, len_10, len_2, len_9, len_13, len_8, len_3, len_4, ln_Lf7, ln_Lf1, ln_Lf6_24, ln_Lf6_924, Nat.reduceAdd, Nat.reduceLT, Nat.reduceSub, ↓reduceIte, Nat.reduceLeDiff]
theorem g0_6 {q : Nat} : (Lf0 tA q)[6]? = (Lf6_24 tA (q + 1))[5]? := by
  simp only [Lf0, List.getElem?_append, List.length_append, List.length_cons, List.length_nil, len_5, len_0, len_10, len_2, len_9, len_13, len_8, len_3, len_4, ln_Lf7, ln_Lf1, ln_Lf6_24, ln_Lf6_924, Nat.reduceAdd, Nat.reduceLT, Nat.reduceSub, ↓reduceIte, Nat.reduceLeDiff]
set_option maxRecDepth 100000 in
theorem w0_39 : (Lf11 tA b)[39]? = some (cel tA (adrF ks b) M00 39) := by
  rw [g11_39, g0_6]
  rfl
theorem g11_40 {q : Nat} : (Lf11 tA q)[40]? = (Lf0 tA (q + 33))[7]? := by
  simp only [Lf11, List.getElem?_append, List.length_append, List.length_cons, List.length_nil, len_5, len_0, len_10, len_2, len_9, len_13, len_8, len_3, len_4, ln_Lf7, ln_Lf1, ln_Lf6_24, ln_Lf6_924, Nat.reduceAdd, Nat.reduceLT, Nat.reduceSub, ↓reduceIte, Nat.reduceLeDiff]
theorem g0_7 {q : Nat} : (Lf0 tA q)[7]? = (Lf6_24 tA (q + 1))[6]? := by
  simp only [Lf0, List.getElem?_append, List.length_append, List.length_cons, List.length_nil, len_5, len_0, len_10, len_2, len_9, len_13, len_8, len_3, len_4, ln_Lf7, ln_Lf1, ln_Lf6_24, ln_Lf6_924, Nat.reduceAdd, Nat.reduceLT, Nat.reduceSub, ↓reduceIte, Nat.reduceLeDiff]
set_option maxRecDepth 100000 in
theorem w0_40 : (Lf11 tA b)[40]? = some (cel tA (adrF ks b) M00 40) := by
  rw [g11_40, g0_7]
  rfl
theorem g11_41 {q : Nat} : (Lf11 tA q)[41]? = (Lf0 tA (q + 33))[8]? := by
  simp only [Lf11, List.getElem?_append, List.length_append, List.length_cons, List.length_nil, len_5, len_0, len_10, len_2, len_9, len_13, len_8, len_3, len_4, ln_Lf7, ln_Lf1, ln_Lf6_24, ln_Lf6_924, Nat.reduceAdd, Nat.reduceLT, Nat.reduceSub, ↓reduceIte, Nat.reduceLeDiff]
theorem g0_8 {q : Nat} : (Lf0 tA q)[8]? = (Lf6_24 tA (q + 8))[0]? := by
  simp only [Lf0, List.getElem?_append, List.length_append, List.length_cons, List.length_nil, len_5, len_0, len_10, len_2, len_9, len_13, len_8, len_3, len_4, ln_Lf7, ln_Lf1, ln_Lf6_24, ln_Lf6_924, Nat.reduceAdd, Nat.reduceLT, Nat.reduceSub, ↓reduceIte, Nat.reduceLeDiff]
set_option maxRecDepth 100000 in
theorem w0_41 : (Lf11 tA b)[41]? = some (cel tA (adrF ks b) M00 41) := by
  rw [g11_41, g0_8]
  rfl
theorem g11_42 {q : Nat} : (Lf11 tA q)[42]? = (Lf0 tA (q + 33))[9]? := by
  simp only [Lf11, List.getElem?_append, List.length_append, List.length_cons, List.length_nil, len_5, len_0, len_10, len_2, len_9, len_13, len_8, len_3, len_4, ln_Lf7, ln_Lf1, ln_Lf6_24, ln_Lf6_924, Nat.reduceAdd, Nat.reduceLT, Nat.reduceSub, ↓reduceIte, Nat.reduceLeDiff]
theorem g0_9 {q : Nat} : (Lf0 tA q)[9]? = (Lf6_24 tA (q + 8))[1]? := by
  simp only [Lf0, List.getElem?_append, List.length_append, List.length_cons, List.length_nil, len_5, len_0, len_10, len_2, len_9, len_13, len_8, len_3, len_4, ln_Lf7, ln_Lf1, ln_Lf6_24, ln_Lf6_924, Nat.reduceAdd, Nat.reduceLT, Nat.reduceSub, ↓reduceIte, Nat.reduceLeDiff]
set_option maxRecDepth 100000 in
theorem w0_42 : (Lf11 tA b)[42]? = some (cel tA (adrF ks b) M00 42) := by
  rw [g11_42, g0_9]
  rfl
theorem g11_43 {q : Nat} : (Lf11 tA q)[43]? = (Lf0 tA (q + 33))[10]? := by
  simp only [Lf11, List.getElem?_append, List.length_append, List.length_cons, List.length_nil, len_5, len_0, len_10, len_2, len_9, len_13, len_8, len_3, len_4, ln_Lf7, ln_Lf1, ln_Lf6_24, ln_Lf6_924, Nat.reduceAdd, Nat.reduceLT, Nat.reduceSub, ↓reduceIte, Nat.reduceLeDiff]
theorem g0_10 {q : Nat} : (Lf0 tA q)[10]? = (Lf6_24 tA (q + 8))[2]? := by
  simp only [Lf0, List.getElem?_append, List.length_append, List.length_cons, List.length_nil, len_5, len_0, len_10, len_2, len_9, len_13, len_8, len_3, len_4, ln_Lf7, ln_Lf1, ln_Lf6_24, ln_Lf6_924, Nat.reduceAdd, Nat.reduceLT, Nat.reduceSub, ↓reduceIte, Nat.reduceLeDiff]
set_option maxRecDepth 100000 in
theorem w0_43 : (Lf11 tA b)[43]? = some (cel tA (adrF ks b) M00 43) := by
  rw [g11_43, g0_10]
  rfl
theorem g11_44 {q : Nat} : (Lf11 tA q)[44]? = (Lf0 tA (q + 33))[11]? := by
  simp only [Lf11, List.getElem?_append, List.length_append, List.length_cons, List.length_nil, len_5, len_0, len_10, len_2, len_9, len_13, len_8, len_3, len_4, ln_Lf7, ln_Lf1, ln_Lf6_24, ln_Lf6_924, Nat.reduceAdd, Nat.reduceLT, Nat.reduceSub, ↓reduceIte, Nat.reduceLeDiff]
theorem g0_11 {q : Nat} : (Lf0 tA q)[11]? = (Lf6_24 tA (q + 8))[3]? := by
  simp only [Lf0, List.getElem?_append, List.length_append, List.length_cons, List.length_nil, len_5, len_0, len_10, len_2, len_9, len_13, len_8, len_3, len_4, ln_Lf7, ln_Lf1, ln_Lf6_24, ln_Lf6_924, Nat.reduceAdd, Nat.reduceLT, Nat.reduceSub, ↓reduceIte, Nat.reduceLeDiff]
set_option maxRecDepth 100000 in
theorem w0_44 : (Lf11 tA b)[44]? = some (cel tA (adrF ks b) M00 44) := by
  rw [g11_44, g0_11]
  rfl
theorem g11_45 {q : Nat} : (Lf11 tA q)[45]? = (Lf0 tA (q + 33))[12]? := by
  simp only [Lf11, List.getElem?_append, List.length_append, List.length_cons, List.length_nil, len_5, len_0, len_10, len_2, len_9, len_13, len_8, len_3, len_4, ln_Lf7, ln_Lf1, ln_Lf6_24, ln_Lf6_924, Nat.reduceAdd, Nat.reduceLT, Nat.reduceSub, ↓reduceIte, Nat.reduceLeDiff]
theorem g0_12 {q : Nat} : (Lf0 tA q)[12]? = (Lf6_24 tA (q + 8))[4]? := by
  simp only [Lf0, List.getElem?_append, List.length_append, List.length_cons, List.length_nil, len_5, len_0, len_10, len_2, len_9, len_13, len_8, len_3, len_4, ln_Lf7, ln_Lf1, ln_Lf6_24, ln_Lf6_924, Nat.reduceAdd, Nat.reduceLT, Nat.reduceSub, ↓reduceIte, Nat.reduceLeDiff]
set_option maxRecDepth 100000 in
theorem w0_45 : (Lf11 tA b)[45]? = some (cel tA (adrF ks b) M00 45) := by
  rw [g11_45, g0_12]
  rfl
theorem g11_46 {q : Nat} : (Lf11 tA q)[46]? = (Lf0 tA (q + 33))[13]? := by
  simp only [Lf11, List.getElem?_append, List.length_append, List.length_cons, List.length_nil, len_5, len_0, len_10, len_2, len_9, len_13, len_8, len_3, len_4, ln_Lf7, ln_Lf1, ln_Lf6_24, ln_Lf6_924, Nat.reduceAdd, Nat.reduceLT, Nat.reduceSub, ↓reduceIte, Nat.reduceLeDiff]
theorem g0_13 {q : Nat} : (Lf0 tA q)[13]? = (Lf6_24 tA (q + 8))[5]? := by
  simp only [Lf0, List.getElem?_append, List.length_append, List.length_cons, List.length_nil, len_5, len_0, len_10, len_2, len_9, len_13, len_8, len_3, len_4, ln_Lf7, ln_Lf1, ln_Lf6_24, ln_Lf6_924, Nat.reduceAdd, Nat.reduceLT, Nat.reduceSub, ↓reduceIte, Nat.reduceLeDiff]
set_option maxRecDepth 100000 in
theorem w0_46 : (Lf11 tA b)[46]? = some (cel tA (adrF ks b) M00 46) := by
  rw [g11_46, g0_13]
  rfl
theorem g11_47 {q : Nat} : (Lf11 tA q)[47]? = (Lf0 tA (q + 33))[14]? := by
  simp only [Lf11, List.getElem?_append, List.length_append, List.length_cons, List.length_nil, len_5, len_0, len_10, len_2, len_9, len_13, len_8, len_3, len_4, ln_Lf7, ln_Lf1, ln_Lf6_24, ln_Lf6_924, Nat.reduceAdd, Nat.reduceLT, Nat.reduceSub, ↓reduceIte, Nat.reduceLeDiff]
theorem g0_14 {q : Nat} : (Lf0 tA q)[14]? = (Lf6_24 tA (q + 8))[6]? := by
  simp only [Lf0, List.getElem?_append, List.length_append, List.length_cons, List.length_nil, len_5, len_0, len_10, len_2, len_9, len_13, len_8, len_3, len_4, ln_Lf7, ln_Lf1, ln_Lf6_24, ln_Lf6_924, Nat.reduceAdd, Nat.reduceLT, Nat.reduceSub, ↓reduceIte, Nat.reduceLeDiff]
set_option maxRecDepth 100000 in
theorem w0_47 : (Lf11 tA b)[47]? = some (cel tA (adrF ks b) M00 47) := by
  rw [g11_47, g0_14]
  rfl
theorem g11_48 {q : Nat} : (Lf11 tA q)[48]? = (Lf0 tA (q + 33))[15]? := by
  simp only [Lf11, List.getElem?_append, List.length_append, List.length_cons, List.length_nil, len_5, len_0, len_10, len_2, len_9, len_13, len_8, len_3, len_4, ln_Lf7, ln_Lf1, ln_Lf6_24, ln_Lf6_924, Nat.reduceAdd, Nat.reduceLT, Nat.reduceSub, ↓reduceIte, Nat.reduceLeDiff]
theorem g0_15 {q : Nat} : (Lf0 tA q)[15]? = (Lf6_924 tA (q + 15))[0]? := by
  simp only [Lf0, List.getElem?_append, List.length_append, List.length_cons, List.length_nil, len_5, len_0, len_10, len_2, len_9, len_13, len_8, len_3, len_4, ln_Lf7, ln_Lf1, ln_Lf6_24, ln_Lf6_924, Nat.reduceAdd, Nat.reduceLT, Nat.reduceSub, ↓reduceIte, Nat.reduceLeDiff]
set_option maxRecDepth 100000 in
theorem w0_48 : (Lf11 tA b)[48]? = some (cel tA (adrF ks b) M00 48) := by
  rw [g11_48, g0_15]
  rfl
theorem g11_49 {q : Nat} : (Lf11 tA q)[49]? = (Lf0 tA (q + 33))[16]? := by
  simp only [Lf11, List.getElem?_append, List.length_append, List.length_cons, List.length_nil, len_5, len_0, len_10, len_2, len_9, len_13, len_8, len_3, len_4, ln_Lf7, ln_Lf1, ln_Lf6_24, ln_Lf6_924, Nat.reduceAdd, Nat.reduceLT, Nat.reduceSub, ↓reduceIte, Nat.reduceLeDiff]
theorem g0_16 {q : Nat} : (Lf0 tA q)[16]? = (Lf6_924 tA (q + 15))[1]? := by
  simp only [Lf0, List.getElem?_append, List.length_append, List.length_cons, List.length_nil, len_5, len_0, len_10, len_2, len_9, len_13, len_8, len_3, len_4, ln_Lf7, ln_Lf1, ln_Lf6_24, ln_Lf6_924, Nat.reduceAdd, Nat.reduceLT, Nat.reduceSub, ↓reduceIte, Nat.reduceLeDiff]
set_option maxRecDepth 100000 in
theorem w0_49 : (Lf11 tA b)[49]? = some (cel tA (adrF ks b) M00 49) := by
  rw [g11_49, g0_16]
  rfl
theorem g11_50 {q : Nat} : (Lf11 tA q)[50]? = (Lf0 tA (q + 33))[17]? := by
  simp only [Lf11, List.getElem?_append, List.length_append, List.length_cons, List.length_nil, len_5, len_0, len_10, len_2, len_9, len_13, len_8, len_3, len_4, ln_Lf7, ln_Lf1, ln_Lf6_24, ln_Lf6_924, Nat.reduceAdd, Nat.reduceLT, Nat.reduceSub, ↓reduceIte, Nat.reduceLeDiff]
theorem g0_17 {q : Nat} : (Lf0 tA q)[17]? = (Lf6_924 tA (q + 15))[2]? := by
  simp only [Lf0, List.getElem?_append, List.length_append, List.length_cons, List.length_nil, len_5, len_0, len_10, len_2, len_9, len_13, len_8, len_3, len_4, ln_Lf7, ln_Lf1, ln_Lf6_24, ln_Lf6_924, Nat.reduceAdd, Nat.reduceLT, Nat.reduceSub, ↓reduceIte, Nat.reduceLeDiff]
set_option maxRecDepth 100000 in
theorem w0_50 : (Lf11 tA b)[50]? = some (cel tA (adrF ks b) M00 50) := by
  rw [g11_50, g0_17]
  rfl
theorem g11_51 {q : Nat} : (Lf11 tA q)[51]? = (Lf0 tA (q + 33))[18]? := by
  simp only [Lf11, List.getElem?_append, List.length_append, List.length_cons, List.length_nil, len_5, len_0, len_10, len_2, len_9, len_13, len_8, len_3, len_4, ln_Lf7, ln_Lf1, ln_Lf6_24, ln_Lf6_924, Nat.reduceAdd, Nat.reduceLT, Nat.reduceSub, ↓reduceIte, Nat.reduceLeDiff]
theorem g0_18 {q : Nat} : (Lf0 tA q)[18]? = (Lf6_924 tA (q + 15))[3]? := by
  simp only [Lf0, List.getElem?_append, List.length_append, List.length_cons, List.length_nil, len_5, len_0, len_10, len_2, len_9, len_13, len_8, len_3, len_4, ln_Lf7, ln_Lf1, ln_Lf6_24, ln_Lf6_924, Nat.reduceAdd, Nat.reduceLT, Nat.reduceSub, ↓reduceIte, Nat.reduceLeDiff]
set_option maxRecDepth 100000 in
theorem w0_51 : (Lf11 tA b)[51]? = some (cel tA (adrF ks b) M00 51) := by
  rw [g11_51, g0_18]
  rfl
theorem g11_52 {q : Nat} : (Lf11 tA q)[52]? = (Lf0 tA (q + 33))[19]? := by
  simp only [Lf11, List.getElem?_append, List.length_append, List.length_cons, List.length_nil, len_5, len_0, len_10, len_2, len_9, len_13, len_8, len_3, len_4, ln_Lf7, ln_Lf1, ln_Lf6_24, ln_Lf6_924, Nat.reduceAdd, Nat.reduceLT, Nat.reduceSub, ↓reduceIte, Nat.reduceLeDiff]
theorem g0_19 {q : Nat} : (Lf0 tA q)[19]? = (Lf6_924 tA (q + 15))[4]? := by
  simp only [Lf0, List.getElem?_append, List.length_append, List.length_cons, List.length_nil, len_5, len_0, len_10, len_2, len_9, len_13, len_8, len_3, len_4, ln_Lf7, ln_Lf1, ln_Lf6_24, ln_Lf6_924, Nat.reduceAdd, Nat.reduceLT, Nat.reduceSub, ↓reduceIte, Nat.reduceLeDiff]
set_option maxRecDepth 100000 in
theorem w0_52 : (Lf11 tA b)[52]? = some (cel tA (adrF ks b) M00 52) := by
  rw [g11_52, g0_19]
  rfl
theorem g11_53 {q : Nat} : (Lf11 tA q)[53]? = (Lf0 tA (q + 33))[20]? := by
  simp only [Lf11, List.getElem?_append, List.length_append, List.length_cons, List.length_nil, len_5, len_0, len_10, len_2, len_9, len_13, len_8, len_3, len_4, ln_Lf7, ln_Lf1, ln_Lf6_24, ln_Lf6_924, Nat.reduceAdd, Nat.reduceLT, Nat.reduceSub, ↓reduceIte, Nat.reduceLeDiff]
theorem g0_20 {q : Nat} : (Lf0 tA q)[20]? = (Lf6_924 tA (q + 15))[5]? := by
  simp only [Lf0, List.getElem?_append, List.length_append, List.length_cons, List.length_nil, len_5, len_0, len_10, len_2, len_9, len_13, len_8, len_3, len_4, ln_Lf7, ln_Lf1, ln_Lf6_24, ln_Lf6_924, Nat.reduceAdd, Nat.reduceLT, Nat.reduceSub, ↓reduceIte, Nat.reduceLeDiff]
set_option maxRecDepth 100000 in
theorem w0_53 : (Lf11 tA b)[53]? = some (cel tA (adrF ks b) M00 53) := by
  rw [g11_53, g0_20]
  rfl
theorem g11_54 {q : Nat} : (Lf11 tA q)[54]? = (Lf0 tA (q + 33))[21]? := by
  simp only [Lf11, List.getElem?_append, List.length_append, List.length_cons, List.length_nil, len_5, len_0, len_10, len_2, len_9, len_13, len_8, len_3, len_4, ln_Lf7, ln_Lf1, ln_Lf6_24, ln_Lf6_924, Nat.reduceAdd, Nat.reduceLT, Nat.reduceSub, ↓reduceIte, Nat.reduceLeDiff]
theorem g0_21 {q : Nat} : (Lf0 tA q)[21]? = (Lf6_924 tA (q + 15))[6]? := by
  simp only [Lf0, List.getElem?_append, List.length_append, List.length_cons, List.length_nil, len_5, len_0, len_10, len_2, len_9, len_13, len_8, len_3, len_4, ln_Lf7, ln_Lf1, ln_Lf6_24, ln_Lf6_924, Nat.reduceAdd, Nat.reduceLT, Nat.reduceSub, ↓reduceIte, Nat.reduceLeDiff]
set_option maxRecDepth 100000 in
theorem w0_54 : (Lf11 tA b)[54]? = some (cel tA (adrF ks b) M00 54) := by
  rw [g11_54, g0_21]
  rfl
theorem g11_55 {q : Nat} : (Lf11 tA q)[55]? = (Lf0 tA (q + 33))[22]? := by
  simp only [Lf11, List.getElem?_append, List.length_append, List.length_cons, List.length_nil, len_5, len_0, len_10, len_2, len_9, len_13, len_8, len_3, len_4, ln_Lf7, ln_Lf1, ln_Lf6_24, ln_Lf6_924, Nat.reduceAdd, Nat.reduceLT, Nat.reduceSub, ↓reduceIte, Nat.reduceLeDiff]
set_option maxRecDepth 100000 in
theorem w0_55 : (Lf11 tA b)[55]? = some (cel tA (adrF ks b) M00 55) := by
  rw [g11_55]
  simp only [Lf0, List.getElem?_append, List.length_append, List.length_cons, List.length_nil, len_5, len_0, len_10, len_2, len_9, len_13, len_8, len_3, len_4, ln_Lf7, ln_Lf1, ln_Lf6_24, ln_Lf6_924, Nat.reduceAdd, Nat.reduceLT, Nat.reduceSub, ↓reduceIte, Nat.reduceLeDiff]
  rfl
theorem g11_56 {q : Nat} : (Lf11 tA q)[56]? = (Lf0 tA (q + 33))[23]? := by
  simp only [Lf11, List.getElem?_append, List.length_append, List.length_cons, List.length_nil, len_5, len_0, len_10, len_2, len_9, len_13, len_8, len_3, len_4, ln_Lf7, ln_Lf1, ln_Lf6_24, ln_Lf6_924, Nat.reduceAdd, Nat.reduceLT, Nat.reduceSub, ↓reduceIte, Nat.reduceLeDiff]
set_option maxRecDepth 100000 in
theorem w0_56 : (Lf11 tA b)[56]? = some (cel tA (adrF ks b) M00 56) := by
  rw [g11_56]
  simp only [Lf0, List.getElem?_append, List.length_append, List.length_cons, List.length_nil, len_5, len_0, len_10, len_2, len_9, len_13, len_8, len_3, len_4, ln_Lf7, ln_Lf1, ln_Lf6_24, ln_Lf6_924, Nat.reduceAdd, Nat.reduceLT, Nat.reduceSub, ↓reduceIte, Nat.reduceLeDiff]
  rfl
theorem g11_57 {q : Nat} : (Lf11 tA q)[57]? = (Lf0 tA (q + 33))[24]? := by
  simp only [Lf11, List.getElem?_append, List.length_append, List.length_cons, List.length_nil, len_5, len_0, len_10, len_2, len_9, len_13, len_8, len_3, len_4, ln_Lf7, ln_Lf1, ln_Lf6_24, ln_Lf6_924, Nat.reduceAdd, Nat.reduceLT, Nat.reduceSub, ↓reduceIte, Nat.reduceLeDiff]
theorem g0_24 {q : Nat} : (Lf0 tA q)[24]? = (Lf7 tA (q + 24))[0]? := by
  simp only [Lf0, List.getElem?_append, List.length_append, List.length_cons, List.length_nil, len_5, len_0, len_10, len_2, len_9, len_13, len_8, len_3, len_4, ln_Lf7, ln_Lf1, ln_Lf6_24, ln_Lf6_924, Nat.reduceAdd, Nat.reduceLT, Nat.reduceSub, ↓reduceIte, Nat.reduceLeDiff]
set_option maxRecDepth 100000 in
theorem w0_57 : (Lf11 tA b)[57]? = some (cel tA (adrF ks b) M00 57) := by
  rw [g11_57, g0_24]
  rfl
theorem g11_58 {q : Nat} : (Lf11 tA q)[58]? = (Lf0 tA (q + 33))[25]? := by
  simp only [Lf11, List.getElem?_append, List.length_append, List.length_cons, List.length_nil, len_5, len_0, len_10, len_2, len_9, len_13, len_8, len_3, len_4, ln_Lf7, ln_Lf1, ln_Lf6_24, ln_Lf6_924, Nat.reduceAdd, Nat.reduceLT, Nat.reduceSub, ↓reduceIte, Nat.reduceLeDiff]
theorem g0_25 {q : Nat} : (Lf0 tA q)[25]? = (Lf1 tA (q + 25))[0]? := by
  simp only [Lf0, List.getElem?_append, List.length_append, List.length_cons, List.length_nil, len_5, len_0, len_10, len_2, len_9, len_13, len_8, len_3, len_4, ln_Lf7, ln_Lf1, ln_Lf6_24, ln_Lf6_924, Nat.reduceAdd, Nat.reduceLT, Nat.reduceSub, ↓reduceIte, Nat.reduceLeDiff]
set_option maxRecDepth 100000 in
theorem w0_58 : (Lf11 tA b)[58]? = some (cel tA (adrF ks b) M00 58) := by
  rw [g11_58, g0_25]
  simp only [Lf1, List.getElem?_append, List.length_append, List.length_cons, List.length_nil, len_5, len_0, len_10, len_2, len_9, len_13, len_8, len_3, len_4, ln_Lf7, ln_Lf1, ln_Lf6_24, ln_Lf6_924, Nat.reduceAdd, Nat.reduceLT, Nat.reduceSub, ↓reduceIte, Nat.reduceLeDiff]
  rfl
theorem g11_59 {q : Nat} : (Lf11 tA q)[59]? = (Lf0 tA (q + 33))[26]? := by
  simp only [Lf11, List.getElem?_append, List.length_append, List.length_cons, List.length_nil, len_5, len_0, len_10, len_2, len_9, len_13, len_8, len_3, len_4, ln_Lf7, ln_Lf1, ln_Lf6_24, ln_Lf6_924, Nat.reduceAdd, Nat.reduceLT, Nat.reduceSub, ↓reduceIte, Nat.reduceLeDiff]
theorem g0_26 {q : Nat} : (Lf0 tA q)[26]? = (Lf1 tA (q + 25))[1]? := by
  simp only [Lf0, List.getElem?_append, List.length_append, List.length_cons, List.length_nil, len_5, len_0, len_10, len_2, len_9, len_13, len_8, len_3, len_4, ln_Lf7, ln_Lf1, ln_Lf6_24, ln_Lf6_924, Nat.reduceAdd, Nat.reduceLT, Nat.reduceSub, ↓reduceIte, Nat.reduceLeDiff]
theorem g1_1 {q : Nat} : (Lf1 tA q)[1]? = (Lf7 tA (q + 1))[0]? := by
  simp only [Lf1, List.getElem?_append, List.length_append, List.length_cons, List.length_nil, len_5, len_0, len_10, len_2, len_9, len_13, len_8, len_3, len_4, ln_Lf7, ln_Lf1, ln_Lf6_24, ln_Lf6_924, Nat.reduceAdd, Nat.reduceLT, Nat.reduceSub, ↓reduceIte, Nat.reduceLeDiff]
set_option maxRecDepth 100000 in
theorem w0_59 : (Lf11 tA b)[59]? = some (cel tA (adrF ks b) M00 59) := by
  rw [g11_59, g0_26, g1_1]
  rfl
theorem g11_60 {q : Nat} : (Lf11 tA q)[60]? = (Lf10 tA (q + 60))[0]? := by
  simp only [Lf11, List.getElem?_append, List.length_append, List.length_cons, List.length_nil, len_5, len_0, len_10, len_2, len_9, len_13, len_8, len_3, len_4, ln_Lf7, ln_Lf1, ln_Lf6_24, ln_Lf6_924, Nat.reduceAdd, Nat.reduceLT, Nat.reduceSub, ↓reduceIte, Nat.reduceLeDiff]
set_option maxRecDepth 100000 in
theorem w0_60 : (Lf11 tA b)[60]? = some (cel tA (adrF ks b) M00 60) := by
  rw [g11_60]
  rfl
theorem g11_61 {q : Nat} : (Lf11 tA q)[61]? = (Lf10 tA (q + 60))[1]? := by
  simp only [Lf11, List.getElem?_append, List.length_append, List.length_cons, List.length_nil, len_5, len_0, len_10, len_2, len_9, len_13, len_8, len_3, len_4, ln_Lf7, ln_Lf1, ln_Lf6_24, ln_Lf6_924, Nat.reduceAdd, Nat.reduceLT, Nat.reduceSub, ↓reduceIte, Nat.reduceLeDiff]
set_option maxRecDepth 100000 in
theorem w0_61 : (Lf11 tA b)[61]? = some (cel tA (adrF ks b) M00 61) := by
  rw [g11_61]
  rfl
theorem g11_62 {q : Nat} : (Lf11 tA q)[62]? = (Lf10 tA (q + 60))[2]? := by
  simp only [Lf11, List.getElem?_append, List.length_append, List.length_cons, List.length_nil, len_5, len_0, len_10, len_2, len_9, len_13, len_8, len_3, len_4, ln_Lf7, ln_Lf1, ln_Lf6_24, ln_Lf6_924, Nat.reduceAdd, Nat.reduceLT, Nat.reduceSub, ↓reduceIte, Nat.reduceLeDiff]
set_option maxRecDepth 100000 in
theorem w0_62 : (Lf11 tA b)[62]? = some (cel tA (adrF ks b) M00 62) := by
  rw [g11_62]
  rfl
theorem g11_63 {q : Nat} : (Lf11 tA q)[63]? = (Lf10 tA (q + 60))[3]? := by
  simp only [Lf11, List.getElem?_append, List.length_append, List.length_cons, List.length_nil, len_5, len_0, len_10, len_2, len_9, len_13, len_8, len_3, len_4, ln_Lf7, ln_Lf1, ln_Lf6_24, ln_Lf6_924, Nat.reduceAdd, Nat.reduceLT, Nat.reduceSub, ↓reduceIte, Nat.reduceLeDiff]
set_option maxRecDepth 100000 in
theorem w0_63 : (Lf11 tA b)[63]? = some (cel tA (adrF ks b) M00 63) := by
  rw [g11_63]
  rfl
theorem g11_64 {q : Nat} : (Lf11 tA q)[64]? = (Lf10 tA (q + 60))[4]? := by
  simp only [Lf11, List.getElem?_append, List.length_append, List.length_cons, List.length_nil, len_5, len_0, len_10, len_2, len_9, len_13, len_8, len_3, len_4, ln_Lf7, ln_Lf1, ln_Lf6_24, ln_Lf6_924, Nat.reduceAdd, Nat.reduceLT, Nat.reduceSub, ↓reduceIte, Nat.reduceLeDiff]
set_option maxRecDepth 100000 in
theorem w0_64 : (Lf11 tA b)[64]? = some (cel tA (adrF ks b) M00 64) := by
  rw [g11_64]
  rfl
theorem g11_65 {q : Nat} : (Lf11 tA q)[65]? = (Lf10 tA (q + 60))[5]? := by
  simp only [Lf11, List.getElem?_append, List.length_append, List.length_cons, List.length_nil, len_5, len_0, len_10, len_2, len_9, len_13, len_8, len_3, len_4, ln_Lf7, ln_Lf1, ln_Lf6_24, ln_Lf6_924, Nat.reduceAdd, Nat.reduceLT, Nat.reduceSub, ↓reduceIte, Nat.reduceLeDiff]
set_option maxRecDepth 100000 in
theorem w0_65 : (Lf11 tA b)[65]? = some (cel tA (adrF ks b) M00 65) := by
  rw [g11_65]
  rfl
theorem g11_66 {q : Nat} : (Lf11 tA q)[66]? = (Lf10 tA (q + 60))[6]? := by
  simp only [Lf11, List.getElem?_append, List.length_append, List.length_cons, List.length_nil, len_5, len_0, len_10, len_2, len_9, len_13, len_8, len_3, len_4, ln_Lf7, ln_Lf1, ln_Lf6_24, ln_Lf6_924, Nat.reduceAdd, Nat.reduceLT, Nat.reduceSub, ↓reduceIte, Nat.reduceLeDiff]
set_option maxRecDepth 100000 in
theorem w0_66 : (Lf11 tA b)[66]? = some (cel tA (adrF ks b) M00 66) := by
  rw [g11_66]
  rfl
theorem g11_67 {q : Nat} : (Lf11 tA q)[67]? = (Lf10 tA (q + 60))[7]? := by
  simp only [Lf11, List.getElem?_append, List.length_append, List.length_cons, List.length_nil, len_5, len_0, len_10, len_2, len_9, len_13, len_8, len_3, len_4, ln_Lf7, ln_Lf1, ln_Lf6_24, ln_Lf6_924, Nat.reduceAdd, Nat.reduceLT, Nat.reduceSub, ↓reduceIte, Nat.reduceLeDiff]
set_option maxRecDepth 100000 in
theorem w0_67 : (Lf11 tA b)[67]? = some (cel tA (adrF ks b) M00 67) := by
  rw [g11_67]
  rfl
theorem g11_68 {q : Nat} : (Lf11 tA q)[68]? = (Lf2 tA (q + 68))[0]? := by
  simp only [Lf11, List.getElem?_append, List.length_append, List.length_cons, List.length_nil, len_5, len_0, len_10, len_2, len_9, len_13, len_8, len_3, len_4, ln_Lf7, ln_Lf1, ln_Lf6_24, ln_Lf6_924, Nat.reduceAdd, Nat.reduceLT, Nat.reduceSub, ↓reduceIte, Nat.reduceLeDiff]
set_option maxRecDepth 100000 in
theorem w0_68 : (Lf11 tA b)[68]? = some (cel tA (adrF ks b) M00 68) := by
  rw [g11_68]
  rfl
theorem g11_69 {q : Nat} : (Lf11 tA q)[69]? = (Lf2 tA (q + 68))[1]? := by
  simp only [Lf11, List.getElem?_append, List.length_append, List.length_cons, List.length_nil, len_5, len_0, len_10, len_2, len_9, len_13, len_8, len_3, len_4, ln_Lf7, ln_Lf1, ln_Lf6_24, ln_Lf6_924, Nat.reduceAdd, Nat.reduceLT, Nat.reduceSub, ↓reduceIte, Nat.reduceLeDiff]
set_option maxRecDepth 100000 in
theorem w0_69 : (Lf11 tA b)[69]? = some (cel tA (adrF ks b) M00 69) := by
  rw [g11_69]
  rfl
theorem g11_70 {q : Nat} : (Lf11 tA q)[70]? = (Lf2 tA (q + 68))[2]? := by
  simp only [Lf11, List.getElem?_append, List.length_append, List.length_cons, List.length_nil, len_5, len_0, len_10, len_2, len_9, len_13, len_8, len_3, len_4, ln_Lf7, ln_Lf1, ln_Lf6_24, ln_Lf6_924, Nat.reduceAdd, Nat.reduceLT, Nat.reduceSub, ↓reduceIte, Nat.reduceLeDiff]
set_option maxRecDepth 100000 in
theorem w0_70 : (Lf11 tA b)[70]? = some (cel tA (adrF ks b) M00 70) := by
  rw [g11_70]
  rfl
theorem g11_71 {q : Nat} : (Lf11 tA q)[71]? = (Lf2 tA (q + 68))[3]? := by
  simp only [Lf11, List.getElem?_append, List.length_append, List.length_cons, List.length_nil, len_5, len_0, len_10, len_2, len_9, len_13, len_8, len_3, len_4, ln_Lf7, ln_Lf1, ln_Lf6_24, ln_Lf6_924, Nat.reduceAdd, Nat.reduceLT, Nat.reduceSub, ↓reduceIte, Nat.reduceLeDiff]
set_option maxRecDepth 100000 in
theorem w0_71 : (Lf11 tA b)[71]? = some (cel tA (adrF ks b) M00 71) := by
  rw [g11_71]
  rfl
theorem g11_72 {q : Nat} : (Lf11 tA q)[72]? = (Lf2 tA (q + 68))[4]? := by
  simp only [Lf11, List.getElem?_append, List.length_append, List.length_cons, List.length_nil, len_5, len_0, len_10, len_2, len_9, len_13, len_8, len_3, len_4, ln_Lf7, ln_Lf1, ln_Lf6_24, ln_Lf6_924, Nat.reduceAdd, Nat.reduceLT, Nat.reduceSub, ↓reduceIte, Nat.reduceLeDiff]
set_option maxRecDepth 100000 in
theorem w0_72 : (Lf11 tA b)[72]? = some (cel tA (adrF ks b) M00 72) := by
  rw [g11_72]
  rfl
theorem g11_73 {q : Nat} : (Lf11 tA q)[73]? = (Lf9 tA (q + 73))[0]? := by
  simp only [Lf11, List.getElem?_append, List.length_append, List.length_cons, List.length_nil, len_5, len_0, len_10, len_2, len_9, len_13, len_8, len_3, len_4, ln_Lf7, ln_Lf1, ln_Lf6_24, ln_Lf6_924, Nat.reduceAdd, Nat.reduceLT, Nat.reduceSub, ↓reduceIte, Nat.reduceLeDiff]
set_option maxRecDepth 100000 in
theorem w0_73 : (Lf11 tA b)[73]? = some (cel tA (adrF ks b) M00 73) := by
  rw [g11_73]
  rfl
theorem g11_74 {q : Nat} : (Lf11 tA q)[74]? = (Lf9 tA (q + 73))[1]? := by
  simp only [Lf11, List.getElem?_append, List.length_append, List.length_cons, List.length_nil, len_5, len_0, len_10, len_2, len_9, len_13, len_8, len_3, len_4, ln_Lf7, ln_Lf1, ln_Lf6_24, ln_Lf6_924, Nat.reduceAdd, Nat.reduceLT, Nat.reduceSub, ↓reduceIte, Nat.reduceLeDiff]
set_option maxRecDepth 100000 in
theorem w0_74 : (Lf11 tA b)[74]? = some (cel tA (adrF ks b) M00 74) := by
  rw [g11_74]
  rfl
theorem g11_75 {q : Nat} : (Lf11 tA q)[75]? = (Lf9 tA (q + 73))[2]? := by
  simp only [Lf11, List.getElem?_append, List.length_append, List.length_cons, List.length_nil, len_5, len_0, len_10, len_2, len_9, len_13, len_8, len_3, len_4, ln_Lf7, ln_Lf1, ln_Lf6_24, ln_Lf6_924, Nat.reduceAdd, Nat.reduceLT, Nat.reduceSub, ↓reduceIte, Nat.reduceLeDiff]
set_option maxRecDepth 100000 in
theorem w0_75 : (Lf11 tA b)[75]? = some (cel tA (adrF ks b) M00 75) := by
  rw [g11_75]
  rfl
theorem g11_78 {q : Nat} : (Lf11 tA q)[78]? = (Lf8 tA (q + 78))[0]? := by
  simp only [Lf11, List.getElem?_append, List.length_append, List.length_cons, List.length_nil, len_5, len_0, len_10, len_2, len_9, len_13, len_8, len_3, len_4, ln_Lf7, ln_Lf1, ln_Lf6_24, ln_Lf6_924, Nat.reduceAdd, Nat.reduceLT, Nat.reduceSub, ↓reduceIte, Nat.reduceLeDiff]
set_option maxRecDepth 100000 in
theorem w0_76 : (Lf11 tA b)[78]? = some (cel tA (adrF ks b) M00 76) := by
  rw [g11_78]
  simp only [Lf8, List.getElem?_append, List.length_append, List.length_cons, List.length_nil, len_5, len_0, len_10, len_2, len_9, len_13, len_8, len_3, len_4, ln_Lf7, ln_Lf1, ln_Lf6_24, ln_Lf6_924, Nat.reduceAdd, Nat.reduceLT, Nat.reduceSub, ↓reduceIte, Nat.reduceLeDiff]
  rfl
theorem g11_79 {q : Nat} : (Lf11 tA q)[79]? = (Lf8 tA (q + 78))[1]? := by
  simp only [Lf11, List.getElem?_append, List.length_append, List.length_cons, List.length_nil, len_5, len_0, len_10, len_2, len_9, len_13, len_8, len_3, len_4, ln_Lf7, ln_Lf1, ln_Lf6_24, ln_Lf6_924, Nat.reduceAdd, Nat.reduceLT, Nat.reduceSub, ↓reduceIte, Nat.reduceLeDiff]
set_option maxRecDepth 100000 in
theorem w0_77 : (Lf11 tA b)[79]? = some (cel tA (adrF ks b) M00 77) := by
  rw [g11_79]
  simp only [Lf8, List.getElem?_append, List.length_append, List.length_cons, List.length_nil, len_5, len_0, len_10, len_2, len_9, len_13, len_8, len_3, len_4, ln_Lf7, ln_Lf1, ln_Lf6_24, ln_Lf6_924, Nat.reduceAdd, Nat.reduceLT, Nat.reduceSub, ↓reduceIte, Nat.reduceLeDiff]
  have hR : ([b + 78 + 6, b + 78 + 9, b + 78 + 12, b + 78 + 15, b + 78 + 18, b + 78 + 21, b + 78 + 24, b + 78 + 27] : List Nat) = [82, 85, 88, 91, 94, 97, 100, 103].map (adrF ks b) := by
    simp [adrF]
  show _ = some (Sum.inl (tA 2, (8, Sum.inr (Sum.inr (Sum.inr (Sum.inr (fun j => (([82, 85, 88, 91, 94, 97, 100, 103] : List Nat)[j]?).map (adrF ks b))))))))
  have hF : (fun j : Nat => (([82, 85, 88, 91, 94, 97, 100, 103] : List Nat)[j]?).map (adrF ks b)) = fun j => ([b + 78 + 6, b + 78 + 9, b + 78 + 12, b + 78 + 15, b + 78 + 18, b + 78 + 21, b + 78 + 24, b + 78 + 27] : List Nat)[j]? := by
    funext j
    rw [hR, List.getElem?_map]
  rw [hF, ← tm8 (b + 78)]
  rfl
theorem g11_80 {q : Nat} : (Lf11 tA q)[80]? = (Lf8 tA (q + 78))[2]? := by
  simp only [Lf11, List.getElem?_append, List.length_append, List.length_cons, List.length_nil, len_5, len_0, len_10, len_2, len_9, len_13, len_8, len_3, len_4, ln_Lf7, ln_Lf1, ln_Lf6_24, ln_Lf6_924, Nat.reduceAdd, Nat.reduceLT, Nat.reduceSub, ↓reduceIte, Nat.reduceLeDiff]
set_option maxRecDepth 100000 in
theorem w0_78 : (Lf11 tA b)[80]? = some (cel tA (adrF ks b) M00 78) := by
  rw [g11_80, g8_2]
  rfl
theorem g11_81 {q : Nat} : (Lf11 tA q)[81]? = (Lf8 tA (q + 78))[3]? := by
  simp only [Lf11, List.getElem?_append, List.length_append, List.length_cons, List.length_nil, len_5, len_0, len_10, len_2, len_9, len_13, len_8, len_3, len_4, ln_Lf7, ln_Lf1, ln_Lf6_24, ln_Lf6_924, Nat.reduceAdd, Nat.reduceLT, Nat.reduceSub, ↓reduceIte, Nat.reduceLeDiff]
set_option maxRecDepth 100000 in
theorem w0_79 : (Lf11 tA b)[81]? = some (cel tA (adrF ks b) M00 79) := by
  rw [g11_81, g8_3]
  rfl
theorem g11_82 {q : Nat} : (Lf11 tA q)[82]? = (Lf8 tA (q + 78))[4]? := by
  simp only [Lf11, List.getElem?_append, List.length_append, List.length_cons, List.length_nil, len_5, len_0, len_10, len_2, len_9, len_13, len_8, len_3, len_4, ln_Lf7, ln_Lf1, ln_Lf6_24, ln_Lf6_924, Nat.reduceAdd, Nat.reduceLT, Nat.reduceSub, ↓reduceIte, Nat.reduceLeDiff]
set_option maxRecDepth 100000 in
theorem w0_80 : (Lf11 tA b)[82]? = some (cel tA (adrF ks b) M00 80) := by
  rw [g11_82, g8_4]
  rfl
theorem g11_83 {q : Nat} : (Lf11 tA q)[83]? = (Lf8 tA (q + 78))[5]? := by
  simp only [Lf11, List.getElem?_append, List.length_append, List.length_cons, List.length_nil, len_5, len_0, len_10, len_2, len_9, len_13, len_8, len_3, len_4, ln_Lf7, ln_Lf1, ln_Lf6_24, ln_Lf6_924, Nat.reduceAdd, Nat.reduceLT, Nat.reduceSub, ↓reduceIte, Nat.reduceLeDiff]
set_option maxRecDepth 100000 in
theorem w0_81 : (Lf11 tA b)[83]? = some (cel tA (adrF ks b) M00 81) := by
  rw [g11_83]
  simp only [Lf8, List.getElem?_append, List.length_append, List.length_cons, List.length_nil, len_5, len_0, len_10, len_2, len_9, len_13, len_8, len_3, len_4, ln_Lf7, ln_Lf1, ln_Lf6_24, ln_Lf6_924, Nat.reduceAdd, Nat.reduceLT, Nat.reduceSub, ↓reduceIte, Nat.reduceLeDiff]
  have hM : ∀ j, M00 81 j = if j < 8 then -1 else 0 := fun j => by simp [M00]
  show _ = some (Sum.inl (tA 0, (8, Sum.inl (fun j => iN (M00 81 j)))))
  simp only [hM, ← yr8]
  rfl
theorem g11_84 {q : Nat} : (Lf11 tA q)[84]? = (Lf8 tA (q + 78))[6]? := by
  simp only [Lf11, List.getElem?_append, List.length_append, List.length_cons, List.length_nil, len_5, len_0, len_10, len_2, len_9, len_13, len_8, len_3, len_4, ln_Lf7, ln_Lf1, ln_Lf6_24, ln_Lf6_924, Nat.reduceAdd, Nat.reduceLT, Nat.reduceSub, ↓reduceIte, Nat.reduceLeDiff]
set_option maxRecDepth 100000 in
theorem w0_82 : (Lf11 tA b)[84]? = some (cel tA (adrF ks b) M00 82) := by
  rw [g11_84, g8_6]
  rfl
theorem g11_85 {q : Nat} : (Lf11 tA q)[85]? = (Lf8 tA (q + 78))[7]? := by
  simp only [Lf11, List.getElem?_append, List.length_append, List.length_cons, List.length_nil, len_5, len_0, len_10, len_2, len_9, len_13, len_8, len_3, len_4, ln_Lf7, ln_Lf1, ln_Lf6_24, ln_Lf6_924, Nat.reduceAdd, Nat.reduceLT, Nat.reduceSub, ↓reduceIte, Nat.reduceLeDiff]
set_option maxRecDepth 100000 in
theorem w0_83 : (Lf11 tA b)[85]? = some (cel tA (adrF ks b) M00 83) := by
  rw [g11_85, g8_7]
  rfl
theorem g11_86 {q : Nat} : (Lf11 tA q)[86]? = (Lf8 tA (q + 78))[8]? := by
  simp only [Lf11, List.getElem?_append, List.length_append, List.length_cons, List.length_nil, len_5, len_0, len_10, len_2, len_9, len_13, len_8, len_3, len_4, ln_Lf7, ln_Lf1, ln_Lf6_24, ln_Lf6_924, Nat.reduceAdd, Nat.reduceLT, Nat.reduceSub, ↓reduceIte, Nat.reduceLeDiff]
set_option maxRecDepth 100000 in
theorem w0_84 : (Lf11 tA b)[86]? = some (cel tA (adrF ks b) M00 84) := by
  rw [g11_86, g8_8]
  rfl
theorem g11_87 {q : Nat} : (Lf11 tA q)[87]? = (Lf8 tA (q + 78))[9]? := by
  simp only [Lf11, List.getElem?_append, List.length_append, List.length_cons, List.length_nil, len_5, len_0, len_10, len_2, len_9, len_13, len_8, len_3, len_4, ln_Lf7, ln_Lf1, ln_Lf6_24, ln_Lf6_924, Nat.reduceAdd, Nat.reduceLT, Nat.reduceSub, ↓reduceIte, Nat.reduceLeDiff]
set_option maxRecDepth 100000 in
theorem w0_85 : (Lf11 tA b)[87]? = some (cel tA (adrF ks b) M00 85) := by
  rw [g11_87, g8_9]
  rfl
theorem g11_88 {q : Nat} : (Lf11 tA q)[88]? = (Lf8 tA (q + 78))[10]? := by
  simp only [Lf11, List.getElem?_append, List.length_append, List.length_cons, List.length_nil, len_5, len_0, len_10, len_2, len_9, len_13, len_8, len_3, len_4, ln_Lf7, ln_Lf1, ln_Lf6_24, ln_Lf6_924, Nat.reduceAdd, Nat.reduceLT, Nat.reduceSub, ↓reduceIte, Nat.reduceLeDiff]
set_option maxRecDepth 100000 in
theorem w0_86 : (Lf11 tA b)[88]? = some (cel tA (adrF ks b) M00 86) := by
  rw [g11_88, g8_10]
  rfl
theorem g11_89 {q : Nat} : (Lf11 tA q)[89]? = (Lf8 tA (q + 78))[11]? := by
  simp only [Lf11, List.getElem?_append, List.length_append, List.length_cons, List.length_nil, len_5, len_0, len_10, len_2, len_9, len_13, len_8, len_3, len_4, ln_Lf7, ln_Lf1, ln_Lf6_24, ln_Lf6_924, Nat.reduceAdd, Nat.reduceLT, Nat.reduceSub, ↓reduceIte, Nat.reduceLeDiff]
set_option maxRecDepth 100000 in
theorem w0_87 : (Lf11 tA b)[89]? = some (cel tA (adrF ks b) M00 87) := by
  rw [g11_89, g8_11]
  rfl
theorem g11_90 {q : Nat} : (Lf11 tA q)[90]? = (Lf8 tA (q + 78))[12]? := by
  simp only [Lf11, List.getElem?_append, List.length_append, List.length_cons, List.length_nil, len_5, len_0, len_10, len_2, len_9, len_13, len_8, len_3, len_4, ln_Lf7, ln_Lf1, ln_Lf6_24, ln_Lf6_924, Nat.reduceAdd, Nat.reduceLT, Nat.reduceSub, ↓reduceIte, Nat.reduceLeDiff]
set_option maxRecDepth 100000 in
theorem w0_88 : (Lf11 tA b)[90]? = some (cel tA (adrF ks b) M00 88) := by
  rw [g11_90, g8_12]
  rfl
theorem g11_91 {q : Nat} : (Lf11 tA q)[91]? = (Lf8 tA (q + 78))[13]? := by
  simp only [Lf11, List.getElem?_append, List.length_append, List.length_cons, List.length_nil, len_5, len_0, len_10, len_2, len_9, len_13, len_8, len_3, len_4, ln_Lf7, ln_Lf1, ln_Lf6_24, ln_Lf6_924, Nat.reduceAdd, Nat.reduceLT, Nat.reduceSub, ↓reduceIte, Nat.reduceLeDiff]
set_option maxRecDepth 100000 in
theorem w0_89 : (Lf11 tA b)[91]? = some (cel tA (adrF ks b) M00 89) := by
  rw [g11_91, g8_13]
  rfl
theorem g11_92 {q : Nat} : (Lf11 tA q)[92]? = (Lf8 tA (q + 78))[14]? := by
  simp only [Lf11, List.getElem?_append, List.length_append, List.length_cons, List.length_nil, len_5, len_0, len_10, len_2, len_9, len_13, len_8, len_3, len_4, ln_Lf7, ln_Lf1, ln_Lf6_24, ln_Lf6_924, Nat.reduceAdd, Nat.reduceLT, Nat.reduceSub, ↓reduceIte, Nat.reduceLeDiff]
set_option maxRecDepth 100000 in
theorem w0_90 : (Lf11 tA b)[92]? = some (cel tA (adrF ks b) M00 90) := by
  rw [g11_92, g8_14]
  rfl
theorem g11_93 {q : Nat} : (Lf11 tA q)[93]? = (Lf8 tA (q + 78))[15]? := by
  simp only [Lf11, List.getElem?_append, List.length_append, List.length_cons, List.length_nil, len_5, len_0, len_10, len_2, len_9, len_13, len_8, len_3, len_4, ln_Lf7, ln_Lf1, ln_Lf6_24, ln_Lf6_924, Nat.reduceAdd, Nat.reduceLT, Nat.reduceSub, ↓reduceIte, Nat.reduceLeDiff]
set_option maxRecDepth 100000 in
theorem w0_91 : (Lf11 tA b)[93]? = some (cel tA (adrF ks b) M00 91) := by
  rw [g11_93, g8_15]
  rfl
theorem g11_94 {q : Nat} : (Lf11 tA q)[94]? = (Lf8 tA (q + 78))[16]? := by
  simp only [Lf11, List.getElem?_append, List.length_append, List.length_cons, List.length_nil, len_5, len_0, len_10, len_2, len_9, len_13, len_8, len_3, len_4, ln_Lf7, ln_Lf1, ln_Lf6_24, ln_Lf6_924, Nat.reduceAdd, Nat.reduceLT, Nat.reduceSub, ↓reduceIte, Nat.reduceLeDiff]
set_option maxRecDepth 100000 in
theorem w0_92 : (Lf11 tA b)[94]? = some (cel tA (adrF ks b) M00 92) := by
  rw [g11_94, g8_16]
  rfl
theorem g11_95 {q : Nat} : (Lf11 tA q)[95]? = (Lf8 tA (q + 78))[17]? := by
  simp only [Lf11, List.getElem?_append, List.length_append, List.length_cons, List.length_nil, len_5, len_0, len_10, len_2, len_9, len_13, len_8, len_3, len_4, ln_Lf7, ln_Lf1, ln_Lf6_24, ln_Lf6_924, Nat.reduceAdd, Nat.reduceLT, Nat.reduceSub, ↓reduceIte, Nat.reduceLeDiff]
set_option maxRecDepth 100000 in
theorem w0_93 : (Lf11 tA b)[95]? = some (cel tA (adrF ks b) M00 93) := by
  rw [g11_95, g8_17]
  rfl
theorem g11_96 {q : Nat} : (Lf11 tA q)[96]? = (Lf8 tA (q + 78))[18]? := by
  simp only [Lf11, List.getElem?_append, List.length_append, List.length_cons, List.length_nil, len_5, len_0, len_10, len_2, len_9, len_13, len_8, len_3, len_4, ln_Lf7, ln_Lf1, ln_Lf6_24, ln_Lf6_924, Nat.reduceAdd, Nat.reduceLT, Nat.reduceSub, ↓reduceIte, Nat.reduceLeDiff]
set_option maxRecDepth 100000 in
theorem w0_94 : (Lf11 tA b)[96]? = some (cel tA (adrF ks b) M00 94) := by
  rw [g11_96, g8_18]
  rfl
theorem g11_97 {q : Nat} : (Lf11 tA q)[97]? = (Lf8 tA (q + 78))[19]? := by
  simp only [Lf11, List.getElem?_append, List.length_append, List.length_cons, List.length_nil, len_5, len_0, len_10, len_2, len_9, len_13, len_8, len_3, len_4, ln_Lf7, ln_Lf1, ln_Lf6_24, ln_Lf6_924, Nat.reduceAdd, Nat.reduceLT, Nat.reduceSub, ↓reduceIte, Nat.reduceLeDiff]
set_option maxRecDepth 100000 in
theorem w0_95 : (Lf11 tA b)[97]? = some (cel tA (adrF ks b) M00 95) := by
  rw [g11_97, g8_19]
  rfl
theorem g11_98 {q : Nat} : (Lf11 tA q)[98]? = (Lf8 tA (q + 78))[20]? := by
  simp only [Lf11, List.getElem?_append, List.length_append, List.length_cons, List.length_nil, len_5, len_0, len_10, len_2, len_9, len_13, len_8, len_3, len_4, ln_Lf7, ln_Lf1, ln_Lf6_24, ln_Lf6_924, Nat.reduceAdd, Nat.reduceLT, Nat.reduceSub, ↓reduceIte, Nat.reduceLeDiff]
set_option maxRecDepth 100000 in
theorem w0_96 : (Lf11 tA b)[98]? = some (cel tA (adrF ks b) M00 96) := by
  rw [g11_98, g8_20]
  rfl
theorem g11_99 {q : Nat} : (Lf11 tA q)[99]? = (Lf8 tA (q + 78))[21]? := by
  simp only [Lf11, List.getElem?_append, List.length_append, List.length_cons, List.length_nil, len_5, len_0, len_10, len_2, len_9, len_13, len_8, len_3, len_4, ln_Lf7, ln_Lf1, ln_Lf6_24, ln_Lf6_924, Nat.reduceAdd, Nat.reduceLT, Nat.reduceSub, ↓reduceIte, Nat.reduceLeDiff]
set_option maxRecDepth 100000 in
theorem w0_97 : (Lf11 tA b)[99]? = some (cel tA (adrF ks b) M00 97) := by
  rw [g11_99, g8_21]
  rfl
theorem g11_100 {q : Nat} : (Lf11 tA q)[100]? = (Lf8 tA (q + 78))[22]? := by
  simp only [Lf11, List.getElem?_append, List.length_append, List.length_cons, List.length_nil, len_5, len_0, len_10, len_2, len_9, len_13, len_8, len_3, len_4, ln_Lf7, ln_Lf1, ln_Lf6_24, ln_Lf6_924, Nat.reduceAdd, Nat.reduceLT, Nat.reduceSub, ↓reduceIte, Nat.reduceLeDiff]
set_option maxRecDepth 100000 in
theorem w0_98 : (Lf11 tA b)[100]? = some (cel tA (adrF ks b) M00 98) := by
  rw [g11_100, g8_22]
  rfl
theorem g11_101 {q : Nat} : (Lf11 tA q)[101]? = (Lf8 tA (q + 78))[23]? := by
  simp only [Lf11, List.getElem?_append, List.length_append, List.length_cons, List.length_nil, len_5, len_0, len_10, len_2, len_9, len_13, len_8, len_3, len_4, ln_Lf7, ln_Lf1, ln_Lf6_24, ln_Lf6_924, Nat.reduceAdd, Nat.reduceLT, Nat.reduceSub, ↓reduceIte, Nat.reduceLeDiff]
set_option maxRecDepth 100000 in
theorem w0_99 : (Lf11 tA b)[101]? = some (cel tA (adrF ks b) M00 99) := by
  rw [g11_101, g8_23]
  rfl
theorem g11_102 {q : Nat} : (Lf11 tA q)[102]? = (Lf8 tA (q + 78))[24]? := by
  simp only [Lf11, List.getElem?_append, List.length_append, List.length_cons, List.length_nil, len_5, len_0, len_10, len_2, len_9, len_13, len_8, len_3, len_4, ln_Lf7, ln_Lf1, ln_Lf6_24, ln_Lf6_924, Nat.reduceAdd, Nat.reduceLT, Nat.reduceSub, ↓reduceIte, Nat.reduceLeDiff]
set_option maxRecDepth 100000 in
theorem w0_100 : (Lf11 tA b)[102]? = some (cel tA (adrF ks b) M00 100) := by
  rw [g11_102, g8_24]
  rfl
theorem g11_103 {q : Nat} : (Lf11 tA q)[103]? = (Lf8 tA (q + 78))[25]? := by
  simp only [Lf11, List.getElem?_append, List.length_append, List.length_cons, List.length_nil, len_5, len_0, len_10, len_2, len_9, len_13, len_8, len_3, len_4, ln_Lf7, ln_Lf1, ln_Lf6_24, ln_Lf6_924, Nat.reduceAdd, Nat.reduceLT, Nat.reduceSub, ↓reduceIte, Nat.reduceLeDiff]
set_option maxRecDepth 100000 in
theorem w0_101 : (Lf11 tA b)[103]? = some (cel tA (adrF ks b) M00 101) := by
  rw [g11_103, g8_25]
  rfl
theorem g11_104 {q : Nat} : (Lf11 tA q)[104]? = (Lf8 tA (q + 78))[26]? := by
  simp only [Lf11, List.getElem?_append, List.length_append, List.length_cons, List.length_nil, len_5, len_0, len_10, len_2, len_9, len_13, len_8, len_3, len_4, ln_Lf7, ln_Lf1, ln_Lf6_24, ln_Lf6_924, Nat.reduceAdd, Nat.reduceLT, Nat.reduceSub, ↓reduceIte, Nat.reduceLeDiff]
set_option maxRecDepth 100000 in
theorem w0_102 : (Lf11 tA b)[104]? = some (cel tA (adrF ks b) M00 102) := by
  rw [g11_104, g8_26]
  rfl
theorem g11_105 {q : Nat} : (Lf11 tA q)[105]? = (Lf8 tA (q + 78))[27]? := by
  simp only [Lf11, List.getElem?_append, List.length_append, List.length_cons, List.length_nil, len_5, len_0, len_10, len_2, len_9, len_13, len_8, len_3, len_4, ln_Lf7, ln_Lf1, ln_Lf6_24, ln_Lf6_924, Nat.reduceAdd, Nat.reduceLT, Nat.reduceSub, ↓reduceIte, Nat.reduceLeDiff]
set_option maxRecDepth 100000 in
theorem w0_103 : (Lf11 tA b)[105]? = some (cel tA (adrF ks b) M00 103) := by
  rw [g11_105, g8_27]
  rfl
theorem g11_106 {q : Nat} : (Lf11 tA q)[106]? = (Lf8 tA (q + 78))[28]? := by
  simp only [Lf11, List.getElem?_append, List.length_append, List.length_cons, List.length_nil, len_5, len_0, len_10, len_2, len_9, len_13, len_8, len_3, len_4, ln_Lf7, ln_Lf1, ln_Lf6_24, ln_Lf6_924, Nat.reduceAdd, Nat.reduceLT, Nat.reduceSub, ↓reduceIte, Nat.reduceLeDiff]
set_option maxRecDepth 100000 in
theorem w0_104 : (Lf11 tA b)[106]? = some (cel tA (adrF ks b) M00 104) := by
  rw [g11_106, g8_28]
  rfl
theorem g11_107 {q : Nat} : (Lf11 tA q)[107]? = (Lf8 tA (q + 78))[29]? := by
  simp only [Lf11, List.getElem?_append, List.length_append, List.length_cons, List.length_nil, len_5, len_0, len_10, len_2, len_9, len_13, len_8, len_3, len_4, ln_Lf7, ln_Lf1, ln_Lf6_24, ln_Lf6_924, Nat.reduceAdd, Nat.reduceLT, Nat.reduceSub, ↓reduceIte, Nat.reduceLeDiff]
set_option maxRecDepth 100000 in
theorem w0_105 : (Lf11 tA b)[107]? = some (cel tA (adrF ks b) M00 105) := by
  rw [g11_107, g8_29]
  rfl
theorem g11_108 {q : Nat} : (Lf11 tA q)[108]? = (Lf3 tA (q + 108))[0]? := by
  simp only [Lf11, List.getElem?_append, List.length_append, List.length_cons, List.length_nil, len_5, len_0, len_10, len_2, len_9, len_13, len_8, len_3, len_4, ln_Lf7, ln_Lf1, ln_Lf6_24, ln_Lf6_924, Nat.reduceAdd, Nat.reduceLT, Nat.reduceSub, ↓reduceIte, Nat.reduceLeDiff]
set_option maxRecDepth 100000 in
theorem w0_106 : (Lf11 tA b)[108]? = some (cel tA (adrF ks b) M00 106) := by
  rw [g11_108]
  rfl
theorem g11_109 {q : Nat} : (Lf11 tA q)[109]? = (Lf3 tA (q + 108))[1]? := by
  simp only [Lf11, List.getElem?_append, List.length_append, List.length_cons, List.length_nil, len_5, len_0, len_10, len_2, len_9, len_13, len_8, len_3, len_4, ln_Lf7, ln_Lf1, ln_Lf6_24, ln_Lf6_924, Nat.reduceAdd, Nat.reduceLT, Nat.reduceSub, ↓reduceIte, Nat.reduceLeDiff]
set_option maxRecDepth 100000 in
theorem w0_107 : (Lf11 tA b)[109]? = some (cel tA (adrF ks b) M00 107) := by
  rw [g11_109]
  rfl
theorem g11_110 {q : Nat} : (Lf11 tA q)[110]? = (Lf3 tA (q + 108))[2]? := by
  simp only [Lf11, List.getElem?_append, List.length_append, List.length_cons, List.length_nil, len_5, len_0, len_10, len_2, len_9, len_13, len_8, len_3, len_4, ln_Lf7, ln_Lf1, ln_Lf6_24, ln_Lf6_924, Nat.reduceAdd, Nat.reduceLT, Nat.reduceSub, ↓reduceIte, Nat.reduceLeDiff]
set_option maxRecDepth 100000 in
theorem w0_108 : (Lf11 tA b)[110]? = some (cel tA (adrF ks b) M00 108) := by
  rw [g11_110]
  rfl
theorem g11_111 {q : Nat} : (Lf11 tA q)[111]? = (Lf3 tA (q + 108))[3]? := by
  simp only [Lf11, List.getElem?_append, List.length_append, List.length_cons, List.length_nil, len_5, len_0, len_10, len_2, len_9, len_13, len_8, len_3, len_4, ln_Lf7, ln_Lf1, ln_Lf6_24, ln_Lf6_924, Nat.reduceAdd, Nat.reduceLT, Nat.reduceSub, ↓reduceIte, Nat.reduceLeDiff]
set_option maxRecDepth 100000 in
theorem w0_109 : (Lf11 tA b)[111]? = some (cel tA (adrF ks b) M00 109) := by
  rw [g11_111]
  rfl
theorem g11_112 {q : Nat} : (Lf11 tA q)[112]? = (Lf3 tA (q + 108))[4]? := by
  simp only [Lf11, List.getElem?_append, List.length_append, List.length_cons, List.length_nil, len_5, len_0, len_10, len_2, len_9, len_13, len_8, len_3, len_4, ln_Lf7, ln_Lf1, ln_Lf6_24, ln_Lf6_924, Nat.reduceAdd, Nat.reduceLT, Nat.reduceSub, ↓reduceIte, Nat.reduceLeDiff]
set_option maxRecDepth 100000 in
theorem w0_110 : (Lf11 tA b)[112]? = some (cel tA (adrF ks b) M00 110) := by
  rw [g11_112]
  rfl
theorem g11_113 {q : Nat} : (Lf11 tA q)[113]? = (Lf4 tA (q + 113))[0]? := by
  simp only [Lf11, List.getElem?_append, List.length_append, List.length_cons, List.length_nil, len_5, len_0, len_10, len_2, len_9, len_13, len_8, len_3, len_4, ln_Lf7, ln_Lf1, ln_Lf6_24, ln_Lf6_924, Nat.reduceAdd, Nat.reduceLT, Nat.reduceSub, ↓reduceIte, Nat.reduceLeDiff]
set_option maxRecDepth 100000 in
theorem w0_111 : (Lf11 tA b)[113]? = some (cel tA (adrF ks b) M00 111) := by
  rw [g11_113]
  rfl
theorem g11_114 {q : Nat} : (Lf11 tA q)[114]? = (Lf4 tA (q + 113))[1]? := by
  simp only [Lf11, List.getElem?_append, List.length_append, List.length_cons, List.length_nil, len_5, len_0, len_10, len_2, len_9, len_13, len_8, len_3, len_4, ln_Lf7, ln_Lf1, ln_Lf6_24, ln_Lf6_924, Nat.reduceAdd, Nat.reduceLT, Nat.reduceSub, ↓reduceIte, Nat.reduceLeDiff]
set_option maxRecDepth 100000 in
theorem w0_112 : (Lf11 tA b)[114]? = some (cel tA (adrF ks b) M00 112) := by
  rw [g11_114]
  rfl
theorem g11_115 {q : Nat} : (Lf11 tA q)[115]? = (Lf4 tA (q + 113))[2]? := by
  simp only [Lf11, List.getElem?_append, List.length_append, List.length_cons, List.length_nil, len_5, len_0, len_10, len_2, len_9, len_13, len_8, len_3, len_4, ln_Lf7, ln_Lf1, ln_Lf6_24, ln_Lf6_924, Nat.reduceAdd, Nat.reduceLT, Nat.reduceSub, ↓reduceIte, Nat.reduceLeDiff]
set_option maxRecDepth 100000 in
theorem w0_113 : (Lf11 tA b)[115]? = some (cel tA (adrF ks b) M00 113) := by
  rw [g11_115]
  rfl
set_option maxRecDepth 100000 in
theorem w0_114 : (Lf11 tA b)[116]? = some (cel tA (adrF ks b) M00 114) := by
  simp only [Lf11, List.getElem?_append, List.length_append, List.length_cons, List.length_nil, len_5, len_0, len_10, len_2, len_9, len_13, len_8, len_3, len_4, ln_Lf7, ln_Lf1, ln_Lf6_24, ln_Lf6_924, Nat.reduceAdd, Nat.reduceLT, Nat.reduceSub, ↓reduceIte, Nat.reduceLeDiff]
  rfl
theorem g11_117 {q : Nat} : (Lf11 tA q)[117]? = (Lf8 tA (q + 117))[0]? := by
  simp only [Lf11, List.getElem?_append, List.length_append, List.length_cons, List.length_nil, len_5, len_0, len_10, len_2, len_9, len_13, len_8, len_3, len_4, ln_Lf7, ln_Lf1, ln_Lf6_24, ln_Lf6_924, Nat.reduceAdd, Nat.reduceLT, Nat.reduceSub, ↓reduceIte, Nat.reduceLeDiff]
set_option maxRecDepth 100000 in
theorem w0_115 : (Lf11 tA b)[117]? = some (cel tA (adrF ks b) M00 115) := by
  rw [g11_117]
  simp only [Lf8, List.getElem?_append, List.length_append, List.length_cons, List.length_nil, len_5, len_0, len_10, len_2, len_9, len_13, len_8, len_3, len_4, ln_Lf7, ln_Lf1, ln_Lf6_24, ln_Lf6_924, Nat.reduceAdd, Nat.reduceLT, Nat.reduceSub, ↓reduceIte, Nat.reduceLeDiff]
  rfl
theorem g11_118 {q : Nat} : (Lf11 tA q)[118]? = (Lf8 tA (q + 117))[1]? := by
  simp only [Lf11, List.getElem?_append, List.length_append, List.length_cons, List.length_nil, len_5, len_0, len_10, len_2, len_9, len_13, len_8, len_3, len_4, ln_Lf7, ln_Lf1, ln_Lf6_24, ln_Lf6_924, Nat.reduceAdd, Nat.reduceLT, Nat.reduceSub, ↓reduceIte, Nat.reduceLeDiff]
set_option maxRecDepth 100000 in
theorem w0_116 : (Lf11 tA b)[118]? = some (cel tA (adrF ks b) M00 116) := by
  rw [g11_118]
  simp only [Lf8, List.getElem?_append, List.length_append, List.length_cons, List.length_nil, len_5, len_0, len_10, len_2, len_9, len_13, len_8, len_3, len_4, ln_Lf7, ln_Lf1, ln_Lf6_24, ln_Lf6_924, Nat.reduceAdd, Nat.reduceLT, Nat.reduceSub, ↓reduceIte, Nat.reduceLeDiff]
  have hR : ([b + 117 + 6, b + 117 + 9, b + 117 + 12, b + 117 + 15, b + 117 + 18, b + 117 + 21, b + 117 + 24, b + 117 + 27] : List Nat) = [121, 124, 127, 130, 133, 136, 139, 142].map (adrF ks b) := by
    simp [adrF]
  show _ = some (Sum.inl (tA 2, (8, Sum.inr (Sum.inr (Sum.inr (Sum.inr (fun j => (([121, 124, 127, 130, 133, 136, 139, 142] : List Nat)[j]?).map (adrF ks b))))))))
  have hF : (fun j : Nat => (([121, 124, 127, 130, 133, 136, 139, 142] : List Nat)[j]?).map (adrF ks b)) = fun j => ([b + 117 + 6, b + 117 + 9, b + 117 + 12, b + 117 + 15, b + 117 + 18, b + 117 + 21, b + 117 + 24, b + 117 + 27] : List Nat)[j]? := by
    funext j
    rw [hR, List.getElem?_map]
  rw [hF, ← tm8 (b + 117)]
  rfl
theorem g11_119 {q : Nat} : (Lf11 tA q)[119]? = (Lf8 tA (q + 117))[2]? := by
  simp only [Lf11, List.getElem?_append, List.length_append, List.length_cons, List.length_nil, len_5, len_0, len_10, len_2, len_9, len_13, len_8, len_3, len_4, ln_Lf7, ln_Lf1, ln_Lf6_24, ln_Lf6_924, Nat.reduceAdd, Nat.reduceLT, Nat.reduceSub, ↓reduceIte, Nat.reduceLeDiff]
set_option maxRecDepth 100000 in
theorem w0_117 : (Lf11 tA b)[119]? = some (cel tA (adrF ks b) M00 117) := by
  rw [g11_119, g8_2]
  rfl
theorem g11_120 {q : Nat} : (Lf11 tA q)[120]? = (Lf8 tA (q + 117))[3]? := by
  simp only [Lf11, List.getElem?_append, List.length_append, List.length_cons, List.length_nil, len_5, len_0, len_10, len_2, len_9, len_13, len_8, len_3, len_4, ln_Lf7, ln_Lf1, ln_Lf6_24, ln_Lf6_924, Nat.reduceAdd, Nat.reduceLT, Nat.reduceSub, ↓reduceIte, Nat.reduceLeDiff]
set_option maxRecDepth 100000 in
theorem w0_118 : (Lf11 tA b)[120]? = some (cel tA (adrF ks b) M00 118) := by
  rw [g11_120, g8_3]
  rfl
theorem g11_121 {q : Nat} : (Lf11 tA q)[121]? = (Lf8 tA (q + 117))[4]? := by
  simp only [Lf11, List.getElem?_append, List.length_append, List.length_cons, List.length_nil, len_5, len_0, len_10, len_2, len_9, len_13, len_8, len_3, len_4, ln_Lf7, ln_Lf1, ln_Lf6_24, ln_Lf6_924, Nat.reduceAdd, Nat.reduceLT, Nat.reduceSub, ↓reduceIte, Nat.reduceLeDiff]
set_option maxRecDepth 100000 in
theorem w0_119 : (Lf11 tA b)[121]? = some (cel tA (adrF ks b) M00 119) := by
  rw [g11_121, g8_4]
  rfl
theorem g11_122 {q : Nat} : (Lf11 tA q)[122]? = (Lf8 tA (q + 117))[5]? := by
  simp only [Lf11, List.getElem?_append, List.length_append, List.length_cons, List.length_nil, len_5, len_0, len_10, len_2, len_9, len_13, len_8, len_3, len_4, ln_Lf7, ln_Lf1, ln_Lf6_24, ln_Lf6_924, Nat.reduceAdd, Nat.reduceLT, Nat.reduceSub, ↓reduceIte, Nat.reduceLeDiff]
set_option maxRecDepth 100000 in
theorem w0_120 : (Lf11 tA b)[122]? = some (cel tA (adrF ks b) M00 120) := by
  rw [g11_122]
  simp only [Lf8, List.getElem?_append, List.length_append, List.length_cons, List.length_nil, len_5, len_0, len_10, len_2, len_9, len_13, len_8, len_3, len_4, ln_Lf7, ln_Lf1, ln_Lf6_24, ln_Lf6_924, Nat.reduceAdd, Nat.reduceLT, Nat.reduceSub, ↓reduceIte, Nat.reduceLeDiff]
  have hM : ∀ j, M00 120 j = if j < 8 then -1 else 0 := fun j => by simp [M00]
  show _ = some (Sum.inl (tA 0, (8, Sum.inl (fun j => iN (M00 120 j)))))
  simp only [hM, ← yr8]
  rfl
theorem g11_123 {q : Nat} : (Lf11 tA q)[123]? = (Lf8 tA (q + 117))[6]? := by
  simp only [Lf11, List.getElem?_append, List.length_append, List.length_cons, List.length_nil, len_5, len_0, len_10, len_2, len_9, len_13, len_8, len_3, len_4, ln_Lf7, ln_Lf1, ln_Lf6_24, ln_Lf6_924, Nat.reduceAdd, Nat.reduceLT, Nat.reduceSub, ↓reduceIte, Nat.reduceLeDiff]
set_option maxRecDepth 100000 in
theorem w0_121 : (Lf11 tA b)[123]? = some (cel tA (adrF ks b) M00 121) := by
  rw [g11_123, g8_6]
  rfl
theorem g11_124 {q : Nat} : (Lf11 tA q)[124]? = (Lf8 tA (q + 117))[7]? := by
  simp only [Lf11, List.getElem?_append, List.length_append, List.length_cons, List.length_nil, len_5, len_0, len_10, len_2, len_9, len_13, len_8, len_3, len_4, ln_Lf7, ln_Lf1, ln_Lf6_24, ln_Lf6_924, Nat.reduceAdd, Nat.reduceLT, Nat.reduceSub, ↓reduceIte, Nat.reduceLeDiff]
set_option maxRecDepth 100000 in
theorem w0_122 : (Lf11 tA b)[124]? = some (cel tA (adrF ks b) M00 122) := by
  rw [g11_124, g8_7]
  rfl
theorem g11_125 {q : Nat} : (Lf11 tA q)[125]? = (Lf8 tA (q + 117))[8]? := by
  simp only [Lf11, List.getElem?_append, List.length_append, List.length_cons, List.length_nil, len_5, len_0, len_10, len_2, len_9, len_13, len_8, len_3, len_4, ln_Lf7, ln_Lf1, ln_Lf6_24, ln_Lf6_924, Nat.reduceAdd, Nat.reduceLT, Nat.reduceSub, ↓reduceIte, Nat.reduceLeDiff]
set_option maxRecDepth 100000 in
theorem w0_123 : (Lf11 tA b)[125]? = some (cel tA (adrF ks b) M00 123) := by
  rw [g11_125, g8_8]
  rfl
theorem g11_126 {q : Nat} : (Lf11 tA q)[126]? = (Lf8 tA (q + 117))[9]? := by
  simp only [Lf11, List.getElem?_append, List.length_append, List.length_cons, List.length_nil, len_5, len_0, len_10, len_2, len_9, len_13, len_8, len_3, len_4, ln_Lf7, ln_Lf1, ln_Lf6_24, ln_Lf6_924, Nat.reduceAdd, Nat.reduceLT, Nat.reduceSub, ↓reduceIte, Nat.reduceLeDiff]
set_option maxRecDepth 100000 in
theorem w0_124 : (Lf11 tA b)[126]? = some (cel tA (adrF ks b) M00 124) := by
  rw [g11_126, g8_9]
  rfl
theorem g11_127 {q : Nat} : (Lf11 tA q)[127]? = (Lf8 tA (q + 117))[10]? := by
  simp only [Lf11, List.getElem?_append, List.length_append, List.length_cons, List.length_nil, len_5, len_0, len_10, len_2, len_9, len_13, len_8, len_3, len_4, ln_Lf7, ln_Lf1, ln_Lf6_24, ln_Lf6_924, Nat.reduceAdd, Nat.reduceLT, Nat.reduceSub, ↓reduceIte, Nat.reduceLeDiff]
set_option maxRecDepth 100000 in
theorem w0_125 : (Lf11 tA b)[127]? = some (cel tA (adrF ks b) M00 125) := by
  rw [g11_127, g8_10]
  rfl
theorem g11_128 {q : Nat} : (Lf11 tA q)[128]? = (Lf8 tA (q + 117))[11]? := by
  simp only [Lf11, List.getElem?_append, List.length_append, List.length_cons, List.length_nil, len_5, len_0, len_10, len_2, len_9, len_13, len_8, len_3, len_4, ln_Lf7, ln_Lf1, ln_Lf6_24, ln_Lf6_924, Nat.reduceAdd, Nat.reduceLT, Nat.reduceSub, ↓reduceIte, Nat.reduceLeDiff]
set_option maxRecDepth 100000 in
theorem w0_126 : (Lf11 tA b)[128]? = some (cel tA (adrF ks b) M00 126) := by
  rw [g11_128, g8_11]
  rfl
theorem g11_129 {q : Nat} : (Lf11 tA q)[129]? = (Lf8 tA (q + 117))[12]? := by
  simp only [Lf11, List.getElem?_append, List.length_append, List.length_cons, List.length_nil, len_5, len_0, len_10, len_2, len_9, len_13, len_8, len_3, len_4, ln_Lf7, ln_Lf1, ln_Lf6_24, ln_Lf6_924, Nat.reduceAdd, Nat.reduceLT, Nat.reduceSub, ↓reduceIte, Nat.reduceLeDiff]
set_option maxRecDepth 100000 in
theorem w0_127 : (Lf11 tA b)[129]? = some (cel tA (adrF ks b) M00 127) := by
  rw [g11_129, g8_12]
  rfl
theorem g11_130 {q : Nat} : (Lf11 tA q)[130]? = (Lf8 tA (q + 117))[13]? := by
  simp only [Lf11, List.getElem?_append, List.length_append, List.length_cons, List.length_nil, len_5, len_0, len_10, len_2, len_9, len_13, len_8, len_3, len_4, ln_Lf7, ln_Lf1, ln_Lf6_24, ln_Lf6_924, Nat.reduceAdd, Nat.reduceLT, Nat.reduceSub, ↓reduceIte, Nat.reduceLeDiff]
set_option maxRecDepth 100000 in
theorem w0_128 : (Lf11 tA b)[130]? = some (cel tA (adrF ks b) M00 128) := by
  rw [g11_130, g8_13]
  rfl
theorem g11_131 {q : Nat} : (Lf11 tA q)[131]? = (Lf8 tA (q + 117))[14]? := by
  simp only [Lf11, List.getElem?_append, List.length_append, List.length_cons, List.length_nil, len_5, len_0, len_10, len_2, len_9, len_13, len_8, len_3, len_4, ln_Lf7, ln_Lf1, ln_Lf6_24, ln_Lf6_924, Nat.reduceAdd, Nat.reduceLT, Nat.reduceSub, ↓reduceIte, Nat.reduceLeDiff]
set_option maxRecDepth 100000 in
theorem w0_129 : (Lf11 tA b)[131]? = some (cel tA (adrF ks b) M00 129) := by
  rw [g11_131, g8_14]
  rfl
theorem g11_132 {q : Nat} : (Lf11 tA q)[132]? = (Lf8 tA (q + 117))[15]? := by
  simp only [Lf11, List.getElem?_append, List.length_append, List.length_cons, List.length_nil, len_5, len_0, len_10, len_2, len_9, len_13, len_8, len_3, len_4, ln_Lf7, ln_Lf1, ln_Lf6_24, ln_Lf6_924, Nat.reduceAdd, Nat.reduceLT, Nat.reduceSub, ↓reduceIte, Nat.reduceLeDiff]
set_option maxRecDepth 100000 in
theorem w0_130 : (Lf11 tA b)[132]? = some (cel tA (adrF ks b) M00 130) := by
  rw [g11_132, g8_15]
  rfl
theorem g11_133 {q : Nat} : (Lf11 tA q)[133]? = (Lf8 tA (q + 117))[16]? := by
  simp only [Lf11, List.getElem?_append, List.length_append, List.length_cons, List.length_nil, len_5, len_0, len_10, len_2, len_9, len_13, len_8, len_3, len_4, ln_Lf7, ln_Lf1, ln_Lf6_24, ln_Lf6_924, Nat.reduceAdd, Nat.reduceLT, Nat.reduceSub, ↓reduceIte, Nat.reduceLeDiff]
set_option maxRecDepth 100000 in
theorem w0_131 : (Lf11 tA b)[133]? = some (cel tA (adrF ks b) M00 131) := by
  rw [g11_133, g8_16]
  rfl
theorem g11_134 {q : Nat} : (Lf11 tA q)[134]? = (Lf8 tA (q + 117))[17]? := by
  simp only [Lf11, List.getElem?_append, List.length_append, List.length_cons, List.length_nil, len_5, len_0, len_10, len_2, len_9, len_13, len_8, len_3, len_4, ln_Lf7, ln_Lf1, ln_Lf6_24, ln_Lf6_924, Nat.reduceAdd, Nat.reduceLT, Nat.reduceSub, ↓reduceIte, Nat.reduceLeDiff]
set_option maxRecDepth 100000 in
theorem w0_132 : (Lf11 tA b)[134]? = some (cel tA (adrF ks b) M00 132) := by
  rw [g11_134, g8_17]
  rfl
theorem g11_135 {q : Nat} : (Lf11 tA q)[135]? = (Lf8 tA (q + 117))[18]? := by
  simp only [Lf11, List.getElem?_append, List.length_append, List.length_cons, List.length_nil, len_5, len_0, len_10, len_2, len_9, len_13, len_8, len_3, len_4, ln_Lf7, ln_Lf1, ln_Lf6_24, ln_Lf6_924, Nat.reduceAdd, Nat.reduceLT, Nat.reduceSub, ↓reduceIte, Nat.reduceLeDiff]
set_option maxRecDepth 100000 in
theorem w0_133 : (Lf11 tA b)[135]? = some (cel tA (adrF ks b) M00 133) := by
  rw [g11_135, g8_18]
  rfl
theorem g11_136 {q : Nat} : (Lf11 tA q)[136]? = (Lf8 tA (q + 117))[19]? := by
  simp only [Lf11, List.getElem?_append, List.length_append, List.length_cons, List.length_nil, len_5, len_0, len_10, len_2, len_9, len_13, len_8, len_3, len_4, ln_Lf7, ln_Lf1, ln_Lf6_24, ln_Lf6_924, Nat.reduceAdd, Nat.reduceLT, Nat.reduceSub, ↓reduceIte, Nat.reduceLeDiff]
set_option maxRecDepth 100000 in
theorem w0_134 : (Lf11 tA b)[136]? = some (cel tA (adrF ks b) M00 134) := by
  rw [g11_136, g8_19]
  rfl
theorem g11_137 {q : Nat} : (Lf11 tA q)[137]? = (Lf8 tA (q + 117))[20]? := by
  simp only [Lf11, List.getElem?_append, List.length_append, List.length_cons, List.length_nil, len_5, len_0, len_10, len_2, len_9, len_13, len_8, len_3, len_4, ln_Lf7, ln_Lf1, ln_Lf6_24, ln_Lf6_924, Nat.reduceAdd, Nat.reduceLT, Nat.reduceSub, ↓reduceIte, Nat.reduceLeDiff]
set_option maxRecDepth 100000 in
theorem w0_135 : (Lf11 tA b)[137]? = some (cel tA (adrF ks b) M00 135) := by
  rw [g11_137, g8_20]
  rfl
theorem g11_138 {q : Nat} : (Lf11 tA q)[138]? = (Lf8 tA (q + 117))[21]? := by
  simp only [Lf11, List.getElem?_append, List.length_append, List.length_cons, List.length_nil, len_5, len_0, len_10, len_2, len_9, len_13, len_8, len_3, len_4, ln_Lf7, ln_Lf1, ln_Lf6_24, ln_Lf6_924, Nat.reduceAdd, Nat.reduceLT, Nat.reduceSub, ↓reduceIte, Nat.reduceLeDiff]
set_option maxRecDepth 100000 in
theorem w0_136 : (Lf11 tA b)[138]? = some (cel tA (adrF ks b) M00 136) := by
  rw [g11_138, g8_21]
  rfl
theorem g11_139 {q : Nat} : (Lf11 tA q)[139]? = (Lf8 tA (q + 117))[22]? := by
  simp only [Lf11, List.getElem?_append, List.length_append, List.length_cons, List.length_nil, len_5, len_0, len_10, len_2, len_9, len_13, len_8, len_3, len_4, ln_Lf7, ln_Lf1, ln_Lf6_24, ln_Lf6_924, Nat.reduceAdd, Nat.reduceLT, Nat.reduceSub, ↓reduceIte, Nat.reduceLeDiff]
set_option maxRecDepth 100000 in
theorem w0_137 : (Lf11 tA b)[139]? = some (cel tA (adrF ks b) M00 137) := by
  rw [g11_139, g8_22]
  rfl
theorem g11_140 {q : Nat} : (Lf11 tA q)[140]? = (Lf8 tA (q + 117))[23]? := by
  simp only [Lf11, List.getElem?_append, List.length_append, List.length_cons, List.length_nil, len_5, len_0, len_10, len_2, len_9, len_13, len_8, len_3, len_4, ln_Lf7, ln_Lf1, ln_Lf6_24, ln_Lf6_924, Nat.reduceAdd, Nat.reduceLT, Nat.reduceSub, ↓reduceIte, Nat.reduceLeDiff]
set_option maxRecDepth 100000 in
theorem w0_138 : (Lf11 tA b)[140]? = some (cel tA (adrF ks b) M00 138) := by
  rw [g11_140, g8_23]
  rfl
theorem g11_141 {q : Nat} : (Lf11 tA q)[141]? = (Lf8 tA (q + 117))[24]? := by
  simp only [Lf11, List.getElem?_append, List.length_append, List.length_cons, List.length_nil, len_5, len_0, len_10, len_2, len_9, len_13, len_8, len_3, len_4, ln_Lf7, ln_Lf1, ln_Lf6_24, ln_Lf6_924, Nat.reduceAdd, Nat.reduceLT, Nat.reduceSub, ↓reduceIte, Nat.reduceLeDiff]
set_option maxRecDepth 100000 in
theorem w0_139 : (Lf11 tA b)[141]? = some (cel tA (adrF ks b) M00 139) := by
  rw [g11_141, g8_24]
  rfl
theorem g11_142 {q : Nat} : (Lf11 tA q)[142]? = (Lf8 tA (q + 117))[25]? := by
  simp only [Lf11, List.getElem?_append, List.length_append, List.length_cons, List.length_nil, len_5, len_0, len_10, len_2, len_9, len_13, len_8, len_3, len_4, ln_Lf7, ln_Lf1, ln_Lf6_24, ln_Lf6_924, Nat.reduceAdd, Nat.reduceLT, Nat.reduceSub, ↓reduceIte, Nat.reduceLeDiff]
set_option maxRecDepth 100000 in
theorem w0_140 : (Lf11 tA b)[142]? = some (cel tA (adrF ks b) M00 140) := by
  rw [g11_142, g8_25]
  rfl
theorem g11_143 {q : Nat} : (Lf11 tA q)[143]? = (Lf8 tA (q + 117))[26]? := by
  simp only [Lf11, List.getElem?_append, List.length_append, List.length_cons, List.length_nil, len_5, len_0, len_10, len_2, len_9, len_13, len_8, len_3, len_4, ln_Lf7, ln_Lf1, ln_Lf6_24, ln_Lf6_924, Nat.reduceAdd, Nat.reduceLT, Nat.reduceSub, ↓reduceIte, Nat.reduceLeDiff]
set_option maxRecDepth 100000 in
theorem w0_141 : (Lf11 tA b)[143]? = some (cel tA (adrF ks b) M00 141) := by
  rw [g11_143, g8_26]
  rfl
theorem g11_144 {q : Nat} : (Lf11 tA q)[144]? = (Lf8 tA (q + 117))[27]? := by
  simp only [Lf11, List.getElem?_append, List.length_append, List.length_cons, List.length_nil, len_5, len_0, len_10, len_2, len_9, len_13, len_8, len_3, len_4, ln_Lf7, ln_Lf1, ln_Lf6_24, ln_Lf6_924, Nat.reduceAdd, Nat.reduceLT, Nat.reduceSub, ↓reduceIte, Nat.reduceLeDiff]
set_option maxRecDepth 100000 in
theorem w0_142 : (Lf11 tA b)[144]? = some (cel tA (adrF ks b) M00 142) := by
  rw [g11_144, g8_27]
  rfl
theorem g11_145 {q : Nat} : (Lf11 tA q)[145]? = (Lf8 tA (q + 117))[28]? := by
  simp only [Lf11, List.getElem?_append, List.length_append, List.length_cons, List.length_nil, len_5, len_0, len_10, len_2, len_9, len_13, len_8, len_3, len_4, ln_Lf7, ln_Lf1, ln_Lf6_24, ln_Lf6_924, Nat.reduceAdd, Nat.reduceLT, Nat.reduceSub, ↓reduceIte, Nat.reduceLeDiff]
set_option maxRecDepth 100000 in
theorem w0_143 : (Lf11 tA b)[145]? = some (cel tA (adrF ks b) M00 143) := by
  rw [g11_145, g8_28]
  rfl
theorem g11_146 {q : Nat} : (Lf11 tA q)[146]? = (Lf8 tA (q + 117))[29]? := by
  simp only [Lf11, List.getElem?_append, List.length_append, List.length_cons, List.length_nil, len_5, len_0, len_10, len_2, len_9, len_13, len_8, len_3, len_4, ln_Lf7, ln_Lf1, ln_Lf6_24, ln_Lf6_924, Nat.reduceAdd, Nat.reduceLT, Nat.reduceSub, ↓reduceIte, Nat.reduceLeDiff]
set_option maxRecDepth 100000 in
theorem w0_144 : (Lf11 tA b)[146]? = some (cel tA (adrF ks b) M00 144) := by
  rw [g11_146, g8_29]
  rfl
theorem g11_147 {q : Nat} : (Lf11 tA q)[147]? = (Lf3 tA (q + 147))[0]? := by
  simp only [Lf11, List.getElem?_append, List.length_append, List.length_cons, List.length_nil, len_5, len_0, len_10, len_2, len_9, len_13, len_8, len_3, len_4, ln_Lf7, ln_Lf1, ln_Lf6_24, ln_Lf6_924, Nat.reduceAdd, Nat.reduceLT, Nat.reduceSub, ↓reduceIte, Nat.reduceLeDiff]
set_option maxRecDepth 100000 in
theorem w0_145 : (Lf11 tA b)[147]? = some (cel tA (adrF ks b) M00 145) := by
  rw [g11_147]
  rfl
theorem g11_148 {q : Nat} : (Lf11 tA q)[148]? = (Lf3 tA (q + 147))[1]? := by
  simp only [Lf11, List.getElem?_append, List.length_append, List.length_cons, List.length_nil, len_5, len_0, len_10, len_2, len_9, len_13, len_8, len_3, len_4, ln_Lf7, ln_Lf1, ln_Lf6_24, ln_Lf6_924, Nat.reduceAdd, Nat.reduceLT, Nat.reduceSub, ↓reduceIte, Nat.reduceLeDiff]
set_option maxRecDepth 100000 in
theorem w0_146 : (Lf11 tA b)[148]? = some (cel tA (adrF ks b) M00 146) := by
  rw [g11_148]
  rfl
theorem g11_149 {q : Nat} : (Lf11 tA q)[149]? = (Lf3 tA (q + 147))[2]? := by
  simp only [Lf11, List.getElem?_append, List.length_append, List.length_cons, List.length_nil, len_5, len_0, len_10, len_2, len_9, len_13, len_8, len_3, len_4, ln_Lf7, ln_Lf1, ln_Lf6_24, ln_Lf6_924, Nat.reduceAdd, Nat.reduceLT, Nat.reduceSub, ↓reduceIte, Nat.reduceLeDiff]
set_option maxRecDepth 100000 in
theorem w0_147 : (Lf11 tA b)[149]? = some (cel tA (adrF ks b) M00 147) := by
  rw [g11_149]
  rfl
theorem g11_150 {q : Nat} : (Lf11 tA q)[150]? = (Lf3 tA (q + 147))[3]? := by
  simp only [Lf11, List.getElem?_append, List.length_append, List.length_cons, List.length_nil, len_5, len_0, len_10, len_2, len_9, len_13, len_8, len_3, len_4, ln_Lf7, ln_Lf1, ln_Lf6_24, ln_Lf6_924, Nat.reduceAdd, Nat.reduceLT, Nat.reduceSub, ↓reduceIte, Nat.reduceLeDiff]
set_option maxRecDepth 100000 in
theorem w0_148 : (Lf11 tA b)[150]? = some (cel tA (adrF ks b) M00 148) := by
  rw [g11_150]
  rfl
theorem g11_151 {q : Nat} : (Lf11 tA q)[151]? = (Lf3 tA (q + 147))[4]? := by
  simp only [Lf11, List.getElem?_append, List.length_append, List.length_cons, List.length_nil, len_5, len_0, len_10, len_2, len_9, len_13, len_8, len_3, len_4, ln_Lf7, ln_Lf1, ln_Lf6_24, ln_Lf6_924, Nat.reduceAdd, Nat.reduceLT, Nat.reduceSub, ↓reduceIte, Nat.reduceLeDiff]
set_option maxRecDepth 100000 in
theorem w0_149 : (Lf11 tA b)[151]? = some (cel tA (adrF ks b) M00 149) := by
  rw [g11_151]
  rfl
theorem g11_152 {q : Nat} : (Lf11 tA q)[152]? = (Lf4 tA (q + 152))[0]? := by
  simp only [Lf11, List.getElem?_append, List.length_append, List.length_cons, List.length_nil, len_5, len_0, len_10, len_2, len_9, len_13, len_8, len_3, len_4, ln_Lf7, ln_Lf1, ln_Lf6_24, ln_Lf6_924, Nat.reduceAdd, Nat.reduceLT, Nat.reduceSub, ↓reduceIte, Nat.reduceLeDiff]
set_option maxRecDepth 100000 in
theorem w0_150 : (Lf11 tA b)[152]? = some (cel tA (adrF ks b) M00 150) := by
  rw [g11_152]
  rfl
theorem g11_153 {q : Nat} : (Lf11 tA q)[153]? = (Lf4 tA (q + 152))[1]? := by
  simp only [Lf11, List.getElem?_append, List.length_append, List.length_cons, List.length_nil, len_5, len_0, len_10, len_2, len_9, len_13, len_8, len_3, len_4, ln_Lf7, ln_Lf1, ln_Lf6_24, ln_Lf6_924, Nat.reduceAdd, Nat.reduceLT, Nat.reduceSub, ↓reduceIte, Nat.reduceLeDiff]
set_option maxRecDepth 100000 in
theorem w0_151 : (Lf11 tA b)[153]? = some (cel tA (adrF ks b) M00 151) := by
  rw [g11_153]
  rfl
theorem g11_154 {q : Nat} : (Lf11 tA q)[154]? = (Lf4 tA (q + 152))[2]? := by
  simp only [Lf11, List.getElem?_append, List.length_append, List.length_cons, List.length_nil, len_5, len_0, len_10, len_2, len_9, len_13, len_8, len_3, len_4, ln_Lf7, ln_Lf1, ln_Lf6_24, ln_Lf6_924, Nat.reduceAdd, Nat.reduceLT, Nat.reduceSub, ↓reduceIte, Nat.reduceLeDiff]
set_option maxRecDepth 100000 in
theorem w0_152 : (Lf11 tA b)[154]? = some (cel tA (adrF ks b) M00 152) := by
  rw [g11_154]
  rfl
set_option maxRecDepth 100000 in
theorem w0_153 : (Lf11 tA b)[155]? = some (cel tA (adrF ks b) M00 153) := by
  simp only [Lf11, List.getElem?_append, List.length_append, List.length_cons, List.length_nil, len_5, len_0, len_10, len_2, len_9, len_13, len_8, len_3, len_4, ln_Lf7, ln_Lf1, ln_Lf6_24, ln_Lf6_924, Nat.reduceAdd, Nat.reduceLT, Nat.reduceSub, ↓reduceIte, Nat.reduceLeDiff]
  rfl
set_option maxRecDepth 100000 in
theorem w0_155 : (Lf12 ks tA (b + 156))[1]? = some (cel tA (adrF ks b) M00 155) := by
  have hR : ([ks 0, ks 1, ks 2, ks 3, ks 4, ks 5] : List Nat) = [191, 192, 193, 194, 195, 196].map (adrF ks b) := rfl
  show _ = some (Sum.inl (tA 3, (6, Sum.inr (Sum.inr (Sum.inr (Sum.inr (fun j => (([191, 192, 193, 194, 195, 196] : List Nat)[j]?).map (adrF ks b))))))))
  have hF : (fun j : Nat => (([191, 192, 193, 194, 195, 196] : List Nat)[j]?).map (adrF ks b)) = fun j => ([ks 0, ks 1, ks 2, ks 3, ks 4, ks 5] : List Nat)[j]? := by
    funext j
    rw [hR, List.getElem?_map]
  rw [hF, ← wd6]
  rfl
set_option maxRecDepth 100000 in
theorem w0_156 : (Lf12 ks tA (b + 156))[2]? = some (cel tA (adrF ks b) M00 156) := by
  have hM : ∀ j, M00 156 j = if 1 ≤ j ∧ j < 4 then -1 else 0 := fun j => by simp [M00]
  show _ = some (Sum.inl (tA 0, (4, Sum.inl (fun j => iN (M00 156 j)))))
  simp only [hM, ← td4]
  rfl
set_option maxRecDepth 100000 in
theorem w0_157 : (Lf12 ks tA (b + 156))[3]? = some (cel tA (adrF ks b) M00 157) := by
  rfl
set_option maxRecDepth 100000 in
theorem w0_158 : (Lf12 ks tA (b + 156))[4]? = some (cel tA (adrF ks b) M00 158) := by
  rfl
set_option maxRecDepth 100000 in
theorem w0_159 : (Lf12 ks tA (b + 156))[5]? = some (cel tA (adrF ks b) M00 159) := by
  rfl
set_option maxRecDepth 100000 in
theorem w0_160 : (Lf12 ks tA (b + 156))[6]? = some (cel tA (adrF ks b) M00 160) := by
  rfl
set_option maxRecDepth 100000 in
theorem w0_161 : (Lf12 ks tA (b + 156))[7]? = some (cel tA (adrF ks b) M00 161) := by
  rfl
set_option maxRecDepth 100000 in
theorem w0_162 : (Lf12 ks tA (b + 156))[8]? = some (cel tA (adrF ks b) M00 162) := by
  rfl
set_option maxRecDepth 100000 in
theorem w0_163 : (Lf12 ks tA (b + 156))[9]? = some (cel tA (adrF ks b) M00 163) := by
  rfl
set_option maxRecDepth 100000 in
theorem w0_164 : (Lf12 ks tA (b + 156))[10]? = some (cel tA (adrF ks b) M00 164) := by
  rfl
set_option maxRecDepth 100000 in
theorem w0_165 : (Lf12 ks tA (b + 156))[11]? = some (cel tA (adrF ks b) M00 165) := by
  rfl
set_option maxRecDepth 100000 in
theorem w0_166 : (Lf12 ks tA (b + 156))[12]? = some (cel tA (adrF ks b) M00 166) := by
  rfl
set_option maxRecDepth 100000 in
theorem w0_167 : (Lf12 ks tA (b + 156))[13]? = some (cel tA (adrF ks b) M00 167) := by
  rfl
set_option maxRecDepth 100000 in
theorem w0_168 : (Lf12 ks tA (b + 156))[14]? = some (cel tA (adrF ks b) M00 168) := by
  rfl
set_option maxRecDepth 100000 in
theorem w0_169 : (Lf12 ks tA (b + 156))[15]? = some (cel tA (adrF ks b) M00 169) := by
  rfl
set_option maxRecDepth 100000 in
theorem w0_170 : (Lf12 ks tA (b + 156))[16]? = some (cel tA (adrF ks b) M00 170) := by
  rfl
set_option maxRecDepth 100000 in
theorem w0_171 : (Lf12 ks tA (b + 156))[17]? = some (cel tA (adrF ks b) M00 171) := by
  rfl
set_option maxRecDepth 100000 in
theorem w0_172 : (Lf12 ks tA (b + 156))[18]? = some (cel tA (adrF ks b) M00 172) := by
  rfl
set_option maxRecDepth 100000 in
theorem w0_173 : (Lf12 ks tA (b + 156))[19]? = some (cel tA (adrF ks b) M00 173) := by
  rfl
set_option maxRecDepth 100000 in
theorem w0_174 : (Lf12 ks tA (b + 156))[20]? = some (cel tA (adrF ks b) M00 174) := by
  rfl
set_option maxRecDepth 100000 in
theorem w0_175 : (Lf12 ks tA (b + 156))[21]? = some (cel tA (adrF ks b) M00 175) := by
  rfl
set_option maxRecDepth 100000 in
theorem w0_176 : (Lf12 ks tA (b + 156))[22]? = some (cel tA (adrF ks b) M00 176) := by
  rfl
set_option maxRecDepth 100000 in
theorem w0_177 : (Lf12 ks tA (b + 156))[23]? = some (cel tA (adrF ks b) M00 177) := by
  rfl
set_option maxRecDepth 100000 in
theorem w0_178 : (Lf12 ks tA (b + 156))[24]? = some (cel tA (adrF ks b) M00 178) := by
  rfl
set_option maxRecDepth 100000 in
theorem w0_179 : (Lf12 ks tA (b + 156))[25]? = some (cel tA (adrF ks b) M00 179) := by
  rfl
set_option maxRecDepth 100000 in
theorem w0_180 : (Lf12 ks tA (b + 156))[26]? = some (cel tA (adrF ks b) M00 180) := by
  rfl
set_option maxRecDepth 100000 in
theorem w0_181 : (Lf12 ks tA (b + 156))[27]? = some (cel tA (adrF ks b) M00 181) := by
  rfl
set_option maxRecDepth 100000 in
theorem w0_182 : (Lf12 ks tA (b + 156))[28]? = some (cel tA (adrF ks b) M00 182) := by
  rfl
set_option maxRecDepth 100000 in
theorem w0_183 : (Lf12 ks tA (b + 156))[29]? = some (cel tA (adrF ks b) M00 183) := by
  rfl
set_option maxRecDepth 100000 in
theorem w0_184 : (Lf12 ks tA (b + 156))[30]? = some (cel tA (adrF ks b) M00 184) := by
  rfl
set_option maxRecDepth 100000 in
theorem w0_185 : (Lf12 ks tA (b + 156))[31]? = some (cel tA (adrF ks b) M00 185) := by
  rfl
set_option maxRecDepth 100000 in
theorem w0_186 : (Lf12 ks tA (b + 156))[32]? = some (cel tA (adrF ks b) M00 186) := by
  rfl
set_option maxRecDepth 100000 in
theorem w0_187 : (Lf12 ks tA (b + 156))[33]? = some (cel tA (adrF ks b) M00 187) := by
  rfl
set_option maxRecDepth 100000 in
theorem w0_188 : (Lf12 ks tA (b + 156))[34]? = some (cel tA (adrF ks b) M00 188) := by
  rfl
set_option maxRecDepth 100000 in
theorem w0_189 : (Lf12 ks tA (b + 156))[35]? = some (cel tA (adrF ks b) M00 189) := by
  rfl
set_option maxRecDepth 100000 in
theorem w0_190 : (Lf12 ks tA (b + 156))[36]? = some (cel tA (adrF ks b) M00 190) := by
  rfl
end W0
