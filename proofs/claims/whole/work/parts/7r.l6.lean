/-! THE LAW, 8: its loop (the cases printed by hand of a program). -/
section L8
variable {p : Program} {l : Launch} {e : Env} {s : State} {m : MethodId} {args : Array Value} {below : List Frame} {meth : Method} {c : Code} {Q : State → Prop}
variable {D : va_G} {tA : Nat → ClassId} {n0 o bs b L : Nat} {xs : Nat → Int32} {adr adV : Nat → Nat}
set_option maxHeartbeats 4000000 in
set_option maxRecDepth 100000 in
theorem law_turn {i k : Nat} {M : Mm} {f : Nat → Int64} {H : Heap} {locs : List Loc} {cells slots : Nat} {ls : Array Slot} {x : Int32} (C : LCx p s m args c D tA n0 o bs adr adV b L xs) (hfl : l.stackTraces = false) (hR : Rel k M) (hh : LH D tA n0 o bs adr M f H) (hS : LV n0 s H locs) (hl : lv_has ls 7 (lvB b o adr i)) (hi : i + 5 < L) (hk : k ≤ 1000) (hc : cells + 100 ≤ 601024 ∧ slots + 12000 ≤ 7293034) (hx : 0 ≤ x.toInt ∧ x.toInt ≤ 31) (K : LK p l e s m args below meth c Q D tA n0 o bs adr b i k cells slots) :
    W p l e room_1 s m args below meth c H locs cells slots Q (F0 m 40 ls [.int x]) := by
  obtain ⟨X, -⟩ := id C
  obtain ⟨j, hj, hj2⟩ : ∃ j : Nat, j < 32 ∧ x.toInt = (j : Int) := ⟨x.toInt.toNat, by omega, by omega⟩
  match j, hj, hj2 with
  | 0, _, z => exact lv_tableIn (off := 136) (tgt := 176) X.1 X.2.1 dw_law_40 (by rw [z]; decide) (by rw [z]; decide) (by rw [z]; rfl) (by decide) (case_0 C hfl hR hh hS hl hi hk hc K)
  | 1, _, z => exact lv_tableIn (off := 209) (tgt := 249) X.1 X.2.1 dw_law_40 (by rw [z]; decide) (by rw [z]; decide) (by rw [z]; rfl) (by decide) (case_1 C hfl hR hh hS hl hi hk hc K)
  | 2, _, z => exact lv_tableIn (off := 265) (tgt := 305) X.1 X.2.1 dw_law_40 (by rw [z]; decide) (by rw [z]; decide) (by rw [z]; rfl) (by decide) (case_2 C hfl hR hh hS hl hi hk hc K)
  | 3, _, z => exact lv_tableIn (off := 278) (tgt := 318) X.1 X.2.1 dw_law_40 (by rw [z]; decide) (by rw [z]; decide) (by rw [z]; rfl) (by decide) (case_3 C hfl hR hh hS hl hi hk hc K)
  | 4, _, z => exact lv_tableIn (off := 334) (tgt := 374) X.1 X.2.1 dw_law_40 (by rw [z]; decide) (by rw [z]; decide) (by rw [z]; rfl) (by decide) (case_4 C hfl hR hh hS hl hi hk hc K)
  | 5, _, z => exact lv_tableIn (off := 402) (tgt := 442) X.1 X.2.1 dw_law_40 (by rw [z]; decide) (by rw [z]; decide) (by rw [z]; rfl) (by decide) (case_5 C hfl hR hh hS hl hi hk hc K)
  | 6, _, z => exact lv_tableIn (off := 470) (tgt := 510) X.1 X.2.1 dw_law_40 (by rw [z]; decide) (by rw [z]; decide) (by rw [z]; rfl) (by decide) (case_6 C hfl hR hh hS hl hi hk hc K)
  | 7, _, z => exact lv_tableIn (off := 550) (tgt := 590) X.1 X.2.1 dw_law_40 (by rw [z]; decide) (by rw [z]; decide) (by rw [z]; rfl) (by decide) (case_7 C hfl hR hh hS hl hi hk hc K)
  | 8, _, z => exact lv_tableIn (off := 575) (tgt := 615) X.1 X.2.1 dw_law_40 (by rw [z]; decide) (by rw [z]; decide) (by rw [z]; rfl) (by decide) (case_8 C hfl hR hh hS hl hi hk hc K)
  | 9, _, z => exact lv_tableIn (off := 600) (tgt := 640) X.1 X.2.1 dw_law_40 (by rw [z]; decide) (by rw [z]; decide) (by rw [z]; rfl) (by decide) (case_9 C hfl hR hh hS hl hi hk hc K)
  | 10, _, z => exact lv_tableIn (off := 668) (tgt := 708) X.1 X.2.1 dw_law_40 (by rw [z]; decide) (by rw [z]; decide) (by rw [z]; rfl) (by decide) (case_10 C hfl hR hh hS hl hi hk hc K)
  | 11, _, z => exact lv_tableIn (off := 760) (tgt := 800) X.1 X.2.1 dw_law_40 (by rw [z]; decide) (by rw [z]; decide) (by rw [z]; rfl) (by decide) (case_11 C hfl hR hh hS hl hi hk hc K)
  | 12, _, z => exact lv_tableIn (off := 840) (tgt := 880) X.1 X.2.1 dw_law_40 (by rw [z]; decide) (by rw [z]; decide) (by rw [z]; rfl) (by decide) (case_12 C hfl hR hh hS hl hi hk hc K)
  | 13, _, z => exact lv_tableIn (off := 908) (tgt := 948) X.1 X.2.1 dw_law_40 (by rw [z]; decide) (by rw [z]; decide) (by rw [z]; rfl) (by decide) (case_13 C hfl hR hh hS hl hi hk hc K)
  | 14, _, z => exact lv_tableIn (off := 976) (tgt := 1016) X.1 X.2.1 dw_law_40 (by rw [z]; decide) (by rw [z]; decide) (by rw [z]; rfl) (by decide) (case_14 C hfl hR hh hS hl hi hk hc K)
  | 15, _, z => exact lv_tableIn (off := 1044) (tgt := 1084) X.1 X.2.1 dw_law_40 (by rw [z]; decide) (by rw [z]; decide) (by rw [z]; rfl) (by decide) (case_15 C hfl hR hh hS hl hi hk hc K)
  | 16, _, z => exact lv_tableIn (off := 1081) (tgt := 1121) X.1 X.2.1 dw_law_40 (by rw [z]; decide) (by rw [z]; decide) (by rw [z]; rfl) (by decide) (case_16 C hfl hR hh hS hl hi hk hc K)
  | 17, _, z => exact lv_tableIn (off := 1106) (tgt := 1146) X.1 X.2.1 dw_law_40 (by rw [z]; decide) (by rw [z]; decide) (by rw [z]; rfl) (by decide) (case_17 C hfl hR hh hS hl hi hk hc K)
  | 18, _, z => exact lv_tableIn (off := 1119) (tgt := 1159) X.1 X.2.1 dw_law_40 (by rw [z]; decide) (by rw [z]; decide) (by rw [z]; rfl) (by decide) (case_18 C hfl hR hh hS hl hi hk hc K)
  | 19, _, z => exact lv_tableIn (off := 1184) (tgt := 1224) X.1 X.2.1 dw_law_40 (by rw [z]; decide) (by rw [z]; decide) (by rw [z]; rfl) (by decide) (case_19 C hfl hR hh hS hl hi hk hc K)
  | 20, _, z => exact lv_tableIn (off := 1221) (tgt := 1261) X.1 X.2.1 dw_law_40 (by rw [z]; decide) (by rw [z]; decide) (by rw [z]; rfl) (by decide) (case_20 C hfl hR hh hS hl hi hk hc K)
  | 21, _, z => exact lv_tableIn (off := 1258) (tgt := 1298) X.1 X.2.1 dw_law_40 (by rw [z]; decide) (by rw [z]; decide) (by rw [z]; rfl) (by decide) (case_21 C hfl hR hh hS hl hi hk hc K)
  | 22, _, z => exact lv_tableIn (off := 1271) (tgt := 1311) X.1 X.2.1 dw_law_40 (by rw [z]; decide) (by rw [z]; decide) (by rw [z]; rfl) (by decide) (case_22 C hfl hR hh hS hl hi hk hc K)
  | 23, _, z => exact lv_tableIn (off := 1308) (tgt := 1348) X.1 X.2.1 dw_law_40 (by rw [z]; decide) (by rw [z]; decide) (by rw [z]; rfl) (by decide) (case_23 C hfl hR hh hS hl hi hk hc K)
  | 24, _, z => exact lv_tableIn (off := 1364) (tgt := 1404) X.1 X.2.1 dw_law_40 (by rw [z]; decide) (by rw [z]; decide) (by rw [z]; rfl) (by decide) (case_24 C hfl hR hh hS hl hi hk hc K)
  | 25, _, z => exact lv_tableIn (off := 1420) (tgt := 1460) X.1 X.2.1 dw_law_40 (by rw [z]; decide) (by rw [z]; decide) (by rw [z]; rfl) (by decide) (case_25 C hfl hR hh hS hl hi hk hc K)
  | 26, _, z => exact lv_tableIn (off := 1431) (tgt := 1471) X.1 X.2.1 dw_law_40 (by rw [z]; decide) (by rw [z]; decide) (by rw [z]; rfl) (by decide) (case_26 C hfl hR hh hS hl hi hk hc K)
  | 27, _, z => exact lv_tableIn (off := 1523) (tgt := 1563) X.1 X.2.1 dw_law_40 (by rw [z]; decide) (by rw [z]; decide) (by rw [z]; rfl) (by decide) (case_27 C hfl hR hh hS hl hi hk hc K)
  | 28, _, z => exact lv_tableIn (off := 1591) (tgt := 1631) X.1 X.2.1 dw_law_40 (by rw [z]; decide) (by rw [z]; decide) (by rw [z]; rfl) (by decide) (case_28 C hfl hR hh hS hl hi hk hc K)
  | 29, _, z => exact lv_tableIn (off := 1602) (tgt := 1642) X.1 X.2.1 dw_law_40 (by rw [z]; decide) (by rw [z]; decide) (by rw [z]; rfl) (by decide) (case_29 C hfl hR hh hS hl hi hk hc K)
  | 30, _, z => exact lv_tableOut (tgt := 1655) X.1 X.2.1 dw_law_40 (by rw [z]; decide) (by decide) (W.widen (by omega) (by omega) (K M f H locs ls (Rel_up hR) hh hS hl))
  | 31, _, z => exact lv_tableOut (tgt := 1655) X.1 X.2.1 dw_law_40 (by rw [z]; decide) (by decide) (W.widen (by omega) (by omega) (K M f H locs ls (Rel_up hR) hh hS hl))
  | j + 32, h, _ => exact absurd h (by omega)
/-- the loop: k calls made, i = 6 k -/
theorem law_loop (C : LCx p s m args c D tA n0 o bs adr adV b L xs) (hfl : l.stackTraces = false) (hend : ∀ (H : Heap) (locs : List Loc) (cells slots : Nat) (ls : Array Slot), LV n0 s H locs → cells ≤ 601024 → slots ≤ 7293034 → W p l e room_1 s m args below meth c H locs cells slots Q (F0 m 1661 ls [])) :
    ∀ (r k : Nat) (M : Mm) (f : Nat → Int64) (H : Heap) (locs : List Loc) (cells slots : Nat) (ls : Array Slot), 512 < k + r → 6 * k ≤ L → Rel k M → LH D tA n0 o bs adr M f H → LV n0 s H locs → lv_has ls 7 (lvB b o adr (6 * k)) → cells ≤ 200 + 100 * k → slots ≤ 36000 + 12000 * k →
      W p l e room_1 s m args below meth c H locs cells slots Q (F0 m 23 ls [])
  | 0, k, M, f, H, locs, cells, slots, ls, h1, h2, hR, hh, hS, hl, hc, hs => by
    have h3 : L ≤ 3072 := C.2.2.2.2.2
    omega
  | r + 1, k, M, f, H, locs, cells, slots, ls, h1, h2, hR, hh, hS, hl, hc, hs => by
    obtain ⟨X, hL, hst, hX, ⟨hb, hn0⟩, h3⟩ := id C
    have hbA : ¬ n0 ≤ b := by omega
    have he : Int32.ofNat L = iN (L : Int) := by simp [iN, Int32.ofInt_eq_ofNat]
    refine lv_iload (x := iN ((6 * k : Nat) : Int)) X.1 X.2.1 dw_law_23 (lv_at hl 4 rfl) ?_
    refine lv_aload_n (i := 0) (x := b) X.1 X.2.1 dw_law_25 rfl (lv_at hl 0 rfl) ?_
    refine va_slen X.1 X.2.1 hX hb hbA hS dw_law_26 ?_
    rw [he]
    refine lv_bipush (v := iN 6) X.1 X.2.1 dw_law_27 (by decide) ?_
    refine lv_isub X.1 X.2.1 dw_law_29 ?_
    rw [iN_sub]
    refine lv_icmp_gt (tgt := 1661) X.1 X.2.1 dw_law_30 (by decide) (fun _ => hend H locs cells slots ls hS (by omega) (by omega)) (fun z => ?_)
    have hi : 6 * k + 6 ≤ L := by
      have z2 : ¬ (L : Int) - 6 < ((6 * k : Nat) : Int) := fun h => z ((iN_lt (x := (L : Int) - 6) (y := ((6 * k : Nat) : Int)) ⟨by omega, by omega⟩ ⟨by omega, by omega⟩).mpr h)
      omega
    refine lv_aload_n (i := 0) (x := b) X.1 X.2.1 dw_law_33 rfl (lv_at hl 0 rfl) ?_
    refine lv_iload (x := iN ((6 * k : Nat) : Int)) X.1 X.2.1 dw_law_34 (lv_at hl 4 rfl) ?_
    refine va_sld (i := iN ((6 * k : Nat) : Int)) X.1 X.2.1 hX hb hbA hS (iN_in (by omega) (by omega) (by omega)) dw_law_36 ?_
    refine lv_bipush (v := iN 31) X.1 X.2.1 dw_law_37 (by decide) ?_
    refine lv_iand X.1 X.2.1 dw_law_39 ?_
    refine law_turn C hfl hR hh hS hl (by omega) (by omega) ⟨by omega, by omega⟩ ?_ (fun M' f' H' locs' ls' hR' hh' hS' hl' => ?_)
    · have h := bAnd_31 (xs (iN ((6 * k : Nat) : Int)).toNatClampNeg).toInt
      unfold bAnd at h
      rw [iN_ti] at h
      exact h
    · refine lv_iinc (k := 4) (x := iN ((6 * k : Nat) : Int)) (v := iN ((6 * (k + 1) : Nat) : Int)) (lv' := (4, .int (iN ((6 * (k + 1) : Nat) : Int))) :: [(0, .ref b), (1, .ref (adr 0)), (2, .ref (adr 154)), (3, .ref o)]) X.1 X.2.1 dw_law_1655 hl' rfl ?_ (by decide) rfl (fun ls2 hl2 => ?_)
      · show iN _ + iN 6 = _
        rw [iN_add, show ((6 * k : Nat) : Int) + 6 = ((6 * (k + 1) : Nat) : Int) by omega]
      · refine lv_goto (tgt := 23) X.1 X.2.1 dw_law_1658 (by decide) ?_
        exact law_loop C hfl hend r (k + 1) M' f' H' locs' (cells + 100) (slots + 12000) ls2 (by omega) (by omega) hR' hh' hS' (lv_sub hl2 [1, 2, 3, 4, 0] rfl) (by omega) (by omega)
end L8
