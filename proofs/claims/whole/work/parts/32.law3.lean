/-! THE LAW, 3: its switch and its loop. O is what out has to say (it may throw), Rel the bond of the two sides behind k calls. -/
def zl_S (O : Int32 → za_W → (za_W → Prop) → Prop) (nm : Nat) (w : za_W) (K : za_W → Prop) (t : Int) (a : Nat → Int32) : Prop := (t = 0 → zl_H 108 132 [.int (a 1), .int (a 2), .int (a 3), .int (a 4), .int (a 5)] nm w K) ∧ (t = 1 → zl_H 109 133 [.int (a 1)] nm w K) ∧ (t = 2 → zl_H 110 134 [.int (a 1), .int (a 2)] nm w K) ∧ (t = 3 → zl_H 111 168 [] nm w K) ∧ (t = 4 → zl_H 112 187 [] nm w K) ∧ (t = 5 → zl_H 113 135 [] nm w K) ∧ (t = 6 → zl_H 114 136 [] nm w K) ∧ (t = 7 → zl_H 115 137 [.int (a 1), .int (a 2)] nm w K) ∧ (t = 8 → zl_H 116 138 [.int (a 1)] nm w K) ∧ (t = 10 → zl_H 118 140 [.int (a 1)] nm w K) ∧ (t = 11 → zl_H 119 143 [.int (a 1), .int (a 2)] nm w K) ∧ (t = 12 → zl_H 120 144 [.int (a 1)] nm w K) ∧ (t = 13 → zl_H 121 146 [.int (a 1)] nm w K) ∧ (t = 14 → zl_H 122 147 [.int (a 1), .int (a 2)] nm w K) ∧ (t = 15 → zl_H 123 184 [.int (a 1)] nm w K) ∧ (t = 16 → zl_H 124 188 [.int (a 1)] nm w K) ∧ (t = 9 → O (a 1) w K) ∧ (16 < t → K w)
theorem zl_cmp {n L : Nat} (hn : n ≤ 4000) (hL : L ≤ 3073) : (Int32.ofNat L - 6 < Int32.ofNat n) ↔ L < n + 6 := by
  have h1 : (Int32.ofNat L - 6).toInt = (L : Int) - 6 := by
    rw [Int32.toInt_sub, Int32.toInt_ofNat_of_lt (by omega)]
    have : (6 : Int32).toInt = 6 := rfl
    rw [this, Int.bmod_def]
    split <;> omega
  rw [Int32.lt_iff_toInt_lt, h1, Int32.toInt_ofNat_of_lt (by omega)]
  omega
theorem zl_31 (x : Int32) : 0 ≤ (x &&& 31).toInt ∧ (x &&& 31).toInt ≤ 31 := by
  have h1 : (x &&& 31).toBitVec = x.toBitVec &&& 31#32 := rfl
  have h2 : (x &&& 31).toInt = ((x &&& 31).toBitVec).toInt := rfl
  rw [h2, h1]
  have h3 : (x.toBitVec &&& 31#32).toNat ≤ 31 := by
    rw [BitVec.toNat_and]
    exact Nat.and_le_right
  have h4 : (x.toBitVec &&& 31#32).toInt = ((x.toBitVec &&& 31#32).toNat : Int) := by
    rw [BitVec.toInt_eq_toNat_cond]
    rw [if_pos (by omega)]
  omega
section ZLL
variable {p : Program} {l : Launch} {e : Env} {s : State} {m : MethodId} {below : List Frame} {meth : Method} {c : Code} {D : va_G} {cA : Nat → ClassId} {b L : Nat} {xs : Nat → Int32} {Q : State → Prop} {nm no : Nat}
/-- behind a case: the next head -/
theorem zl_next {H : Heap} {locs : List Loc} {cells slots : Nat} {ls : Array Slot} {ad : Nat → Nat} {n : Nat} (F : zl_F D cA p s m c b L xs) (hl : lv_has ls 7 (zl_lv b nm no ad (Int32.ofNat n)))
    (kk : ∀ ls' : Array Slot, lv_has ls' 7 (zl_lv b nm no ad (Int32.ofNat (n + 6))) → W p l e room_1 s m #[Value.ref b] below meth c H locs cells slots Q (F0 m 33 ls' [])) : W p l e room_1 s m #[Value.ref b] below meth c H locs cells slots Q (F0 m 636 ls []) := by
  have hx := F.1
  have hb := F.2.1
  refine lv_iinc (k := 4) (v := Int32.ofNat (n + 6)) hx hb dL_law_636 hl rfl (Int32.ofNat_add n 6).symm (by decide) rfl (fun ls' hl' => ?_)
  refine lv_goto (tgt := 33) hx hb dL_law_639 rfl ?_
  exact kk ls' (lv_sub hl' [1, 2, 3, 4, 0] rfl)
set_option maxHeartbeats 4000000 in
theorem zl_loop {c0 s0 : Nat} {O : Int32 → za_W → (za_W → Prop) → Prop} {Rel : Nat → za_W → Prop} (F : zl_F D cA p s m c b L xs) (hL : L ≤ 3073) (hc0 : c0 ≤ 600000) (hs0 : s0 ≤ 7200000) (hw : ∀ k w, Rel k w → 0 < w.1 ∧ nm < w.1 ∧ no < w.1)
    (hS : ∀ k w, Rel k w → 6 * k + 7 ≤ L → ∀ a : Nat → Int32, zl_S O nm w (Rel (k + 1)) (a 0 &&& 31).toInt a)
    (h9 : ∀ {H : Heap} {locs : List Loc} {cells slots : Nat} {ls : Array Slot} {ad : Nat → Nat} {w : za_W} {n : Nat} {K : za_W → Prop}, n + 5 < L → cells + 1 ≤ 601024 → slots + 6 ≤ 7293000 → zl_J D cA s.heap H locs ad w → lv_has ls 7 (zl_lv b nm no ad (Int32.ofNat n)) → 0 < w.1 → nm < w.1 → no < w.1 → O (xs (n + 1)) w K →
      (∀ (ad1 : Nat → Nat) (H1 : Heap) (locs1 : List Loc) (ls1 : Array Slot) (w2 : za_W), K w2 → lv_has ls1 7 (zl_lv b nm no ad1 (Int32.ofNat n)) → zl_J D cA s.heap H1 locs1 ad1 w2 → W p l e room_1 s m #[Value.ref b] below meth c H1 locs1 (cells + 1) (slots + 6) Q (F0 m 636 ls1 [])) →
      W p l e room_1 s m #[Value.ref b] below meth c H locs cells slots Q (F0 m 381 ls []))
    (hend : ∀ (H : Heap) (locs : List Loc) (cells slots : Nat) (ls : Array Slot) (ad : Nat → Nat) (w : za_W), cells ≤ 601024 → slots ≤ 7293000 → zl_J D cA s.heap H locs ad w → W p l e room_1 s m #[Value.ref b] below meth c H locs cells slots Q (F0 m 642 ls [])) :
    ∀ (j k : Nat) (H : Heap) (locs : List Loc) (ls : Array Slot) (ad : Nat → Nat) (w : za_W), L < 7 + 6 * k + 6 * j → 6 * k ≤ L + 5 → Rel k w → zl_J D cA s.heap H locs ad w → lv_has ls 7 (zl_lv b nm no ad (Int32.ofNat (1 + 6 * k))) → W p l e room_1 s m #[Value.ref b] below meth c H locs (c0 + k) (s0 + 6 * k) Q (F0 m 33 ls [])
  | j, k, H, locs, ls, ad, w, hj, hk, hR, J, hl => by
    have hx := F.1
    have hb := F.2.1
    have hX := F.2.2.2.2.2.2.2.2.1
    have hbl := F.2.2.2.2.2.2.2.2.2
    obtain ⟨g0, g1, g2⟩ := hw k w hR
    refine lv_iload hx hb dL_law_33 (lv_at hl 4 rfl) ?_
    refine lv_aload_n hx hb dL_law_35 rfl (lv_at hl 0 rfl) ?_
    refine va_slen hx hb hX hbl (fun h => Nat.lt_irrefl _ (Nat.lt_of_lt_of_le hbl h)) J.2.2.1 dL_law_36 ?_
    refine lv_bipush (v := 6) hx hb dL_law_37 (by decide) ?_
    refine lv_isub hx hb dL_law_39 ?_
    refine lv_icmp_gt (tgt := 642) hx hb dL_law_40 rfl (fun _ => ?_) (fun h => ?_)
    · exact hend _ _ _ _ _ _ _ (by omega) (by omega) J
    · rw [zl_cmp (by omega) hL] at h
      match j, hj with
      | 0, hj => exact absurd hj (by omega)
      | j + 1, hj =>
        have hn : 1 + 6 * k + 5 < L := by omega
        refine lv_aload_n hx hb dL_law_43 rfl (lv_at hl 0 rfl) ?_
        refine lv_iload hx hb dL_law_44 (lv_at hl 4 rfl) ?_
        have hin : vp_in (Int32.ofNat (1 + 6 * k)) L := by
          have := zl_in (n := 1 + 6 * k) (k := 0) (L := L) (by omega) hL
          rw [← Int32.ofNat_add] at this
          exact this
        refine va_sld hx hb hX hbl (fun h => Nat.lt_irrefl _ (Nat.lt_of_lt_of_le hbl h)) J.2.2.1 hin dL_law_46 ?_
        rw [i3_n (by omega)]
        refine lv_bipush (v := 31) hx hb dL_law_47 (by decide) ?_
        refine lv_iand hx hb dL_law_49 ?_
        have hs := hS k w hR (by omega) (fun i => xs (1 + 6 * k + i))
        have rec9 : ∀ (ad1 : Nat → Nat) (H1 : Heap) (locs1 : List Loc) (ls1 : Array Slot) (w2 : za_W), Rel (k + 1) w2 → lv_has ls1 7 (zl_lv b nm no ad1 (Int32.ofNat (1 + 6 * k))) → zl_J D cA s.heap H1 locs1 ad1 w2 → W p l e room_1 s m #[Value.ref b] below meth c H1 locs1 (c0 + k + 1) (s0 + 6 * k + 6) Q (F0 m 636 ls1 []) := by
          intro ad1 H1 locs1 ls1 w2 hR2 hl2 J2
          refine zl_next F hl2 (fun ls' hl' => ?_)
          have h := zl_loop F hL hc0 hs0 hw hS h9 hend j (k + 1) H1 locs1 ls' ad1 w2 (by omega) (by omega) hR2 J2 (by rw [show 1 + 6 * (k + 1) = 1 + 6 * k + 6 by omega]; exact hl')
          exact h
        have rec1 : ∀ (ad1 : Nat → Nat) (H1 : Heap) (locs1 : List Loc) (w2 : za_W), Rel (k + 1) w2 → w2.1 = w.1 → w2.2.1 = w.2.1 → lv_has ls 7 (zl_lv b nm no ad1 (Int32.ofNat (1 + 6 * k))) → zl_J D cA s.heap H1 locs1 ad1 w2 → W p l e room_1 s m #[Value.ref b] below meth c H1 locs1 (c0 + k) (s0 + 6 * k) Q (F0 m 636 ls []) :=
          fun ad1 H1 locs1 w2 hR2 _ _ hl2 J2 => W.widen (k := c0 + k + 1) (n := s0 + 6 * k + 6) (by omega) (by omega) (rec9 ad1 H1 locs1 ls w2 hR2 hl2 J2)
        obtain ⟨t1, t2⟩ := zl_31 (xs (1 + 6 * k))
        have hsw : ∀ (z : Nat) (off : Int) (tgt : Nat), (xs (1 + 6 * k) &&& 31).toInt = z → z ≤ 16 → (#[82, 155, 180, 217, 230, 243, 256, 269, 306, 331, 387, 412, 449, 474, 499, 536, 561] : Array Int)[z]? = some off → (50 : Int) + off = tgt → W p l e room_1 s m #[Value.ref b] below meth c H locs (c0 + k) (s0 + 6 * k) Q (F0 m tgt ls []) → W p l e room_1 s m #[Value.ref b] below meth c H locs (c0 + k) (s0 + 6 * k) Q (F0 m 50 ls [.int (xs (1 + 6 * k) &&& 31)]) := by
          intro z off tgt hz hz2 ho ht kk
          exact lv_tableIn (tgt := tgt) hx hb dL_law_50 (by omega) (by omega) (by rw [hz]; simpa using ho) ht kk
        have hs9 : zl_S O nm w (Rel (k + 1)) (xs (1 + 6 * k) &&& 31).toInt (fun i => xs (1 + 6 * k + i)) := hs
        unfold zl_S at hs9
        obtain ⟨q0, q1, q2, q3, q4, q5, q6, q7, q8, q10, q11, q12, q13, q14, q15, q16, q9, qd⟩ := hs9
        have hcase : (xs (1 + 6 * k) &&& 31).toInt = 0 ∨ (xs (1 + 6 * k) &&& 31).toInt = 1 ∨ (xs (1 + 6 * k) &&& 31).toInt = 2 ∨ (xs (1 + 6 * k) &&& 31).toInt = 3 ∨ (xs (1 + 6 * k) &&& 31).toInt = 4 ∨ (xs (1 + 6 * k) &&& 31).toInt = 5 ∨ (xs (1 + 6 * k) &&& 31).toInt = 6 ∨ (xs (1 + 6 * k) &&& 31).toInt = 7 ∨ (xs (1 + 6 * k) &&& 31).toInt = 8 ∨ (xs (1 + 6 * k) &&& 31).toInt = 9 ∨ (xs (1 + 6 * k) &&& 31).toInt = 10 ∨ (xs (1 + 6 * k) &&& 31).toInt = 11 ∨ (xs (1 + 6 * k) &&& 31).toInt = 12 ∨ (xs (1 + 6 * k) &&& 31).toInt = 13 ∨ (xs (1 + 6 * k) &&& 31).toInt = 14 ∨ (xs (1 + 6 * k) &&& 31).toInt = 15 ∨ (xs (1 + 6 * k) &&& 31).toInt = 16 ∨ 16 < (xs (1 + 6 * k) &&& 31).toInt := by omega
        rcases hcase with h | h | h | h | h | h | h | h | h | h | h | h | h | h | h | h | h | h
        · exact hsw 0 82 132 h (by decide) rfl rfl (zl_c0 F hL hn (by omega) (by omega) J hl g0 g1 g2 (q0 h) rec1)
        · exact hsw 1 155 205 h (by decide) rfl rfl (zl_c1 F hL hn (by omega) (by omega) J hl g0 g1 g2 (q1 h) rec1)
        · exact hsw 2 180 230 h (by decide) rfl rfl (zl_c2 F hL hn (by omega) (by omega) J hl g0 g1 g2 (q2 h) rec1)
        · exact hsw 3 217 267 h (by decide) rfl rfl (zl_c3 F hL hn (by omega) (by omega) J hl g0 g1 g2 (q3 h) rec1)
        · exact hsw 4 230 280 h (by decide) rfl rfl (zl_c4 F hL hn (by omega) (by omega) J hl g0 g1 g2 (q4 h) rec1)
        · exact hsw 5 243 293 h (by decide) rfl rfl (zl_c5 F hL hn (by omega) (by omega) J hl g0 g1 g2 (q5 h) rec1)
        · exact hsw 6 256 306 h (by decide) rfl rfl (zl_c6 F hL hn (by omega) (by omega) J hl g0 g1 g2 (q6 h) rec1)
        · exact hsw 7 269 319 h (by decide) rfl rfl (zl_c7 F hL hn (by omega) (by omega) J hl g0 g1 g2 (q7 h) rec1)
        · exact hsw 8 306 356 h (by decide) rfl rfl (zl_c8 F hL hn (by omega) (by omega) J hl g0 g1 g2 (q8 h) rec1)
        · exact hsw 9 331 381 h (by decide) rfl rfl (h9 hn (by omega) (by omega) J hl g0 g1 g2 (q9 h) rec9)
        · exact hsw 10 387 437 h (by decide) rfl rfl (zl_c10 F hL hn (by omega) (by omega) J hl g0 g1 g2 (q10 h) rec1)
        · exact hsw 11 412 462 h (by decide) rfl rfl (zl_c11 F hL hn (by omega) (by omega) J hl g0 g1 g2 (q11 h) rec1)
        · exact hsw 12 449 499 h (by decide) rfl rfl (zl_c12 F hL hn (by omega) (by omega) J hl g0 g1 g2 (q12 h) rec1)
        · exact hsw 13 474 524 h (by decide) rfl rfl (zl_c13 F hL hn (by omega) (by omega) J hl g0 g1 g2 (q13 h) rec1)
        · exact hsw 14 499 549 h (by decide) rfl rfl (zl_c14 F hL hn (by omega) (by omega) J hl g0 g1 g2 (q14 h) rec1)
        · exact hsw 15 536 586 h (by decide) rfl rfl (zl_c15 F hL hn (by omega) (by omega) J hl g0 g1 g2 (q15 h) rec1)
        · exact hsw 16 561 611 h (by decide) rfl rfl (zl_c16 F hL hn (by omega) (by omega) J hl g0 g1 g2 (q16 h) rec1)
        · exact lv_tableOut (tgt := 636) hx hb dL_law_50 (Or.inr h) rfl (rec1 ad H locs w (qd h) rfl rfl hl J)
end ZLL
