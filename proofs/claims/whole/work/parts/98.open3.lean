/-! open, both sides: the bond. -/
theorem Rel.opn {w2 : za_W} {V V2 : Nat → Int32} {lv : Int32} {I k la sp : Nat} {fI gI X : Nat → Int32} {st : RSt} (hS2 : Sh w2) (h0 : w2.2.2 0 = some (spO lv)) (h1 : w2.2.2 1 = some (rowO 2 0)) (h2 : w2.2.2 2 = some (arB 1500 fI)) (h140 : w2.2.2 140 = some (arB 1500 gI)) (b1 : bts fI) (b2 : bts gI) (h5 : w2.2.2 5 = some (rowO 6 I)) (h6 : w2.2.2 6 = some (arB 1500 X)) (h142 : w2.2.2 142 = some (arB 1500 X)) (hI : I ≤ 1500) (bX : bts X) (l1 : V 2 = lv) (l2 : 1 ≤ lv) (l3 : lv ≤ 9) (hl : swp la sp) (hC : CR w2 la sp st) (hM : MR w2 V2 st) (hT : st.1 ≤ 12000) (v2 : V2 2 = V 2) (v4 : V2 4 = 0) (v8 : V2 8 = Int32.ofNat I) (h93 : ∃ sz og lv, w2.2.2 93 = some (opO sz og lv (V2 9))) : Rel k w2 := by
  obtain ⟨⟨ds, c7⟩, ⟨f8, c8, e8⟩, ⟨f9, c9, e9⟩, c3, ⟨f4, c4, e4, b4⟩, cl, ⟨cc, cl1, ec⟩, cr, k6, k12, k258, k3000⟩ := hC
  obtain ⟨h138, v10, ⟨g3, h143, x3⟩, ⟨g4, h144, x4⟩, v6, ⟨go, h141, xo, bo⟩, v16, v14, v17, ⟨c, h145, xc⟩, ⟨q, h146, xq⟩, -⟩ := hM
  obtain ⟨sz, og, lv9, h93⟩ := h93
  have hla : la = 11 ∨ la = 20 := by omega
  have rows : ∀ t, t < 6 → w2.2.2 (la + 3 + t) = some (arI 258 (ctn w2 (la + 3 + t))) := fun t ht => by
    obtain ⟨⟨mm, hmm⟩, -⟩ := hS2.row hla ht
    rw [ctn.eq hmm]
    exact hmm
  refine ⟨hS2, V2, lv, 0, st.2.1, I, fI, f4, X, gI, go, X, ⟨h0, h138, ⟨h1, h2, h140, by omega, b1, b2, v4, fun k hk => absurd hk (by omega)⟩, ⟨c3, c4, h141, by omega, b4, bo, v6, fun j hj => ?_⟩, ⟨h5, h6, h142, hI, bX, bX, v8, fun _ => rfl⟩, v2.trans l1, l2, l3⟩, ⟨sz, og, lv9, h93⟩, ds, st.1, la, sp, st.2.2.2.2.2.1, st.2.2.2.2.2.2.1, st.2.2.2.2.2.2.2.1, f8, f9, g3, g4, cc, c, q, fun t => ctn w2 (la + 3 + t), hl, c7, hT, v10, ⟨c8, h143, fun j hj => (x3 j hj).trans (e8 j hj).symm⟩, ⟨c9, h144, fun j hj => (x4 j hj).trans (e9 j hj).symm⟩, ⟨cl, k6, k12, k258, v16, v14, v17⟩, ⟨cl1, h145, fun j hj => (xc j hj).trans (ec j hj).symm⟩, ⟨h146, rows, fun t v ht hv => ?_⟩⟩
  · rw [xo j hj, ← e4 j hj]
    exact by_fx (b4 j)
  · obtain ⟨mm, m1, m2⟩ := cr t ht
    show q (260 * t + v) = ctn w2 (la + 3 + t) v
    rw [ctn.eq m1, m2 v hv]
    exact xq t ht v hv
theorem CR.off {P : Nat → Prop} {w w' : za_W} {la sp : Nat} {st : RSt} (hF : FS P w w') (hl : swp la sp) (h : CR w la sp st) (hP : ∀ j, (j = 3 ∨ j = 4 ∨ (7 ≤ j ∧ j ≤ 28)) → ¬ P j) : CR w' la sp st := by
  obtain ⟨⟨ds, c7⟩, -, -, c3, ⟨f4, c4, e4, b4⟩, -⟩ := id h
  exact h.fs hF hl ⟨ds, hF.at c7 (hP _ (by omega))⟩ (hF.at c3 (hP _ (by omega))) ⟨f4, hF.at c4 (hP _ (by omega)), e4, b4⟩ (fun j hj => hP j (by omega))
theorem op_open {k : Nat} {w : za_W} (h : Rel k w) : zl_H 112 187 [] 138 w (Rel (k + 1)) := by
  obtain ⟨hS, V, lv, I, O, H, fI, fO, fH, gI, gO, gH, hB, hR, hT⟩ := h
  obtain ⟨b0, b138, ⟨i1, i2, i3, i4, i5, i6, i7, i8⟩, ⟨o1, o2, o3, o4, o5, o6, o7, o8⟩, ⟨a1, a2, a3, a4, a5, a6, a7, a8⟩, l1, l2, l3⟩ := hB
  obtain ⟨ds, T, la, sp, tb, ch, al, fF, fS, gF, gS, c1, c2, gL, m, t1, t2, t3, t4, -⟩ := hT
  obtain ⟨z9, o9, l9, r1⟩ := hR
  obtain rfl : gH = fH := funext a8
  obtain ⟨x1, h101⟩ := hS.bro
  have eX : va_cpy gI gH 0 0 I = va_cpy fI gH 0 0 I := by
    funext j
    unfold va_cpy
    by_cases c : 0 ≤ j ∧ j < 0 + I
    · rw [if_pos c, if_pos c]
      exact i8 _ (by omega)
    · rw [if_neg c, if_neg c]
  have bX : bts (va_cpy fI gH 0 0 I) := fun j => by
    unfold va_cpy
    split
    · exact i5 _
    · exact a5 _
  refine zl_H.of ⟨_, b0⟩ ?_
  refine sp_open hS b0 i1 i2 i4 i5 a1 a2 a4 t1 t2 h101 r1 o1 o2 o5 o4 ?_ ?_
  · intro e st w1 w' he hF1 k1 k5 k6 hRE
    obtain ⟨hF2, ⟨la2, sp2, hl2, hC⟩, -, ⟨sz, og, lv9, k93⟩, hT12⟩ := hRE
    have F : FS (fun j => PP j ∨ j = 1 ∨ j = 5 ∨ j = 6) w w' := (hF1.of (fun j h => by omega)).tq hF2 (fun j h => Or.inl h)
    have np : ∀ {j : Nat}, (j = 0 ∨ j = 2 ∨ 138 ≤ j) → ¬ (PP j ∨ j = 1 ∨ j = 5 ∨ j = 6) := fun h => by unfold PP; omega
    refine ⟨_, rfl, F.2.1, F.2.2.1, ⟨_, F.at b138 (np (by omega))⟩, ?_⟩
    refine mo_open (gI := gI) (gH := gH) F.1 (F.at b138 (np (by omega))) i7 (F.at i3 (np (by omega))) i4 i6 (F.at a3 (np (by omega))) (F.at o3 (np (by omega))) o6 ?_ ?_
    · intro e2 st2 w2 V2 he2 F2 m142 M2 v2 v4 v8 v9
      rw [eX] at he2 m142
      rw [he] at he2
      cases he2
      exact ⟨rfl, F2.2.1, F2.2.2.1, Rel.opn (V := V) (I := I) F2.1 (F2.at (F.at b0 (np (by omega))) (by omega)) (F2.at (hF2.at k1 (by unfold PP; omega)) (by omega)) (F2.at (F.at i2 (np (by omega))) (by omega)) (F2.at (F.at i3 (np (by omega))) (by omega)) i5 i6 (F2.at (hF2.at k5 (by unfold PP; omega)) (by omega)) (F2.at (hF2.at k6 (by unfold PP; omega)) (by omega)) m142 i4 bX l1 l2 l3 hl2 (hC.off F2 hl2 (fun j hj => by omega)) M2 hT12 v2 v4 v8 ⟨sz, og, lv9, by rw [v9]; exact F2.at k93 (by omega)⟩⟩
    · intro st2 w2 V2 he2
      rw [eX, he] at he2
      cases he2
  · intro st w1 w' la2 sp2 he hT12 hF1 k1 k5 k6 hF2 hl2 hC ⟨sz, og, lv9, k93⟩
    have F : FS (fun j => PP j ∨ j = 1 ∨ j = 5 ∨ j = 6) w w' := (hF1.of (fun j h => by omega)).tq hF2 (fun j h => Or.inl h)
    have np : ∀ {j : Nat}, (j = 0 ∨ j = 2 ∨ 138 ≤ j) → ¬ (PP j ∨ j = 1 ∨ j = 5 ∨ j = 6) := fun h => by unfold PP; omega
    refine ⟨_, rfl, F.2.1, F.2.2.1, ⟨_, F.at b138 (np (by omega))⟩, ?_⟩
    refine mo_open (gI := gI) (gH := gH) F.1 (F.at b138 (np (by omega))) i7 (F.at i3 (np (by omega))) i4 i6 (F.at a3 (np (by omega))) (F.at o3 (np (by omega))) o6 ?_ ?_
    · intro e2 st2 w2 V2 he2
      rw [eX, he] at he2
      cases he2
    · intro st2 w2 V2 he2 F2 m142 M2 v2 v4 v8 v9
      rw [eX] at he2 m142
      rw [he] at he2
      cases he2
      exact ⟨rfl, F2.2.1, F2.2.2.1, Rel.opn (V := V) (I := I) F2.1 (F2.at (F.at b0 (np (by omega))) (by omega)) (F2.at (hF2.at k1 (by unfold PP; omega)) (by omega)) (F2.at (F.at i2 (np (by omega))) (by omega)) (F2.at (F.at i3 (np (by omega))) (by omega)) i5 i6 (F2.at (hF2.at k5 (by unfold PP; omega)) (by omega)) (F2.at (hF2.at k6 (by unfold PP; omega)) (by omega)) m142 i4 bX l1 l2 l3 hl2 (hC.off F2 hl2 (fun j hj => by omega)) M2 hT12 v2 v4 v8 ⟨sz, og, lv9, by rw [v9]; exact F2.at k93 (by omega)⟩⟩
