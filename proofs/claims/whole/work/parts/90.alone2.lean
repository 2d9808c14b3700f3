/-! alone, both sides: the bond. -/
theorem Sh.cdo {w : za_W} (h : Sh w) {sp : Nat} (hs : sp = 11 ∨ sp = 20) : ∃ t c a, w.2.2 sp = some (cdO t c a sp) := by
  rcases hs with rfl | rfl
  · obtain ⟨V, hV⟩ := h.ob (k := 11) (c := 4) (fs := [.int 0, .int 0, .int 0, .ref 12, .ref 13]) (by rfl) (by decide)
    exact ⟨V 0, V 1, V 2, hV⟩
  · obtain ⟨V, hV⟩ := h.ob (k := 20) (c := 4) (fs := [.int 0, .int 0, .int 0, .ref 21, .ref 22]) (by rfl) (by decide)
    exact ⟨V 0, V 1, V 2, hV⟩
theorem Sh.bro {w : za_W} (h : Sh w) : ∃ x, w.2.2 101 = some (.inr (1, [.ref 5, .int x])) := by
  obtain ⟨V, hV⟩ := h.ob (k := 101) (c := 1) (fs := [.ref 5, .int 0]) (by rfl) (by decide)
  exact ⟨V 1, hV⟩
theorem op_alone {k : Nat} {w : za_W} (h : Rel k w) (x : Int32) : zl_H 124 188 [.int x] 138 w (Rel (k + 1)) := by
  obtain ⟨hS, V, lv, I, O, H, fI, fO, fH, gI, gO, gH, hB, hR, hT⟩ := h
  have hB' := hB
  have hT' := hT
  have hR' := hR
  obtain ⟨b0, b138, ⟨i1, i2, i3, i4, i5, i6, i7, i8⟩, ⟨o1, o2, o3, o4, o5, o6, o7, o8⟩, ⟨a1, a2, a3, a4, a5, a6, a7, a8⟩, l1, l2, l3⟩ := hB'
  obtain ⟨ds, T, la, sp, tb, ch, al, fF, fS, gF, gS, c1, c2, gL, m, t1, t2, t3, t4, ⟨t5, t6, t7⟩, ⟨t8, t9, t10⟩, ⟨t11, t12, t13, t14, t15, t16, t17⟩, ⟨t18, t19, t20⟩, ⟨t21, t22, t23⟩⟩ := hT'
  obtain ⟨z9, o9, l9, r1⟩ := hR'
  obtain rfl : gH = fH := funext a8
  have hsp : sp = 11 ∨ sp = 20 := by omega
  obtain ⟨t0, c0, a0, hs⟩ := hS.cdo hsp
  obtain ⟨x1, h101⟩ := hS.bro
  obtain ⟨d, h10⟩ : ∃ g, w.2.2 10 = some (arI 9 g) := hS.ai (f := fun _ => 0) (by rfl) (by decide)
  have none_ : (∀ i, i < 2147483648 → x = Int32.ofNat i → mk_r gH (8 * H) 0 i = none) → zl_H 124 188 [.int x] 138 w (Rel (k + 1)) := by
    intro hn
    refine zl_H.of ⟨_, b0⟩ ?_
    refine sp_alone0 b0 (fun G hG => sp_findMark b0 a1 a2 a4 (fun _ => hG) (fun i hi e => by rw [hn i hi e]; exact hG)) ?_
    refine ⟨-1, rfl, rfl, rfl, ⟨_, b138⟩, ?_⟩
    exact mo_alone0 b138 a3 a7 a4 hn ⟨rfl, rfl, rfl, Rel.th hS hB hR hT 0⟩
  by_cases c : x < 0
  · exact none_ (fun i hi e => by subst e; exact (i3_z0 hi c).elim)
  obtain ⟨i, hi, rfl⟩ := i3_of c
  have u : ∀ {s : Nat}, s < 2147483648 → Int32.ofNat i = Int32.ofNat s → s = i := fun {s} h2 e => by
    have e2 := congrArg Int32.toNatClampNeg e
    rw [i3_n hi, i3_n h2] at e2
    exact e2.symm
  cases hm : mk_r gH (8 * H) 0 i with
  | none => exact none_ (fun s hs e => by obtain rfl := u hs e; exact hm)
  | some p =>
    have hp := mk_r.le hm
    refine zl_H.of ⟨_, b0⟩ ?_
    refine sp_alone1 (p := p) b0 (fun G hG => sp_findMark b0 a1 a2 a4 (fun h => (c h).elim) (fun s hs e => by obtain rfl := u hs e; rw [hm]; exact hG)) hS (by omega) a1 a2 a4 (by omega) h101 r1 t2 h10 hs o1 o2 o5 o4 ?_ ?_
    · intro e w1 he hP
      obtain ⟨⟨F1, ⟨ds1, q7⟩, q101, sz1, og1, q93⟩, q3, g4, q4, -, hb4⟩ := hP
      refine ⟨_, rfl, F1.2.1, F1.2.2.1, ⟨_, F1.at b138 (by omega)⟩, ?_⟩
      refine mo_alone1 (p := p) F1.1 (F1.at b138 (by omega)) (F1.at a3 (by omega)) (F1.at t6 (by omega)) (F1.at t9 (by omega)) (F1.at o3 (by omega)) o6 a7 t4 (by omega) a4 hi hm ?_ ?_
      · intro e' w2 V2 he' F2 hsm m138 hV2 v9 v6
        obtain rfl : e' = e := by
          rw [he] at he'
          cases he'
          rfl
        have at_ : ∀ {j : Nat} {c : za_C}, w.2.2 j = some c → ¬ PO sp j → ¬ Pal j → w2.2.2 j = some c := fun h h1 h2 => F2.at (F1.at h h1) h2
        refine ⟨rfl, F2.2.1, F2.2.2.1, F2.1, V2, lv, I, 0, H, fI, g4, gH, gI, gO, gH, ⟨at_ b0 (by omega) (by omega), m138, ⟨at_ i1 (by omega) (by omega), at_ i2 (by omega) (by omega), at_ i3 (by omega) (by omega), i4, i5, i6, (hV2 4 (by omega)).trans i7, i8⟩, ⟨F2.at q3 (by omega), F2.at q4 (by omega), (hsm 141 (by omega) (by omega)).trans (F1.at o3 (by omega)), by omega, hb4, o6, v6, fun k hk => absurd hk (by omega)⟩, ⟨at_ a1 (by omega) (by omega), at_ a2 (by omega) (by omega), at_ a3 (by omega) (by omega), a4, a5, a6, (hV2 8 (by omega)).trans a7, fun _ => rfl⟩, (hV2 2 (by omega)).trans l1, l2, l3⟩, ⟨sz1, og1, _, by rw [v9]; exact F2.at q93 (by omega)⟩, ds1, T, la, sp, tb, ch, al, fF, fS, gF, gS, c1, c2, gL, m, t1, F2.at q7 (by omega), t3, (hV2 10 (by omega)).trans t4, ⟨at_ t5 (by omega) (by omega), (hsm 143 (by omega) (by omega)).trans (F1.at t6 (by omega)), t7⟩, ⟨at_ t8 (by omega) (by omega), (hsm 144 (by omega) (by omega)).trans (F1.at t9 (by omega)), t10⟩, ⟨at_ t11 (by omega) (by omega), t12, t13, t14, (hV2 16 (by omega)).trans t15, (hV2 14 (by omega)).trans t16, fun h => (hV2 17 (by omega)).trans (t17 h)⟩, ⟨at_ t18 (by omega) (by omega), (hsm 145 (by omega) (by omega)).trans (F1.at t19 (by omega)), t20⟩, ⟨(hsm 146 (by omega) (by omega)).trans (F1.at t21 (by omega)), fun t ht => at_ (t22 t ht) (by omega) (by omega), t23⟩⟩
      · intro s g b k C M n D V' E l q w' he'
        rw [he] at he'
        cases he'
    · intro s g b k' C M n D cc gO1 w1 he F1 ⟨sz1, og1, q93⟩ q7 qs qs1 hc hTb tb6 tc ta q3 q4 hg hb hsz
      refine ⟨_, rfl, F1.2.1, F1.2.2.1, ⟨_, F1.at b138 (by omega)⟩, ?_⟩
      refine mo_alone1 (p := p) F1.1 (F1.at b138 (by omega)) (F1.at a3 (by omega)) (F1.at t6 (by omega)) (F1.at t9 (by omega)) (F1.at o3 (by omega)) o6 a7 t4 (by omega) a4 hi hm ?_ ?_
      · intro e w2 V2 he'
        rw [he] at he'
        cases he'
      · intro s2 g2 b2 k2 C2 M2 n2 D2 V2 E l q w2 he' F2 m138 hV2 v9 v6 v10 m141 hE hbE m143 m144 v16 v17 v14 m145 hl m146 hq
        rw [he] at he'
        cases he'
        have at_ : ∀ {j : Nat} {c : za_C}, w.2.2 j = some c → ¬ PO sp j → ¬ Pal j → w2.2.2 j = some c := fun h h1 h2 => F2.at (F1.at h h1) h2
        have rows : ∀ t, t < 6 → w2.2.2 (sp + 3 + t) = some (arI 258 (ctn w2 (sp + 3 + t))) := fun t ht => by
          obtain ⟨⟨mm, hmm⟩, -⟩ := F2.1.row hsp ht
          rw [ctn.eq hmm]
          exact hmm
        refine ⟨rfl, F2.2.1, F2.2.2.1, F2.1, V2, lv, I, (rlS D n).2, H, fI, gO1, gH, gI, E, gH, ⟨at_ b0 (by omega) (by omega), m138, ⟨at_ i1 (by omega) (by omega), at_ i2 (by omega) (by omega), at_ i3 (by omega) (by omega), i4, i5, i6, (hV2 4 (by omega)).trans i7, i8⟩, ⟨F2.at q3 (by omega), F2.at q4 (by omega), m141, by omega, hb, hbE, v6, fun j hj => ?_⟩, ⟨at_ a1 (by omega) (by omega), at_ a2 (by omega) (by omega), at_ a3 (by omega) (by omega), a4, a5, a6, (hV2 8 (by omega)).trans a7, fun _ => rfl⟩, (hV2 2 (by omega)).trans l1, l2, l3⟩, ⟨sz1, og1, _, by rw [v9]; exact F2.at q93 (by omega)⟩, _, T, sp, la, tb_ gH (p + 48), ch_ gH (p + 48), al_ gH (p + 48), fF, fS, gF, gS, cc, l, q, fun t => ctn w2 (sp + 3 + t), by omega, F2.at q7 (by omega), t3, v10.trans t4, ⟨at_ t5 (by omega) (by omega), m143, t7⟩, ⟨at_ t8 (by omega) (by omega), m144, t10⟩, ⟨F2.at qs (by omega), tb6, tc, ta, v16, v14, fun _ => v17⟩, ⟨F2.at qs1 (by omega), m145, fun j hj => (hl j hj).trans (hc j hj).symm⟩, ⟨m146, rows, fun t v ht hv => ?_⟩⟩
        · rw [hE j hj, ← hg j hj]
          exact by_fx (hb j)
        · obtain ⟨mm, h1, h2⟩ := hTb t ht
          show q (260 * t + v) = ctn w2 (sp + 3 + t) v
          rw [ctn.eq (F2.at h1 (by omega)), h2 v hv]
          exact hq t ht v hv
