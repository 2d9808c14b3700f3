/-! FROM THE ABSTRACT MACHINE TO THE MACHINE, 6: calls as steps; the closing theorem. -/
theorem zt_ir : (List.range zt_mp0.length).all (fun i => decide ((za_y i).name = "<init>" → za_re i = none)) = true := by decide +kernel
theorem zt_b_of {o i : Nat} {q : Nat × Nat} (h : za_cl o i = some q) : (q.1 = 6 → Cond.methodLink (za_rn o) i objectInit ∈ za_tg) ∧ (q.1 = 7 → Cond.methodLink (za_rn o) i Lib.Math.max.name ∈ za_tg) ∧ (q.1 = 8 → Cond.methodLink (za_rn o) i Lib.Math.min.name ∈ za_tg) ∧ (q.1 = 9 → Cond.methodLink (za_rn o) i arraycopyName ∈ za_tg) ∧ (q.1 = 10 → Cond.methodLink (za_rn o) i zb_yR ∈ za_tg) := by
  obtain ⟨e, he, hp, rfl⟩ := za_fnd h
  have h1 := List.all_eq_true.mp zt_c_ok e he
  simp only [Bool.and_eq_true, beq_iff_eq] at hp
  obtain ⟨rfl, rfl⟩ := hp
  obtain ⟨o, i, k, mj, host, pl⟩ := e
  unfold zt_ck at h1
  refine ⟨fun hk => ?_, fun hk => ?_, fun hk => ?_, fun hk => ?_, fun hk => ?_⟩
  all_goals
    have hk : k = _ := hk
    subst hk
    exact za_tg.of (of_decide_eq_true h1) rfl
theorem za_rm.of {me mj : Nat} (h : za_rm me mj = true) : mj < zt_mp0.length ∧ za_fr mj + 1 ≤ za_fr me ∧ 8 + (za_mx mj + 11) + za_lo mj ≤ za_lo me := by
  unfold za_rm at h
  simp only [Bool.and_eq_true, decide_eq_true_eq] at h
  exact ⟨h.1.1, h.1.2, h.2⟩
theorem zt_th_of {o i : Nat} {q : Nat × Nat} (h : za_cl o i = some q) (hk : q.1 < 6) (ht : za_th q.2 = true) : q.1 = 0 := by
  obtain ⟨e, he, -, rfl⟩ := za_fnd h
  have h1 := List.all_eq_true.mp zt_th_ok e he
  have hk : e.2.2.1 < 6 := hk
  have ht : za_th e.2.2.2.1 = true := ht
  simp only [Bool.or_eq_true, decide_eq_true_eq, ht, Bool.not_true, Bool.false_eq_true, or_false] at h1
  exact h1.resolve_left (by omega)
theorem za_tg.gi {ws : List Cond} (h : ∀ w ∈ ws, w ∈ za_tg) : GoodIn za_tg ws := fun w hw => ⟨h w hw, za_tg.good w (h w hw)⟩
section ZD
variable {p : Program} {L : Launch} {e : Env} {R : Room} {s : State} {m : MethodId} {args : Array Value} {below : List Frame} {meth : Method} {c : Code} {me : Nat} {D : va_G} {cA : Nat → ClassId} {A : Nat → Prop} {ad0 : Nat → Nat} {w0 wz : za_W} {v : za_O} {X : za_S → Prop}
set_option maxRecDepth 100000 in
set_option maxHeartbeats 4000000 in
theorem za_stepC {pc : Nat} {l : za_L} {st : List Value} {w : za_W} (F : za_F me D cA p R s m args meth c w0 wz A) (hX : ∀ s', X s' → za_Z p L e R s m args below meth c me D cA A ad0 w0 wz v s'.1 s'.2.1 s'.2.2.1 s'.2.2.2) {i : Instr} {n : Nat} (hd : decode (za_cc me) pc = .ok (i, n)) (hn : za_lk1 i n = true) (h : za_d me (za_M L) (fun o' w' => o' = v ∧ w' = wz) X (za_x me i pc l st w))
    (hi : ∃ j, i = .invokevirtual j ∨ i = .invokestatic j ∨ i = .invokespecial j) : za_Z p L e R s m args below meth c me D cA A ad0 w0 wz v pc l st w := by
  have F' := F
  obtain ⟨hx, hb, hml, hown, hts, hr, hlk, hK, hnw, hex, him, hRf, hRl, hRc, hRs, hZ⟩ := F'
  have h0 : za_d me (za_M L) (fun o' w' => o' = v ∧ w' = wz) X none → False := fun h => h
  have hcat : ∀ (ad : Nat → Nat) (r : List Value), (r.map fun v => v.category).sum ≤ 8 → ((r.map (za_v ad)).map fun v => v.category).sum ≤ 8 := fun ad r h => by rw [za_v.cats]; exact h
  obtain ⟨j, rfl | rfl | rfl⟩ := hi
  · obtain rfl : n = 3 := beq_iff_eq.mp hn
    have h9 := za_ov.iv h0 h
    clear h
    obtain ⟨q, hq, h⟩ := h9
    have h9 := za_if.iv h0 h
    clear h
    obtain ⟨hq1, h⟩ := h9
    have h9 := za_if.iv h0 h
    clear h
    obtain ⟨hrm, h⟩ := h9
    have h9 := za_p1r.iv h0 h
    clear h
    obtain ⟨a, r, hdr, h⟩ := h9
    have h9 := za_if.iv h0 h
    clear h
    obtain ⟨hct, h⟩ := h9
    have h9 := za_ob.iv h0 h
    clear h
    obtain ⟨ci, fs, hc, h⟩ := h9
    have h9 := za_if.iv h0 h
    clear h
    obtain ⟨⟨rfl, haw⟩, h⟩ := h9
    obtain ⟨o, w1, hY, hm⟩ := h
    obtain ⟨r1, r2, r3⟩ := za_rm.of hrm
    obtain ⟨k1, k2, k3, k4, k5, k6, k7⟩ := zt_w_of r1
    obtain ⟨l1, l2, l3, -, -⟩ := zt_c_of hq r1 (by omega)
    obtain ⟨l3, l4⟩ := l3 (by omega)
    obtain ⟨t1, t2⟩ := za_take hdr
    cases o with
    | inr x =>
      obtain ⟨hth, hm⟩ := hm
      have hz0 : q.1 = 0 := zt_th_of hq (by omega) hth
      obtain ⟨y1, y2, y3⟩ := hY r1 haw
      have y1 : w.1 ≤ w1.1 := y1
      have y2 : w.2.1 ≤ w1.2.1 := y2
      unfold za_tk at hm
      by_cases hme : 186 < me
      · rw [if_pos hme] at hm
        obtain ⟨p1, p2, ⟨fs9, hfs⟩, hm⟩ := hm
        have hz := hX _ hm
        have z1 : w1.1 ≤ wz.1 := hz.1.1
        have z2 : w1.2.1 ≤ wz.2.1 := hz.1.2
        refine ⟨⟨Nat.le_trans y1 z1, Nat.le_trans y2 z2⟩, fun ad H locs ls cells slots I hag hc9 hs9 => ?_⟩
        have hst : st.map (za_v ad) = (((st.take (za_np q.2)).reverse).map (za_v ad)).reverse ++ .ref (ad a) :: r.map (za_v ad) := by
          rw [za_asr]
          conv => lhs; rw [t1, List.map_append]
          rfl
        have hln : (((st.take (za_np q.2)).reverse).map (za_v ad)).length = za_np q.2 := by rw [List.length_map, List.length_reverse, t2]
        have ha := za_l.at (ad := ad) (cA := cA) I.W hc
        obtain ⟨cq, gq, -⟩ := I.P a _ ha
        have gq : vwCl[za_ow q.2]? = some cq := gq
        obtain ⟨cellB, b1, b2, b3⟩ := va_recv hK I.P gq ha
        have b3 : s.vm.findClass (za_y q.2).cls = some cellB.cls := by rw [← k2, ← zt_rn_of gq]; exact b3
        have hk7 := I.2.2.2.2.2.2.1
        have ka : ∀ u ∈ (Value.ref a :: (st.take (za_np q.2)).reverse), za_k w.1 u := zk_mk (hk7 _ (by rw [t1]; exact List.mem_append_right _ List.mem_cons_self)) (fun u hu => hk7 u (List.mem_of_mem_take (List.mem_reverse.mp hu)))
        have hA1 : ∀ y, va_A (za_l ad cA w) H.size y → A y := fun y hy => by
          rcases hy with ⟨k, z, hkz⟩ | hy
          · exact I.dd.2 k (y, z) hkz
          · exact I.aa y (Nat.le_trans I.S.1 hy)
        intro T hT X9
        obtain ⟨x', st₀, t, T', Lc, s1, XT, s2, s3, ⟨⟨ad1, g1, g2, g3, g4, g5, -, g6⟩, g7⟩, s4⟩ := za_callT (Q := za_Q D cA (va_A (za_l ad cA w) H.size) ad w (.inr x) w1) (free := va_A (za_l ad cA w) H.size) (mc := w1.1 - w.1) (ms := w1.2.1 - w.2.1) (rm := za_room q.2 w w1) X9 hx hown (hts _ (l1 (by omega))) (hts _ l3) (hts _ l4) (hts _ k1) k5 (pay_in hts (za_tg.gi (za_wq.in k1))) List.mem_cons_self (fun a' U hW => word_at hW (za_tg.good _ k7) (hts _ k7)) (y3 I.W ka D cA ad H.size) (za_Pre.blind D cA ad _ w _) (fun _ _ _ _ h => by obtain ⟨⟨_, -, e9, -⟩, -⟩ := h; exact ⟨_, e9⟩) (by rw [hRf]; exact r2) (by rw [hRl]; exact r3) (by rw [hRc]; show cells + (w1.1 - w.1) ≤ _; omega) (by rw [hRs]; show slots + (w1.2.1 - w.2.1) ≤ _; omega)
          (b := ad a) (cellB := cellB) (by rw [hT]; exact b1) b2 b3 (g := F0 m pc ls (st.map (za_v ad))) rfl (I.lv.1.trans hml.symm) (argsL := ((st.take (za_np q.2)).reverse).map (za_v ad)) (rest := r.map (za_v ad)) (fun sig hsig => by rw [hsig] at k6; exact hln.trans (Option.some.inj k6).symm) hst (lv_room (hcat ad r hct)) (by rw [hb]; exact hd) (fun U hU hW => ⟨rfl, by rw [hU, hT], by rw [hU, hT]; exact I.P, va_K.moved hW.alike hK, I.dd.weaken (fun _ _ _ _ => trivial), za_nw.warm hW hnw, zb_Z.go hZ I.S hA1 (hU.trans hT) hW⟩)
        have g2 : Outcome.threw x' = .threw (ad1 x) := g2
        cases g2
        have hTH : T'.heap = t.heap := s3
        have hs0 : st₀.heap = H := s1.trans hT
        obtain ⟨f1, f2⟩ := g7
        rw [hs0] at f1 f2
        have hx9 := za_l.at (ad := ad1) (cA := cA) g5 hfs
        obtain ⟨cq9, gq9, -⟩ := g3 x _ hx9
        have gq9 : vwCl[13]? = some cq9 := gq9
        obtain ⟨cell9, b19, b29, b39⟩ := va_recv hK g3 gq9 hx9
        have b39 : s.vm.findClass "SortPacksModel$Broken" = some cell9.cls := by
          have e9 := zt_rn_of gq9
          rw [e9] at b39
          exact b39
        obtain ⟨-, hfc9, kC9, hkC9, hkind9⟩ := hK.1 13 cq9 gq9
        have hasg := va_assign (s := s) (C := cq9.1) ⟨hfc9, kC9, hkC9, hkind9⟩
        have e8 : D.1 13 = cell9.cls := Option.some.inj (hfc9.symm.trans (by rw [zt_rn_of gq9]; exact b39))
        rw [e8] at hasg
        obtain ⟨x0, hone, hcov, hcat0, hlk0, hhp⟩ := za_xt.one hex hme p1 p2
        obtain ⟨vm', XV, st9⟩ := zh_take XT (ad1 x) (g := { F0 m pc ls (st.map (za_v ad)) with stack := r.map (za_v ad) }) rfl hown hone hcov (by rw [hcat0]; decide) (name := "SortPacksModel$Broken") (by rw [hcat0]; exact hts _ hlk0) b39 (by rw [hTH]; exact b19) b29 hasg
        have h9 := hz.2 ad1 T'.heap (locs ++ Lc) ls (cells + (w1.1 - w.1)) (slots + (w1.2.1 - w.2.1)) ⟨by rw [hTH]; exact g3, g4.weaken (fun _ _ _ h => hA1 _ h), ⟨by rw [hTH]; exact Nat.le_trans I.S.1 f1, fun y h1 h2 => by rw [hTH, f2 y (Nat.lt_of_lt_of_le h1 I.S.1) (fun z => h2 (hA1 y z))]; exact I.S.2.1 y h1 h2, fun y hy => (List.mem_append.mp hy).elim (I.S.2.2 y) (fun h => hA1 _ (s2 y h))⟩, I.aa, g5, fun y hy => (I.2.2.2.2.2.1 y hy).mono y1, zk_mk (g6 x rfl) (fun y hy => by cases hy), by rw [za_ls.agree g1 I.2.2.2.2.2.1]; exact I.lv⟩ (fun k hk9 => by rw [g1 k (by omega)]; exact hag k hk9) (by show cells + (w1.1 - w.1) + w0.1 = w1.1; omega) (by show slots + (w1.2.1 - w.2.1) + w0.2.1 = w1.2.1; omega)
        obtain ⟨t2, a2, b2⟩ := h9 (T'.setVm vm') rfl XV
        refine ⟨t2, s4 _ (st9 _ ?_), b2⟩
        rw [hhp]
        exact a2
      rw [if_neg hme] at hm
      obtain ⟨e1, e2⟩ := hm
      subst e1
      subst e2
      refine ⟨⟨y1, y2⟩, fun ad H locs ls cells slots I hag hc9 hs9 => ?_⟩
      have hst : st.map (za_v ad) = (((st.take (za_np q.2)).reverse).map (za_v ad)).reverse ++ .ref (ad a) :: r.map (za_v ad) := by
        rw [za_asr]
        conv => lhs; rw [t1, List.map_append]
        rfl
      have hln : (((st.take (za_np q.2)).reverse).map (za_v ad)).length = za_np q.2 := by rw [List.length_map, List.length_reverse, t2]
      have ha := za_l.at (ad := ad) (cA := cA) I.W hc
      obtain ⟨cq, gq, -⟩ := I.P a _ ha
      have gq : vwCl[za_ow q.2]? = some cq := gq
      obtain ⟨cellB, b1, b2, b3⟩ := va_recv hK I.P gq ha
      have b3 : s.vm.findClass (za_y q.2).cls = some cellB.cls := by rw [← k2, ← zt_rn_of gq]; exact b3
      have hk7 := I.2.2.2.2.2.2.1
      have ka : ∀ u ∈ (Value.ref a :: (st.take (za_np q.2)).reverse), za_k w.1 u := zk_mk (hk7 _ (by rw [t1]; exact List.mem_append_right _ List.mem_cons_self)) (fun u hu => hk7 u (List.mem_of_mem_take (List.mem_reverse.mp hu)))
      have hA1 : ∀ y, va_A (za_l ad cA w) H.size y → A y := fun y hy => by
        rcases hy with ⟨k, z, hkz⟩ | hy
        · exact I.dd.2 k (y, z) hkz
        · exact I.aa y (Nat.le_trans I.S.1 hy)
      intro T hT X9
      obtain ⟨x', st₀, t, T', Lc, s1, XT, s2, s3, ⟨⟨ad1, g1, g2, g3, g4, g5, -, g6⟩, g7⟩, s4⟩ := za_callT (Q := za_Q D cA (va_A (za_l ad cA w) H.size) ad w (.inr x) w1) (free := va_A (za_l ad cA w) H.size) (mc := w1.1 - w.1) (ms := w1.2.1 - w.2.1) (rm := za_room q.2 w w1) X9 hx hown (hts _ (l1 (by omega))) (hts _ l3) (hts _ l4) (hts _ k1) k5 (pay_in hts (za_tg.gi (za_wq.in k1))) List.mem_cons_self (fun a' U hW => word_at hW (za_tg.good _ k7) (hts _ k7)) (y3 I.W ka D cA ad H.size) (za_Pre.blind D cA ad _ w _) (fun _ _ _ _ h => by obtain ⟨⟨_, -, e9, -⟩, -⟩ := h; exact ⟨_, e9⟩) (by rw [hRf]; exact r2) (by rw [hRl]; exact r3) (by rw [hRc]; show cells + (w1.1 - w.1) ≤ _; omega) (by rw [hRs]; show slots + (w1.2.1 - w.2.1) ≤ _; omega)
        (b := ad a) (cellB := cellB) (by rw [hT]; exact b1) b2 b3 (g := F0 m pc ls (st.map (za_v ad))) rfl (I.lv.1.trans hml.symm) (argsL := ((st.take (za_np q.2)).reverse).map (za_v ad)) (rest := r.map (za_v ad)) (fun sig hsig => by rw [hsig] at k6; exact hln.trans (Option.some.inj k6).symm) hst (lv_room (hcat ad r hct)) (by rw [hb]; exact hd) (fun U hU hW => ⟨rfl, by rw [hU, hT], by rw [hU, hT]; exact I.P, va_K.moved hW.alike hK, I.dd.weaken (fun _ _ _ _ => trivial), za_nw.warm hW hnw, zb_Z.go hZ I.S hA1 (hU.trans hT) hW⟩)
      have g2 : Outcome.threw x' = .threw (ad1 x) := g2
      cases g2
      obtain ⟨u1, u2, u3, u4, u5⟩ := XT.leaveThrown (ad1 x) (g := { F0 m pc ls (st.map (za_v ad)) with stack := r.map (za_v ad) }) rfl rfl rfl (by rw [za_xt.no hex (Nat.not_lt.mp hme)]; intro z hz; cases hz) hlk
      have hTH : T'.heap = t.heap := s3
      have hs0 : st₀.heap = H := s1.trans hT
      obtain ⟨f1, f2⟩ := g7
      rw [hs0] at f1 f2
      have ec : cells + (w1.1 - w.1) = w1.1 - w0.1 := by omega
      have es : slots + (w1.2.1 - w.2.1) = w1.2.1 - w0.2.1 := by omega
      rw [ec, es] at u5
      refine ⟨_, s4 _ u1, .threw (ad1 x), u2, u3, ⟨⟨ad1, fun k hk => (g1 k (by omega)).trans (hag k hk), rfl, ?_, g4.weaken (fun _ _ _ h => hA1 _ h), g5, (fun y hy => by cases hy), (fun y hy => by cases hy; exact g6 x rfl)⟩, ?_, ?_⟩, locs ++ Lc, ⟨u4, u5⟩, fun y hy => (List.mem_append.mp hy).elim (I.S.2.2 y) (fun h => hA1 _ (s2 y h))⟩
      · show va_P D vwCl (za_l ad1 cA w1) T'.heap
        rw [hTH]
        exact g3
      · show s.heap.size ≤ T'.heap.size
        rw [hTH]
        exact Nat.le_trans I.S.1 f1
      · intro y hy hn9
        show T'.heap[y]? = s.heap[y]?
        rw [hTH, f2 y (Nat.lt_of_lt_of_le hy I.S.1) (fun z => hn9 (hA1 y z))]
        exact I.S.2.1 y hy hn9
    | inl v1 =>
      refine za_Z.call F r1 haw hY (hX _ hm) (fun hk => ⟨fun u hu => hk u (by rw [t1]; exact List.mem_append_right _ (List.mem_cons_of_mem _ hu)), zk_mk (hk _ (by rw [t1]; exact List.mem_append_right _ List.mem_cons_self)) (fun u hu => hk u (List.mem_of_mem_take (List.mem_reverse.mp hu)))⟩) (fun ad H locs ls cells slots I hf hM hPre => ?_)
      have hst : st.map (za_v ad) = (((st.take (za_np q.2)).reverse).map (za_v ad)).reverse ++ .ref (ad a) :: r.map (za_v ad) := by
        rw [za_asr]
        conv => lhs; rw [t1, List.map_append]
        rfl
      have hln : (((st.take (za_np q.2)).reverse).map (za_v ad)).length = za_np q.2 := by rw [List.length_map, List.length_reverse, t2]
      have hrec : ∃ cellB : Cell, H[ad a]? = some cellB ∧ cellB.vm.isStatics = false ∧ s.vm.findClass (za_y q.2).cls = some cellB.cls := by
        have ha := za_l.at (ad := ad) (cA := cA) I.W hc
        obtain ⟨cq, g1, -⟩ := I.P a _ ha
        have g1 : vwCl[za_ow q.2]? = some cq := g1
        obtain ⟨cell, g2, g3, g4⟩ := va_recv hK I.P g1 ha
        exact ⟨cell, g2, g3, by rw [← k2, ← zt_rn_of g1]; exact g4⟩
      have hp : PreV s H (za_y q.2).cls (ad a) (za_Pre D cA ad (.ref a :: (st.take (za_np q.2)).reverse) w H.size) (((st.take (za_np q.2)).reverse).map (za_v ad)) := ⟨za_Pre.blind D cA ad _ w _, hrec, hPre⟩
      rcases hq1 with e1 | e1
      · have hl := hts _ (l1 (by omega))
        have cb : CallB R s args (za_rn (za_ow me)) j (za_y q.2) (za_cc q.2) (za_mx q.2) (za_re q.2) (za_wq q.2) (za_room q.2 w w1) (w1.1 - w.1) (w1.2.1 - w.2.1) (za_np q.2) := callB_of (za_np q.2) hts (za_tg.gi (za_wq.in k1)) rfl rfl rfl (hts _ k7) hl ⟨k5.1, k5.2, k6⟩ ⟨by rw [hRf]; exact r2, by rw [hRl]; exact r3⟩
        exact ⟨_, va_runV ⟨hx, hb, hml, hown, hts⟩ hM ⟨cb, hts _ l3, hts _ l4⟩ hp rfl hln I.lv.1 hst (lv_room (hcat ad r hct)) hd hf⟩
      · obtain ⟨host, hl⟩ := l2 (by omega)
        have cb : va_CN R s args (za_rn (za_ow me)) j (za_y q.2) host (za_cc q.2) (za_mx q.2) (za_re q.2) (za_wq q.2) (za_room q.2 w w1) (w1.1 - w.1) (w1.2.1 - w.2.1) (za_np q.2) := va_cnB (za_np q.2) hts (za_tg.gi (za_wq.in k1)) rfl rfl rfl (hnw _ hl) (hts _ k7) ⟨k5.1, k5.2, k6⟩ ⟨by rw [hRf]; exact r2, by rw [hRl]; exact r3⟩
        exact ⟨_, va_runVN ⟨hx, hb, hml, hown, hts⟩ hM ⟨cb, hts _ l3, hts _ l4⟩ hp rfl hln I.lv.1 hst (lv_room (hcat ad r hct)) hd hf⟩
  · obtain rfl : n = 3 := beq_iff_eq.mp hn
    have h9 := za_ov.iv h0 h
    clear h
    obtain ⟨q, hq, h⟩ := h9
    obtain ⟨-, b7, b8, b9, -⟩ := zt_b_of hq
    by_cases c1 : q.1 = 2 ∨ q.1 = 3
    · rw [if_pos c1] at h
      have h9 := za_if.iv h0 h
      clear h
      obtain ⟨hrm, h⟩ := h9
      have h9 := za_if.iv h0 h
      clear h
      obtain ⟨hle, h⟩ := h9
      have h9 := za_if.iv h0 h
      clear h
      obtain ⟨⟨hct, haw⟩, h⟩ := h9
      obtain ⟨o, w1, hY, hm⟩ := h
      obtain ⟨r1, r2, r3⟩ := za_rm.of hrm
      obtain ⟨k1, k2, k3, k4, k5, k6, k7⟩ := zt_w_of r1
      obtain ⟨l1, l2, -, l3, -⟩ := zt_c_of hq r1 (by omega)
      have l3 := l3 (by omega)
      cases o with
      | inr x => exact absurd (zt_th_of hq (by omega) hm.1) (by omega)
      | inl v1 =>
        refine za_Z.call F r1 haw hY (hX _ hm) (fun hk => ⟨fun u hu => hk u (List.mem_of_mem_drop hu), fun u hu => hk u (List.mem_of_mem_take (List.mem_reverse.mp hu))⟩) (fun ad H locs ls cells slots I hf hM hPre => ?_)
        have hst : st.map (za_v ad) = (((st.take (za_np q.2)).reverse).map (za_v ad)).reverse ++ (st.drop (za_np q.2)).map (za_v ad) := by
          rw [za_asr, ← List.map_append, List.take_append_drop]
        have hln : (((st.take (za_np q.2)).reverse).map (za_v ad)).length = za_np q.2 := by rw [List.length_map, List.length_reverse, List.length_take]; omega
        have hp : PreS s H (za_Pre D cA ad ((st.take (za_np q.2)).reverse) w H.size) (((st.take (za_np q.2)).reverse).map (za_v ad)) := ⟨za_Pre.blind D cA ad _ w _, hPre⟩
        rcases c1 with e1 | e1
        · have hl := hts _ (l1 (by omega))
          have cb : CallB R s args (za_rn (za_ow me)) j (za_y q.2) (za_cc q.2) (za_mx q.2) (za_re q.2) (za_wq q.2) (za_room q.2 w w1) (w1.1 - w.1) (w1.2.1 - w.2.1) (za_np q.2) := callB_of (za_np q.2) hts (za_tg.gi (za_wq.in k1)) rfl rfl rfl (hts _ k7) hl ⟨k5.1, k5.2, k6⟩ ⟨by rw [hRf]; exact r2, by rw [hRl]; exact r3⟩
          exact ⟨_, va_runS ⟨hx, hb, hml, hown, hts⟩ hM ⟨cb, hts _ l3⟩ hp rfl hln I.lv.1 hst (lv_room (hcat ad _ hct)) hd hf⟩
        · obtain ⟨host, hl⟩ := l2 (by omega)
          have cb : va_CN R s args (za_rn (za_ow me)) j (za_y q.2) host (za_cc q.2) (za_mx q.2) (za_re q.2) (za_wq q.2) (za_room q.2 w w1) (w1.1 - w.1) (w1.2.1 - w.2.1) (za_np q.2) := va_cnB (za_np q.2) hts (za_tg.gi (za_wq.in k1)) rfl rfl rfl (hnw _ hl) (hts _ k7) ⟨k5.1, k5.2, k6⟩ ⟨by rw [hRf]; exact r2, by rw [hRl]; exact r3⟩
          exact ⟨_, va_runSN ⟨hx, hb, hml, hown, hts⟩ hM ⟨cb, hts _ l3, trivial⟩ hp rfl hln I.lv.1 hst (lv_room (hcat ad _ hct)) hd hf⟩
    · rw [if_neg c1] at h
      by_cases c7 : q.1 = 7
      · rw [if_pos c7] at h
        have h9 := za_p2i.iv h0 h
        clear h
        obtain ⟨x, y, r, rfl, h⟩ := h9
        have h9 := za_if.iv h0 h
        clear h
        obtain ⟨⟨f1, f2⟩, h⟩ := h9
        have hz := hX _ h
        refine ⟨hz.1, fun ad H locs ls cells slots I hag hc hs => ?_⟩
        have z1 : w.1 ≤ wz.1 := hz.1.1
        have z2 : w.2.1 ≤ wz.2.1 := hz.1.2
        have I' := I
        obtain ⟨i1, i2, i3, i4, i5, i6, i7, i8⟩ := I'
        exact va_mmax (rest := r.map (za_v ad)) hx hb (hml.trans I.lv.1.symm) hown (hts _ (b7 c7)) (hts _ zw_xs) (hts _ zw_mi) (hts _ zw_xc) (by rw [hRf]; exact f1) (by rw [za_v.cats, hRl]; exact f2) (by omega) (by omega) hd (hz.2 ad H locs ls cells slots ⟨i1, i2, i3, i4, i5, i6, zk_mk trivial (zk_tl (zk_tl i7)), i8⟩ hag hc hs)
      · rw [if_neg c7] at h
        by_cases c8 : q.1 = 8
        · rw [if_pos c8] at h
          have h9 := za_p2i.iv h0 h
          clear h
          obtain ⟨x, y, r, rfl, h⟩ := h9
          have h9 := za_if.iv h0 h
          clear h
          obtain ⟨⟨f1, f2⟩, h⟩ := h9
          have hz := hX _ h
          refine ⟨hz.1, fun ad H locs ls cells slots I hag hc hs => ?_⟩
          have z1 : w.1 ≤ wz.1 := hz.1.1
          have z2 : w.2.1 ≤ wz.2.1 := hz.1.2
          have I' := I
          obtain ⟨i1, i2, i3, i4, i5, i6, i7, i8⟩ := I'
          exact va_mmin (rest := r.map (za_v ad)) hx hb (hml.trans I.lv.1.symm) hown (hts _ (b8 c8)) (hts _ zw_ns) (hts _ zw_mi) (hts _ zw_nc) (by rw [hRf]; exact f1) (by rw [za_v.cats, hRl]; exact f2) (by omega) (by omega) hd (hz.2 ad H locs ls cells slots ⟨i1, i2, i3, i4, i5, i6, zk_mk trivial (zk_tl (zk_tl i7)), i8⟩ hag hc hs)
        · rw [if_neg c8] at h
          have h9 := za_if.iv h0 h
          clear h
          obtain ⟨c9, h⟩ := h9
          have h9 := za_pcp.iv h0 h
          clear h
          obtain ⟨a, sp, d, dp, k9, r, rfl, h⟩ := h9
          have h9 := za_if.iv h0 h
          clear h
          obtain ⟨⟨f1, f2⟩, h⟩ := h9
          have h9 := za_ai.iv h0 h
          clear h
          obtain ⟨t0, n0, f, ha, h⟩ := h9
          have h9 := za_ai.iv h0 h
          clear h
          obtain ⟨t1, n1, g, hc, h⟩ := h9
          have h9 := za_if.iv h0 h
          clear h
          obtain ⟨⟨rfl, ht, g1, g2, g3, g4, g5, g6⟩, h⟩ := h9
          refine za_Z.ch (hX _ h) (fun kw k => ⟨zk_tl (zk_tl (zk_tl (zk_tl (zk_tl k)))), (kw d _ hc).1, trivial⟩) (fun ad H locs ls cells slots I kk => ?_)
          rcases ht with rfl | rfl
          · exact va_copyi (rest := r.map (za_v ad)) hx hb (hml.trans I.lv.1.symm) hown (hts _ (b9 c9)) (hts _ zw_an) (hts _ zw_as) (hts _ zw_si) hK I.P I.dd I.S a d 0 0 (za_l.at I.W ha) (za_l.at I.W hc) (za_t.at cA rfl) (za_t.at cA rfl) rfl g1 g2 g3 g4 g5 g6 (by rw [hRf]; exact f1) (by rw [za_v.cats, hRl]; exact f2) hd kk
          · exact va_copyi (rest := r.map (za_v ad)) hx hb (hml.trans I.lv.1.symm) hown (hts _ (b9 c9)) (hts _ zw_an) (hts _ zw_as) (hts _ zw_si) hK I.P I.dd I.S a d 1 1 (za_l.at I.W ha) (za_l.at I.W hc) (za_t.at cA rfl) (za_t.at cA rfl) rfl g1 g2 g3 g4 g5 g6 (by rw [hRf]; exact f1) (by rw [za_v.cats, hRl]; exact f2) hd kk
  · obtain rfl : n = 3 := beq_iff_eq.mp hn
    have h9 := za_ov.iv h0 h
    clear h
    obtain ⟨q, hq, h⟩ := h9
    obtain ⟨b6, -, -, -, b10⟩ := zt_b_of hq
    by_cases c1 : q.1 = 4 ∨ q.1 = 5
    · rw [if_pos c1] at h
      have h9 := za_if.iv h0 h
      clear h
      obtain ⟨hrm, h⟩ := h9
      have h9 := za_p1r.iv h0 h
      clear h
      obtain ⟨a, r, hdr, h⟩ := h9
      have h9 := za_if.iv h0 h
      clear h
      obtain ⟨⟨hct, haw⟩, h⟩ := h9
      obtain ⟨o, w1, hY, hm⟩ := h
      obtain ⟨r1, r2, r3⟩ := za_rm.of hrm
      obtain ⟨k1, k2, k3, k4, k5, k6, k7⟩ := zt_w_of r1
      obtain ⟨l1, l2, -, -, l3⟩ := zt_c_of hq r1 (by omega)
      obtain ⟨l3, l4⟩ := l3 (by omega)
      have hre : za_re q.2 = none := of_decide_eq_true (List.all_eq_true.mp zt_ir q.2 (List.mem_range.mpr r1)) l4
      obtain ⟨t1, t2⟩ := za_take hdr
      cases o with
      | inr x => exact absurd (zt_th_of hq (by omega) hm.1) (by omega)
      | inl v1 =>
        refine za_Z.call F r1 haw hY (hX _ hm) (fun hk => ⟨fun u hu => hk u (by rw [t1]; exact List.mem_append_right _ (List.mem_cons_of_mem _ hu)), zk_mk (hk _ (by rw [t1]; exact List.mem_append_right _ List.mem_cons_self)) (fun u hu => hk u (List.mem_of_mem_take (List.mem_reverse.mp hu)))⟩) (fun ad H locs ls cells slots I hf hM hPre => ?_)
        have hst : st.map (za_v ad) = (((st.take (za_np q.2)).reverse).map (za_v ad)).reverse ++ .ref (ad a) :: r.map (za_v ad) := by
          rw [za_asr]
          conv => lhs; rw [t1, List.map_append]
          rfl
        have hln : (((st.take (za_np q.2)).reverse).map (za_v ad)).length = za_np q.2 := by rw [List.length_map, List.length_reverse, t2]
        have hp : PreS s H (za_Pre D cA ad (.ref a :: (st.take (za_np q.2)).reverse) w H.size) (.ref (ad a) :: ((st.take (za_np q.2)).reverse).map (za_v ad)) := ⟨za_Pre.blind D cA ad _ w _, hPre⟩
        rcases c1 with e1 | e1
        · have hl := hts _ (l1 (by omega))
          have cb : CallB R s args (za_rn (za_ow me)) j (za_y q.2) (za_cc q.2) (za_mx q.2) none (za_wq q.2) (za_room q.2 w w1) (w1.1 - w.1) (w1.2.1 - w.2.1) (za_np q.2) := callB_of (ws' := za_tg) (za_np q.2) hts (za_tg.gi (za_wq.in k1)) (by unfold za_wq; rw [hre]) rfl rfl (hts _ k7) hl ⟨k5.1, k5.2, k6⟩ ⟨by rw [hRf]; exact r2, by rw [hRl]; exact r3⟩
          exact ⟨_, va_runI ⟨hx, hb, hml, hown, hts⟩ hM ⟨cb, l4, hts _ l3⟩ hp rfl hln I.lv.1 hst (lv_room (hcat ad r hct)) hd hf⟩
        · obtain ⟨host, hl⟩ := l2 (by omega)
          have cb : va_CN R s args (za_rn (za_ow me)) j (za_y q.2) host (za_cc q.2) (za_mx q.2) none (za_wq q.2) (za_room q.2 w w1) (w1.1 - w.1) (w1.2.1 - w.2.1) (za_np q.2) := va_cnB (ws' := za_tg) (za_np q.2) hts (za_tg.gi (za_wq.in k1)) (by unfold za_wq; rw [hre]) rfl rfl (hnw _ hl) (hts _ k7) ⟨k5.1, k5.2, k6⟩ ⟨by rw [hRf]; exact r2, by rw [hRl]; exact r3⟩
          exact ⟨_, va_runIN ⟨hx, hb, hml, hown, hts⟩ hM ⟨cb, l4, hts _ l3⟩ hp rfl hln I.lv.1 hst (lv_room (hcat ad r hct)) hd hf⟩
    · rw [if_neg c1] at h
      by_cases c10 : q.1 = 10
      · rw [if_pos c10] at h
        have h9 := za_p5.iv h0 h
        clear h
        obtain ⟨a, r, rfl, h⟩ := h9
        have h9 := za_ob.iv h0 h
        clear h
        obtain ⟨ci, fs, hc, h⟩ := h9
        have h9 := za_if.iv h0 h
        clear h
        obtain ⟨⟨rfl, rfl, f1, f2, f3⟩, h⟩ := h9
        have hz := hX _ h
        refine ⟨hz.1, fun ad H locs ls cells slots I hag hc9 hs9 => ?_⟩
        have z1 : w.1 ≤ wz.1 := hz.1.1
        have z2 : w.2.1 ≤ wz.2.1 := hz.1.2
        have ha : (za_l ad cA w)[a]? = some (ad a, .inr (13, zb_f)) := za_l.at (ad := ad) (cA := cA) I.W hc
        have hA1 : ∀ y, va_A (zb_o (ad a)) H.size y → A y := fun y hy => by
          rcases hy with ⟨k, z, hkz⟩ | hy
          · have hk0 : k < 1 := (List.getElem?_eq_some_iff.mp hkz).1
            obtain rfl : k = 0 := by omega
            have hkz := Option.some.inj hkz
            have : y = ad a := (congrArg Prod.fst hkz).symm
            rw [this]
            exact I.dd.2 a _ ha
          · exact I.aa y (Nat.le_trans I.S.1 hy)
        have hPo : va_P D vwCl (zb_o (ad a)) H := fun k y hk => by
          have hk0 : k < 1 := (List.getElem?_eq_some_iff.mp hk).1
          obtain rfl : k = 0 := by omega
          cases Option.some.inj hk
          exact I.P a _ ha
        have hDo : va_D (fun _ => True) (zb_o (ad a)) := ⟨fun i j y z hi hj _ => by
          have h1 : i < 1 := (List.getElem?_eq_some_iff.mp hi).1
          have h2 : j < 1 := (List.getElem?_eq_some_iff.mp hj).1
          omega, fun _ _ _ => trivial⟩
        have cb : CallB R s args (za_rn (za_ow me)) j zb_yR zb_cR 5 none (Cond.code zb_yR zb_cR 5 none :: za_tg) { frames := 3, cells := 0, slots := 0, locals := 61 } 0 0 4 := callB_of (ws' := za_tg) 4 hts (za_tg.gi0 zb_wR) rfl rfl rfl (hts _ zb_iR) (hts _ (b10 c10)) (by decide +kernel) ⟨by rw [hRf]; exact f1, by rw [hRl]; exact f2⟩
        refine va_callv (va_runI (b := ad a) (As := [.null, .null, .int 0, .int 0]) (rest := r.map (za_v ad)) ⟨hx, hb, hml, hown, hts⟩ (zb_R L D (ad a) H.size) ⟨cb, rfl, hts _ zb_nR⟩ ⟨fun a9 U g mk h => ?_, fun U hU hW => ⟨rfl, by rw [hU], by rw [hU]; exact hPo, va_K.moved hW.alike (hK.sub [] rfl), hDo, zb_Z.go hZ I.S hA1 hU hW⟩⟩ rfl rfl I.lv.1 rfl (lv_room (hcat ad r f3)) hd ⟨by rw [hRc]; omega, by rw [hRs]; omega⟩) I.S (fun q _ h => hA1 q h) hA1 (fun u t H1 locs1 e1 e2 e3 e4 k1 k2 k3 => ?_)
        · obtain ⟨h1, h2, h3, h4, h5, h6⟩ := h
          exact ⟨h1, h2, h3, va_K.moved (u := U) (U := U.calling g mk a9) (Vm.Alike.refl U.vm) h4, h5, zb_Z.calling (U := U) (V := U.calling g mk a9) rfl rfl h6⟩
        · refine hz.2 ad H1 locs1 ls cells slots ⟨fun k y hk => ?_, I.dd, k3, I.aa, I.W, I.2.2.2.2.2.1, zk_tl (zk_tl (zk_tl (zk_tl (zk_tl I.2.2.2.2.2.2.1)))), I.lv⟩ hag hc9 hs9
          by_cases hka : k = a
          · subst hka
            cases Option.some.inj (hk.symm.trans ha)
            rw [← e1]
            exact e4 0 _ rfl
          · refine (I.P k y hk).kept (k2 y.1 (I.P k y hk).lt (fun hy => ?_))
            rcases hy with ⟨i, z, hiz⟩ | hy
            · have hi0 : i < 1 := (List.getElem?_eq_some_iff.mp hiz).1
              obtain rfl : i = 0 := by omega
              have hiz := Option.some.inj hiz
              have h7 : y.1 = ad a := (congrArg Prod.fst hiz).symm
              exact hka (I.dd.1 k a y _ hk ha h7)
            · have := (I.P k y hk).lt
              omega
      rw [if_neg c10] at h
      have h9 := za_if.iv h0 h
      clear h
      obtain ⟨c6, h⟩ := h9
      have h9 := za_p1r.iv h0 h
      clear h
      obtain ⟨a, r, rfl, h⟩ := h9
      have h9 := za_if.iv h0 h
      clear h
      obtain ⟨⟨f1, f2⟩, h⟩ := h9
      refine za_Z.st (hX _ h) (fun _ _ k => zk_tl k) (fun ad H locs ls cells slots I k => ?_)
      exact W.objInit (rest := r.map (za_v ad)) hx hb hown (hts _ (b6 c6)) (hts _ zw_oi) (hts _ zw_oc) rfl (I.lv.1.trans hml.symm) rfl hd (by rw [hRf]; exact f1) (by rw [za_v.cats, hRl]; show 2 * 0 + _ + 12 ≤ _; omega) k
end ZD
