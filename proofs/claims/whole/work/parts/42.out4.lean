/-! OUT, 4: the law's own out, that takes the throw. -/
set_option maxRecDepth 100000 in
theorem zo_lk : Cond.classLink "SortPacksLaw" 13 zo_X ∈ za_tg := za_tg.of (p := 967) (by decide +kernel) rfl
def zo_ws : List Cond := Cond.codeWith (za_y 189) (za_cc 189) 4 (some .int) [(0, 9, 12, 13)] :: za_tg
def zo_rm : Room := { frames := 8, cells := 1, slots := 6, locals := 116 }
def zo_lP (D : va_G) (cA : Nat → ClassId) (ad : Nat → Nat) (w : za_W) (no : Nat) (p0 : Int32) (sz : Nat) : Array Value → State → Prop := fun a U => za_Pre D cA ad [.ref 0, .int p0, .ref no] w sz a U ∧ zo_Z (va_A (za_l ad cA w) sz) U
theorem zo_W {p : Program} {l : Launch} {e : Env} {R : Room} {s : State} {m : MethodId} {args : Array Value} {below : List Frame} {meth : Method} {c : Code} {H : Heap} {locs : List Loc} {cells slots k n : Nat} {Q : State → Prop} {g : JFrame} (h1 : cells ≤ k) (h2 : slots ≤ n) (kk : W p l e R s m args below meth c H locs k n Q g) : W p l e R s m args below meth c H locs cells slots Q g := W.widen h1 h2 kk
set_option maxHeartbeats 4000000 in
set_option maxRecDepth 100000 in
/-- it comes back with 0, the byte in the row -/
theorem zo_n (l : Launch) (D : va_G) (cA : Nat → ClassId) (ad : Nat → Nat) {w w1 : za_W} {no : Nat} {v p0 : Int32} {f : Nat → Int64} {fs : List Value} (sz : Nat) (kw : za_kw w) (h0 : w.2.2 0 = some (.inr (12, fs))) (hE : za_E 117 [.ref 0, .int p0] w (.inl (some (.int v))) w1) (hn1 : w1.1 = w.1) (hn2 : w1.2.1 = w.2.1) (hno : no < w.1) (ho : w1.2.2 no = some (.inl (2, 1, .inr (.inl f)))) :
    Met l (za_y 189) zo_ws zo_rm (zo_lP D cA ad w no p0 sz) (za_Q D cA (va_A (za_l ad cA w) sz) ad w (.inl (some (.int 0))) (za_up w1 no (.inl (2, 1, .inr (.inl (vp_updL f 0 v.toInt64)))))) 1 6 (va_A (za_l ad cA w) sz) := by
  refine va_MetW (cc := za_cc 189) (maxL := 4) (ret := some .int) (hh := [(0, 9, 12, 13)]) (by decide +kernel) rfl ?_
  intro p e s m args below meth c s₁ B hml hv
  obtain ⟨⟨rfl, hsz, hP, hK, hD0, hnw, hZ⟩, hZo⟩ := hv
  have hx := B.exec
  have hb : c.code = cL_out := B.bytes
  have hr := B.returns
  have hts0 := atoms_spec (ws := zo_ws) B.pre
  have hts : ∀ w ∈ za_tg, w.before _ s = true := fun w hw => hts0 w (List.mem_cons_of_mem _ hw)
  have hown : s.vm.findClass "SortPacksLaw" = some m.cls := findClass_of_methodNamed B.named
  subst hsz
  have hD := hD0.self (sz := s.heap.size)
  have hl := lv_entry ([.ref (ad 0), .int p0, .ref (ad no)]) (n := 4) (Nat.le_of_ble_eq_true rfl)
  show W p l e zo_rm s m _ below meth c s.heap [] 0 0 _ (entryFrame m ([.ref (ad 0), .int p0, .ref (ad no)] : List Value).toArray 4)
  rw [lg_entry_eq]
  generalize (lg_sl ([.ref (ad 0), .int p0, .ref (ad no)]) ++ List.replicate (4 - (lg_sl ([.ref (ad 0), .int p0, .ref (ad no)])).length) Slot.unset).toArray = ls at hl ⊢
  have hl : lv_has ls 4 [(0, .ref (ad 0)), (1, .int p0), (2, .ref (ad no))] := hl
  have hS : va_S (va_A (za_l ad cA w) s.heap.size) s.heap s.heap [] := va_S.rf
  refine lv_aload_n hx hb dL_out_0 rfl (lv_at hl 2 rfl) ?_
  refine lv_iconst (v := 0) hx hb dL_out_1 (by decide) ?_
  refine lv_aload_n hx hb dL_out_2 rfl (lv_at hl 0 rfl) ?_
  refine lv_iload_n hx hb dL_out_3 rfl (lv_at hl 1 rfl) ?_
  have hm : 117 < zt_mp0.length := by decide +kernel
  obtain ⟨y1, y2, y3⟩ := za_E.met (L := l) hE hm (Nat.le_of_ble_eq_true rfl)
  obtain ⟨k1, k2, k3, k4, k5, k6, k7⟩ := zt_w_of hm
  obtain ⟨i1, -, i3, -, -⟩ := zt_c_of (o := 15) (i := 7) (q := (0, 117)) (by decide +kernel) hm (by show 0 < 6; decide)
  have i1 : Cond.methodLink "SortPacksLaw" 7 (za_y 117) ∈ za_tg := i1 (by show 0 % 2 = 0; decide)
  have i3 : Cond.instanceMethod (za_y 117) ∈ za_tg ∧ Cond.selects (za_y 117).cls (za_y 117) (za_y 117) ∈ za_tg := i3 (by show 0 / 2 = 0; decide)
  have ka : ∀ u ∈ ([Value.ref 0, .int p0] : List Value), za_k w.1 u := zk_mk (kw 0 _ h0).1 (zk_mk trivial (fun _ h => by cases h))
  have hM := (y3 kw ka D cA ad s.heap.size).met
  have ha := za_l.at (ad := ad) (cA := cA) kw h0
  obtain ⟨cellB, b1, b2, b3⟩ := va_recv (q := (RX11, TX11, 7)) hK hP rfl ha
  have e1 : w1.1 - w.1 = 0 := by omega
  have e2 : w1.2.1 - w.2.1 = 0 := by omega
  have cb : CallB zo_rm s ([.ref (ad 0), .int p0, .ref (ad no)] : List Value).toArray "SortPacksLaw" 7 (za_y 117) (za_cc 117) (za_mx 117) (za_re 117) (za_wq 117) (za_room 117 w w1) (w1.1 - w.1) (w1.2.1 - w.2.1) 1 := callB_of 1 hts (za_tg.gi (za_wq.in k1)) rfl rfl rfl (hts _ k7) (hts _ i1) ⟨k5.1, k5.2, k6⟩ ⟨by show za_fr 117 + 1 ≤ 8; decide +kernel, by show 8 + (za_mx 117 + 11) + za_lo 117 ≤ 116; decide +kernel⟩
  have hrun := va_runV (l := l) (e := e) (below := below) (meth := meth) (H := s.heap) (locs := []) (cells := 0) (slots := 0) (b := ad 0) (As := [.int p0]) (rest := [.int 0, .ref (ad no)]) (g := F0 m 4 ls [.int p0, .ref (ad 0), .int 0, .ref (ad no)]) ⟨hx, hb, hml, hown, hts⟩ hM ⟨cb, hts _ i3.1, hts _ i3.2⟩ ⟨za_Pre.blind D cA ad _ w _, ⟨cellB, b1, b2, b3⟩, fun U hU hW => ⟨rfl, by rw [hU], by rw [hU]; exact hP, va_K.moved hW.alike hK, hD0, za_nw.warm hW hnw, zb_Z.go hZ hS (fun _ h => h) hU hW⟩⟩ rfl rfl hl.1 rfl (lv_room (Nat.le_of_ble_eq_true rfl)) dL_out_4 ⟨by rw [e1]; decide, by rw [e2]; decide⟩
  refine za_back hrun hS (fun _ h => h) (fun ad1 H1 locs1 g1 g2 g3 g4 g5 g6 => ?_)
  rw [e1, e2]
  refine lv_i2l hx hb dL_out_7 rfl ?_
  have hano : ad no = ad1 no := (g1 no hno).symm
  rw [hano]
  refine va_last hx hb hK g2 g3 g6 no 2 (za_l.at g4 ho) (za_t.at cA rfl) (i := 0) (fun h => by rcases h with h | h <;> revert h <;> decide) dL_out_8 (fun H2 locs2 hP2 hD2 hS2 => ?_)
  have hset : (za_l ad1 cA w1).set no (ad1 no, za_e ad1 cA (.inl (2, 1, .inr (.inl (vp_updL f 0 v.toInt64))))) = za_l ad1 cA (za_up w1 no (.inl (2, 1, .inr (.inl (vp_updL f 0 v.toInt64))))) := za_l.set (by omega)
  have hP2 : va_P D vwCl ((za_l ad1 cA w1).set no (ad1 no, za_e ad1 cA (.inl (2, 1, .inr (.inl (vp_updL f 0 v.toInt64)))))) H2 := hP2
  have hD2 : va_D _ ((za_l ad1 cA w1).set no (ad1 no, za_e ad1 cA (.inl (2, 1, .inr (.inl (vp_updL f 0 v.toInt64)))))) := hD2
  rw [hset] at hP2 hD2
  refine lv_goto (tgt := 15) hx hb dL_out_9 rfl ?_
  refine lv_iconst (v := 0) hx hb dL_out_15 (by decide) ?_
  refine zo_W (k := 1) (n := 6) (by decide) (by decide) ?_
  exact W.iret hx hb hr (fun t ht hW => ⟨⟨ad1, g1, rfl, by rw [ht]; exact hP2, hD2, g4.up (by omega) trivial, (fun x h => by cases h; trivial), (fun a h => by cases h)⟩, hS2.F ht⟩) hS2.2.2 dL_out_16 B.notSynchronized
set_option maxHeartbeats 4000000 in
set_option maxRecDepth 100000 in
/-- it takes the throw and comes back with 1; the world is as it was -/
theorem zo_t (l : Launch) (hl9 : l.stackTraces = false) (D : va_G) (cA : Nat → ClassId) (ad : Nat → Nat) {w : za_W} {no b : Nat} {z p0 : Int32} {fs : List Value} (sz : Nat) (kw : za_kw w) (h0 : w.2.2 0 = some (.inr (12, fs))) (hf : fs[2]? = some (.ref 3)) (h3 : w.2.2 3 = some (.inr (8, [.ref b, .int z]))) (hno : p0 < 0 ∨ z ≤ p0) :
    Met l (za_y 189) zo_ws zo_rm (zo_lP D cA ad w no p0 sz) (za_Q D cA (va_A (za_l ad cA w) sz) ad w (.inl (some (.int 1))) w) 1 6 (va_A (za_l ad cA w) sz) := by
  refine va_MetW (cc := za_cc 189) (maxL := 4) (ret := some .int) (hh := [(0, 9, 12, 13)]) (by decide +kernel) rfl ?_
  intro p e s m args below meth c s₁ B hml hv
  obtain ⟨x0, hone, x1, x2, x3, x4⟩ : ∃ x : ExceptionTableEntry, c.exceptionTable.toList = [x] ∧ x.startPc = 0 ∧ x.endPc = 9 ∧ x.handlerPc = 12 ∧ x.catchType = 13 := by
    obtain ⟨m9, meth', c', hn9, hm', hc', -, -, ht', -, -, -⟩ := Cond.codeWith_spec (atoms_spec (ws := zo_ws) B.pre _ List.mem_cons_self)
    cases B.named.symm.trans hn9
    cases B.method.symm.trans hm'
    cases (Stand.of_body B).code.symm.trans hc'
    cases hl : c.exceptionTable.toList with
    | nil => rw [hl] at ht'; cases ht'
    | cons x t =>
      rw [hl] at ht'
      obtain ⟨h3, h4⟩ := List.cons.inj ht'
      obtain rfl := List.map_eq_nil_iff.mp h4
      have h5 : x.startPc = 0 ∧ x.endPc = 9 ∧ x.handlerPc = 12 ∧ x.catchType = 13 := by simpa using h3
      exact ⟨x, rfl, h5⟩
  obtain ⟨⟨rfl, hsz, hP, hK, hD0, hnw, hZ⟩, hZo⟩ := hv
  have hx := B.exec
  have hb : c.code = cL_out := B.bytes
  have hr := B.returns
  have hts0 := atoms_spec (ws := zo_ws) B.pre
  have hts : ∀ w ∈ za_tg, w.before _ s = true := fun w hw => hts0 w (List.mem_cons_of_mem _ hw)
  have hown : s.vm.findClass "SortPacksLaw" = some m.cls := findClass_of_methodNamed B.named
  subst hsz
  have hD := hD0.self (sz := s.heap.size)
  have hl := lv_entry ([.ref (ad 0), .int p0, .ref (ad no)]) (n := 4) (Nat.le_of_ble_eq_true rfl)
  show W p l e zo_rm s m _ below meth c s.heap [] 0 0 _ (entryFrame m ([.ref (ad 0), .int p0, .ref (ad no)] : List Value).toArray 4)
  rw [lg_entry_eq]
  generalize (lg_sl ([.ref (ad 0), .int p0, .ref (ad no)]) ++ List.replicate (4 - (lg_sl ([.ref (ad 0), .int p0, .ref (ad no)])).length) Slot.unset).toArray = ls at hl ⊢
  have hl : lv_has ls 4 [(0, .ref (ad 0)), (1, .int p0), (2, .ref (ad no))] := hl
  have hS : va_S (va_A (za_l ad cA w) s.heap.size) s.heap s.heap [] := va_S.rf
  refine lv_aload_n hx hb dL_out_0 rfl (lv_at hl 2 rfl) ?_
  refine lv_iconst (v := 0) hx hb dL_out_1 (by decide) ?_
  refine lv_aload_n hx hb dL_out_2 rfl (lv_at hl 0 rfl) ?_
  refine lv_iload_n hx hb dL_out_3 rfl (lv_at hl 1 rfl) ?_
  have hm : 117 < zt_mp0.length := by decide +kernel
  obtain ⟨k1, k2, k3, k4, k5, k6, k7⟩ := zt_w_of hm
  obtain ⟨i1, -, i3, -, -⟩ := zt_c_of (o := 15) (i := 7) (q := (0, 117)) (by decide +kernel) hm (by show 0 < 6; decide)
  have i1 : Cond.methodLink "SortPacksLaw" 7 (za_y 117) ∈ za_tg := i1 (by show 0 % 2 = 0; decide)
  have i3 : Cond.instanceMethod (za_y 117) ∈ za_tg ∧ Cond.selects (za_y 117).cls (za_y 117) (za_y 117) ∈ za_tg := i3 (by show 0 / 2 = 0; decide)
  have ha := za_l.at (ad := ad) (cA := cA) kw h0
  obtain ⟨cellB, b1, b2, b3⟩ := va_recv (q := (RX11, TX11, 7)) hK hP rfl ha
  have hbl : FrameBlind (zo_P D cA ad w p0 s.heap.size) := fun a U g mk h => ⟨za_Pre.blind D cA ad _ w _ a U g mk h.1, zo_Z.calling (U := U) (V := U.calling g mk a) rfl rfl h.2⟩
  intro T hT X9
  obtain ⟨q, st₀, t, T', Lc, s1, XT, s2, s3, ⟨q', ce, g2, g3, g4, g5, g6, g7⟩, s4⟩ := za_callT (Q := zo_Q D) (free := fun _ => False) (mc := 1) (ms := 6) (rm := zo_room) X9 hx hown (hts _ i1) (hts _ i3.1) (hts _ i3.2) (hts _ k1) k5 (pay_in hts (za_tg.gi (za_wq.in k1))) List.mem_cons_self (fun a' U hW => word_at hW (za_tg.good _ k7) (hts _ k7)) (zo_out l hl9 D cA ad s.heap.size kw h0 hf h3 hno) hbl (fun _ _ _ _ h => by obtain ⟨q, ce, e9, -⟩ := h; exact ⟨_, e9⟩) (by decide) (by decide) (by decide) (by decide)
    (b := ad 0) (cellB := cellB) (by rw [hT]; exact b1) b2 b3 (g := F0 m 4 ls [.int p0, .ref (ad 0), .int 0, .ref (ad no)]) rfl (by rw [hml]; exact hl.1) (argsL := [.int p0]) (rest := [.int 0, .ref (ad no)]) (fun sig hsig => by rw [hsig] at k6; exact (Option.some.inj k6).symm) rfl (lv_room (Nat.le_of_ble_eq_true rfl)) (by rw [hb]; exact dL_out_4) (fun U hU hW => ⟨⟨rfl, by rw [hU, hT], by rw [hU, hT]; exact hP, va_K.moved hW.alike hK, hD0, za_nw.warm hW hnw, zb_Z.go hZ hS (fun _ h => h) (hU.trans hT) hW⟩, zo_Z.go hZo hS (fun _ h => h) (hU.trans hT) hW⟩)
  cases g2
  obtain rfl : Lc = [] := by
    cases Lc with
    | nil => rfl
    | cons x xs => exact (s2 x List.mem_cons_self).elim
  have hTH : T'.heap = t.heap := s3
  have hs0 : st₀.heap = s.heap := s1.trans hT
  rw [hs0] at g6 g7
  have hcl : s.vm.findClass zo_X = some (D.1 0) := (hK.1 0 (RJx00060, TJx00060, 6) rfl).2.1
  obtain ⟨-, f1, f2, f3, f4⟩ := hK.1 0 (RJx00060, TJx00060, 6) rfl
  have hasg := va_assign (s := s) (C := zo_X) ⟨f1, f2, f3, f4⟩
  obtain ⟨vm', XV, st9⟩ := zh_take XT q (g := { F0 m 4 ls [.int p0, .ref (ad 0), .int 0, .ref (ad no)] with stack := [.int 0, .ref (ad no)] }) rfl hown hone (by unfold covers; rw [x1, x2]; rfl) (by rw [x4]; decide) (name := zo_X) (by rw [x4]; exact hts _ zo_lk) hcl (cell := ce) (by rw [hTH]; exact g3) (by rw [g4]; rfl) (by rw [g5]; exact hasg)
  have hP2 : va_P D vwCl (za_l ad cA w) t.heap := hP.kept (fun k x hk => g7 x.1 (hP k x hk).lt)
  have hS2 : va_S (va_A (za_l ad cA w) s.heap.size) s.heap t.heap [] := ⟨g6, fun k h1 _ => g7 k h1, fun x hx => by cases hx⟩
  have hW : W p l e zo_rm s m ([.ref (ad 0), .int p0, .ref (ad no)] : List Value).toArray below meth c t.heap [] 1 6 (MQ below (za_Q D cA (va_A (za_l ad cA w) s.heap.size) ad w (.inl (some (.int 1))) w) ([.ref (ad 0), .int p0, .ref (ad no)] : List Value).toArray s 1 6 (va_A (za_l ad cA w) s.heap.size)) (F0 m 12 ls [.ref q]) := by
    refine lv_astore_n (i := 3) hx hb dL_out_12 rfl hl (by decide) rfl (fun ls' hl' => ?_)
    refine lv_iconst (v := 1) hx hb dL_out_13 (by decide) ?_
    exact W.iret hx hb hr (fun t' ht hW => ⟨⟨ad, fun _ _ => rfl, rfl, by rw [ht]; exact hP2, hD, kw, (fun x h => by cases h; trivial), (fun a h => by cases h)⟩, hS2.F ht⟩) hS2.2.2 dL_out_14 B.notSynchronized
  obtain ⟨t2, a2, b2'⟩ := hW (T'.setVm vm') hTH XV
  refine ⟨t2, s4 _ (st9 _ ?_), b2'⟩
  rw [x3]
  exact a2
