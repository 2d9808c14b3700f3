/-! THE LAW'S CALLS: the law is walked by hand (it reads its script); what it calls comes from the abstract machine. -/
/-- what holds all through the law -/
def zl_F (D : va_G) (cA : Nat → ClassId) (p : Program) (s : State) (m : MethodId) (c : Code) (b L : Nat) (xs : Nat → Int32) : Prop :=
  p.tables.exec = Jvm.exec ∧ c.code = code ∧ c.maxLocals = 7 ∧ s.vm.findClass "SortPacksLaw" = some m.cls ∧ (∀ w ∈ za_tg, w.before #[Value.ref b] s = true) ∧ va_K D vwCl (za_t cA) s ∧ (∀ w ∈ za_nl, va_Nw w s) ∧ zb_Z (fun q => s.heap.size ≤ q) s ∧ va_X b L xs s s.heap ∧ b < s.heap.size
/-- the heap holds the world -/
def zl_J (D : va_G) (cA : Nat → ClassId) (H0 H : Heap) (locs : List Loc) (ad : Nat → Nat) (w : za_W) : Prop := va_P D vwCl (za_l ad cA w) H ∧ va_D (fun q => H0.size ≤ q) (za_l ad cA w) ∧ va_S (fun q => H0.size ≤ q) H0 H locs ∧ za_kw w
theorem zl_J.A {D : va_G} {cA : Nat → ClassId} {H0 H : Heap} {locs : List Loc} {ad : Nat → Nat} {w : za_W} (J : zl_J D cA H0 H locs ad w) : ∀ q, va_A (za_l ad cA w) H.size q → H0.size ≤ q := fun q hq => by
  rcases hq with ⟨k, x, hkx⟩ | hq
  · exact J.2.1.2 k (q, x) hkx
  · exact Nat.le_trans J.2.2.1.1 hq
section ZL
variable {p : Program} {l : Launch} {e : Env} {s : State} {m : MethodId} {below : List Frame} {meth : Method} {c : Code} {D : va_G} {cA : Nat → ClassId} {b L : Nat} {xs : Nat → Int32}
variable {H : Heap} {locs : List Loc} {cells slots : Nat} {Q : State → Prop} {pc : Nat} {ls : Array Slot} {rest : List Value} {ad : Nat → Nat} {w w' : za_W} {v : Option Value}
theorem zl_pre {mj : Nat} {as : List Value} (F : zl_F D cA p s m c b L xs) (J : zl_J D cA s.heap H locs ad w) : ∀ U : State, U.heap = H → s.WarmedH U.vm → za_Pre D cA ad as w H.size (as.map (za_v ad)).toArray U := by
  obtain ⟨hx, hb, hml, hown, hts, hK, hnw, hZ, hX, hbl⟩ := F
  exact fun U hU hW => ⟨rfl, by rw [hU], by rw [hU]; exact J.1, va_K.moved hW.alike hK, J.2.1.weaken (fun _ _ _ _ => trivial), za_nw.warm hW hnw, zb_Z.go hZ J.2.2.1 J.A hU hW⟩
theorem zl_recv {a ci : Nat} {fs : List Value} (F : zl_F D cA p s m c b L xs) (J : zl_J D cA s.heap H locs ad w) (hc : w.2.2 a = some (.inr (ci, fs))) : ∃ cellB : Cell, H[ad a]? = some cellB ∧ cellB.vm.isStatics = false ∧ s.vm.findClass (za_rn ci) = some cellB.cls := by
  obtain ⟨hx, hb, hml, hown, hts, hK, hnw, hZ, hX, hbl⟩ := F
  have ha := za_l.at (ad := ad) (cA := cA) J.2.2.2 hc
  obtain ⟨cq, gq, -⟩ := J.1 a _ ha
  have gq : vwCl[ci]? = some cq := gq
  obtain ⟨cell, g2, g3, g4⟩ := va_recv hK J.1 gq ha
  exact ⟨cell, g2, g3, by rw [← zt_rn_of gq]; exact g4⟩
/-- a call of an object's method -/
theorem zl_callV {j mj a : Nat} {as fs : List Value} (F : zl_F D cA p s m c b L xs) (hq : za_cl 15 j = some (0, mj)) (hm : mj < zt_mp0.length) (hfr : za_fr mj + 1 ≤ 11) (hlo : 8 + (za_mx mj + 11) + za_lo mj ≤ 382) (hE : za_E mj (.ref a :: as) w (.inl v) w') (haw : za_aw (.ref a :: as) ≤ za_mx mj) (hc : w.2.2 a = some (.inr (za_ow mj, fs))) (hln : as.length = za_np mj) (hi : as.map (za_v ad) = as) (hik : ∀ x ∈ as, za_k w.1 x)
    (hcl : cells + (w'.1 - w.1) ≤ 601024) (hsl : slots + (w'.2.1 - w.2.1) ≤ 7293000) (hcat : (rest.map fun v => v.category).sum ≤ 8) (J : zl_J D cA s.heap H locs ad w) (hls : ls.size = 7) (hd : decode code pc = .ok (.invokevirtual j, 3))
    (kk : ∀ (ad1 : Nat → Nat) (H1 : Heap) (locs1 : List Loc), (∀ k, k < w.1 → ad1 k = ad k) → zl_J D cA s.heap H1 locs1 ad1 w' → W p l e room_1 s m #[Value.ref b] below meth c H1 locs1 (cells + (w'.1 - w.1)) (slots + (w'.2.1 - w.2.1)) Q (F0 m (pc + 3) ls ((v.map (za_v ad1)).toList ++ rest))) :
    W p l e room_1 s m #[Value.ref b] below meth c H locs cells slots Q (F0 m pc ls (as.reverse ++ .ref (ad a) :: rest)) := by
  have F' := F
  obtain ⟨hx, hb, hml, hown, hts, hK, hnw, hZ, hX, hbl⟩ := F'
  obtain ⟨y1, y2, y3⟩ := za_E.met (L := l) hE hm haw
  obtain ⟨k1, k2, k3, k4, k5, k6, k7⟩ := zt_w_of hm
  obtain ⟨l1, -, l3, -, -⟩ := zt_c_of hq hm (by show 0 < 6; decide)
  have l1 : Cond.methodLink "SortPacksLaw" j (za_y mj) ∈ za_tg := l1 (by show 0 % 2 = 0; decide)
  have l3 : Cond.instanceMethod (za_y mj) ∈ za_tg ∧ Cond.selects (za_y mj).cls (za_y mj) (za_y mj) ∈ za_tg := l3 (by show 0 / 2 = 0; decide)
  have ka : ∀ u ∈ (Value.ref a :: as), za_k w.1 u := zk_mk (J.2.2.2 a _ hc).1 hik
  have hM := (y3 J.2.2.2 ka D cA ad H.size).met
  have hp := zl_pre (mj := mj) (as := .ref a :: as) F J
  have e1 : (Value.ref a :: as).map (za_v ad) = .ref (ad a) :: as := by rw [List.map_cons, hi]; rfl
  rw [e1] at hp
  obtain ⟨cellB, b1, b2, b3⟩ := zl_recv F J hc
  rw [k2] at b3
  have cb : CallB room_1 s #[Value.ref b] "SortPacksLaw" j (za_y mj) (za_cc mj) (za_mx mj) (za_re mj) (za_wq mj) (za_room mj w w') (w'.1 - w.1) (w'.2.1 - w.2.1) (za_np mj) := callB_of (za_np mj) hts (za_tg.gi (za_wq.in k1)) rfl rfl rfl (hts _ k7) (hts _ l1) ⟨k5.1, k5.2, k6⟩ ⟨hfr, hlo⟩
  have hrun := va_runV (l := l) (e := e) (below := below) (meth := meth) (locs := locs) (cells := cells) (slots := slots) (b := ad a) (As := as) (rest := rest) (g := F0 m pc ls (as.reverse ++ .ref (ad a) :: rest)) ⟨hx, hb, hml, hown, hts⟩ hM ⟨cb, hts _ l3.1, hts _ l3.2⟩ ⟨za_Pre.blind D cA ad _ w _, ⟨cellB, b1, b2, b3⟩, hp⟩ rfl hln hls rfl (lv_room hcat) hd ⟨hcl, hsl⟩
  exact za_back hrun J.2.2.1 J.A (fun ad1 H1 locs1 g1 g2 g3 g4 g5 g6 => kk ad1 H1 locs1 g1 ⟨g2, g3, g6, g4⟩)
/-- a call of open or alone -/
theorem zl_callH {j mj a : Nat} {as fs : List Value} (F : zl_F D cA p s m c b L xs) (hm : mj = 187 ∨ mj = 188) (hlk : Cond.methodLink "SortPacksLaw" j (za_y mj) ∈ za_tg) (hin : Cond.instanceMethod (za_y mj) ∈ za_tg) (hse : Cond.selects "SortPacksModel" (za_y mj) (za_y mj) ∈ za_tg) (hcw : Cond.codeWith (za_y mj) (za_cc mj) (za_mx mj) (za_re mj) (za_xt mj) ∈ za_tg) (hini : Cond.initialized (za_y mj).cls ∈ za_tg) (hE : za_E mj (.ref a :: as) w (.inl v) w') (haw : za_aw (.ref a :: as) ≤ za_mx mj) (hc : w.2.2 a = some (.inr (14, fs))) (hln : as.length = za_np mj) (hi : as.map (za_v ad) = as) (hik : ∀ x ∈ as, za_k w.1 x)
    (hcl : cells + (w'.1 - w.1) ≤ 601024) (hsl : slots + (w'.2.1 - w.2.1) ≤ 7293000) (hcat : (rest.map fun v => v.category).sum ≤ 8) (J : zl_J D cA s.heap H locs ad w) (hls : ls.size = 7) (hd : decode code pc = .ok (.invokevirtual j, 3))
    (kk : ∀ (ad1 : Nat → Nat) (H1 : Heap) (locs1 : List Loc), (∀ k, k < w.1 → ad1 k = ad k) → zl_J D cA s.heap H1 locs1 ad1 w' → W p l e room_1 s m #[Value.ref b] below meth c H1 locs1 (cells + (w'.1 - w.1)) (slots + (w'.2.1 - w.2.1)) Q (F0 m (pc + 3) ls ((v.map (za_v ad1)).toList ++ rest))) :
    W p l e room_1 s m #[Value.ref b] below meth c H locs cells slots Q (F0 m pc ls (as.reverse ++ .ref (ad a) :: rest)) := by
  have F' := F
  obtain ⟨hx, hb, hml, hown, hts, hK, hnw, hZ, hX, hbl⟩ := F'
  obtain ⟨y1, y2, y3⟩ := za_E.metH (L := l) hm haw hE
  have ka : ∀ u ∈ (Value.ref a :: as), za_k w.1 u := zk_mk (J.2.2.2 a _ hc).1 hik
  have hM := (y3 J.2.2.2 ka D cA ad H.size).met
  have hp := zl_pre (mj := mj) (as := .ref a :: as) F J
  have e1 : (Value.ref a :: as).map (za_v ad) = .ref (ad a) :: as := by rw [List.map_cons, hi]; rfl
  rw [e1] at hp
  obtain ⟨cellB, b1, b2, b3⟩ := zl_recv F J hc
  have hG : GoodIn za_tg (za_wh mj) := za_tg.gi0 hcw
  have hy : (za_y mj).cls ≠ "java/lang/invoke/MethodHandle" ∧ (za_y mj).cls ≠ "java/lang/invoke/VarHandle" := by rcases hm with rfl | rfl <;> exact ⟨by decide +kernel, by decide +kernel⟩
  have hnp : (parseMethodDescriptor (za_y mj).desc).map (fun d => d.parameters.length) = some (za_np mj) := by rcases hm with rfl | rfl <;> decide +kernel
  have hfr : za_fr mj + 1 ≤ 11 ∧ 8 + (za_mx mj + 11) + za_lo mj ≤ 382 := by rcases hm with rfl | rfl <;> exact ⟨by decide +kernel, by decide +kernel⟩
  have hrun := zh_runV (R := room_1) (l := l) (e := e) (below := below) (meth := meth) (locs := locs) (cells := cells) (slots := slots) (C := "SortPacksModel") (b := ad a) (As := as) (rest := rest) (g := F0 m pc ls (as.reverse ++ .ref (ad a) :: rest)) (hh := za_xt mj) (bytes := za_cc mj) (maxL := za_mx mj) (ret := za_re mj) ⟨hx, hb, hml, hown, hts⟩ hM rfl rfl hfr.1 hfr.2 hG List.mem_cons_self hini (za_tg.good _ hini) (hts _ hlk) (hts _ hin) (hts _ hse) hy hnp ⟨za_Pre.blind D cA ad _ w _, ⟨cellB, b1, b2, b3⟩, hp⟩ rfl hln hls rfl (lv_room hcat) hd ⟨hcl, hsl⟩
  exact za_back hrun J.2.2.1 J.A (fun ad1 H1 locs1 g1 g2 g3 g4 g5 g6 => kk ad1 H1 locs1 g1 ⟨g2, g3, g6, g4⟩)
/-- a constructor -/
theorem zl_callI {j mj a : Nat} {as fs : List Value} (F : zl_F D cA p s m c b L xs) (hq : za_cl 15 j = some (4, mj)) (hm : mj < zt_mp0.length) (hfr : za_fr mj + 1 ≤ 11) (hlo : 8 + (za_mx mj + 11) + za_lo mj ≤ 382) (hE : za_E mj (.ref a :: as) w (.inl none) w') (haw : za_aw (.ref a :: as) ≤ za_mx mj) (ha : a < w.1) (hln : as.length = za_np mj) (hi : as.map (za_v ad) = as) (hik : ∀ x ∈ as, za_k w.1 x)
    (hcl : cells + (w'.1 - w.1) ≤ 601024) (hsl : slots + (w'.2.1 - w.2.1) ≤ 7293000) (hcat : (rest.map fun v => v.category).sum ≤ 8) (J : zl_J D cA s.heap H locs ad w) (hls : ls.size = 7) (hd : decode code pc = .ok (.invokespecial j, 3))
    (kk : ∀ (ad1 : Nat → Nat) (H1 : Heap) (locs1 : List Loc), (∀ k, k < w.1 → ad1 k = ad k) → zl_J D cA s.heap H1 locs1 ad1 w' → W p l e room_1 s m #[Value.ref b] below meth c H1 locs1 (cells + (w'.1 - w.1)) (slots + (w'.2.1 - w.2.1)) Q (F0 m (pc + 3) ls rest)) :
    W p l e room_1 s m #[Value.ref b] below meth c H locs cells slots Q (F0 m pc ls (as.reverse ++ .ref (ad a) :: rest)) := by
  have F' := F
  obtain ⟨hx, hb, hml, hown, hts, hK, hnw, hZ, hX, hbl⟩ := F'
  obtain ⟨y1, y2, y3⟩ := za_E.met (L := l) hE hm haw
  obtain ⟨k1, k2, k3, k4, k5, k6, k7⟩ := zt_w_of hm
  obtain ⟨l1, -, -, -, l3⟩ := zt_c_of hq hm (by show 4 < 6; decide)
  have l1 : Cond.methodLink "SortPacksLaw" j (za_y mj) ∈ za_tg := l1 (by show 4 % 2 = 0; decide)
  have l3 : Cond.instanceMethod (za_y mj) ∈ za_tg ∧ (za_y mj).name = "<init>" := l3 (by show 4 / 2 = 2; decide)
  have hre : za_re mj = none := of_decide_eq_true (List.all_eq_true.mp zt_ir mj (List.mem_range.mpr hm)) l3.2
  have ka : ∀ u ∈ (Value.ref a :: as), za_k w.1 u := zk_mk ha hik
  have hM := (y3 J.2.2.2 ka D cA ad H.size).met
  have hp := zl_pre (mj := mj) (as := .ref a :: as) F J
  have e1 : (Value.ref a :: as).map (za_v ad) = .ref (ad a) :: as := by rw [List.map_cons, hi]; rfl
  rw [e1] at hp
  have cb : CallB room_1 s #[Value.ref b] "SortPacksLaw" j (za_y mj) (za_cc mj) (za_mx mj) none (za_wq mj) (za_room mj w w') (w'.1 - w.1) (w'.2.1 - w.2.1) (za_np mj) := callB_of (ws' := za_tg) (za_np mj) hts (za_tg.gi (za_wq.in k1)) (by unfold za_wq; rw [hre]) rfl rfl (hts _ k7) (hts _ l1) ⟨k5.1, k5.2, k6⟩ ⟨hfr, hlo⟩
  have hrun := va_runI (l := l) (e := e) (below := below) (meth := meth) (locs := locs) (cells := cells) (slots := slots) (b := ad a) (As := as) (rest := rest) (g := F0 m pc ls (as.reverse ++ .ref (ad a) :: rest)) ⟨hx, hb, hml, hown, hts⟩ hM ⟨cb, l3.2, hts _ l3.1⟩ ⟨za_Pre.blind D cA ad _ w _, hp⟩ rfl hln hls rfl (lv_room hcat) hd ⟨hcl, hsl⟩
  exact za_back hrun J.2.2.1 J.A (fun ad1 H1 locs1 g1 g2 g3 g4 g5 g6 => kk ad1 H1 locs1 g1 ⟨g2, g3, g6, g4⟩)
/-- script[i + k] -/
theorem zl_arg {i kv : Int32} {k : Int} {lv : List (Nat × Value)} (F : zl_F D cA p s m c b L xs) (J : zl_J D cA s.heap H locs ad w) (hl : lv_has ls 7 lv) (h0 : lv[0]? = some (0, .ref b)) (h4 : lv[4]? = some (4, .int i)) (d0 : decode code pc = .ok (.aload_n 0, 1)) (d1 : decode code (pc + 1) = .ok (.iload 4, 2)) (d2 : decode code (pc + 3) = .ok (.iconst k, 1)) (d3 : decode code (pc + 4) = .ok (.iadd, 1)) (d4 : decode code (pc + 5) = .ok (.iaload, 1)) (hk : Int32.ofInt k = kv) (hin : vp_in (i + kv) L)
    (kk : W p l e room_1 s m #[Value.ref b] below meth c H locs cells slots Q (F0 m (pc + 6) ls (.int (xs (i + kv).toNatClampNeg) :: rest))) : W p l e room_1 s m #[Value.ref b] below meth c H locs cells slots Q (F0 m pc ls rest) := by
  obtain ⟨hx, hb, hml, hown, hts, hK, hnw, hZ, hX, hbl⟩ := F
  refine lv_aload_n hx hb d0 rfl (lv_at hl 0 h0) ?_
  refine lv_iload hx hb d1 (lv_at hl 4 h4) ?_
  refine lv_iconst hx hb d2 hk ?_
  refine lv_iadd hx hb d3 ?_
  refine va_sld hx hb hX hbl (fun h => Nat.lt_irrefl _ (Nat.lt_of_lt_of_le hbl h)) J.2.2.1 hin d4 ?_
  exact kk
end ZL
