/-! OUT, 6: the law's case of out, whole. -/
set_option maxRecDepth 100000 in
theorem zo_w1 : Cond.methodLink "SortPacksLaw" 66 (za_y 189) ∈ za_tg := za_tg.of (p := 964) (by decide +kernel) rfl
set_option maxRecDepth 100000 in
theorem zo_w2 : Cond.static (za_y 189) ∈ za_tg := za_tg.of (p := 965) (by decide +kernel) rfl
set_option maxRecDepth 100000 in
theorem zo_w3 : Cond.codeWith (za_y 189) (za_cc 189) 4 (some .int) [(0, 9, 12, 13)] ∈ za_tg := za_tg.of (p := 966) rfl rfl
set_option maxRecDepth 100000 in
theorem zo_w4 : Cond.initialized (za_y 189).cls ∈ za_tg := za_tg.of (p := 80) (by decide +kernel) rfl
/-- what the two sides have to say of out: a byte on both, or none on both -/
def zo_O (nm no : Nat) (p0 : Int32) (w : za_W) (K : za_W → Prop) : Prop := (∃ fs, w.2.2 0 = some (.inr (12, fs)) ∧ fs[2]? = some (.ref 3)) ∧
  ((∃ (v : Int32) (w1 w2 w3 : za_W) (f : Nat → Int64), za_E 117 [.ref 0, .int p0] w (.inl (some (.int v))) w1 ∧ w1.1 = w.1 ∧ w1.2.1 = w.2.1 ∧ w1.2.2 no = some (.inl (2, 1, .inr (.inl f))) ∧ (∃ fs, w1.2.2 nm = some (.inr (14, fs))) ∧ za_E 139 [.ref nm, .int p0] (za_up w1 no (.inl (2, 1, .inr (.inl (vp_updL f 0 v.toInt64))))) (.inl (some (.int v))) w2 ∧ w2.1 = w.1 ∧ w2.2.1 = w.2.1 ∧ (∃ fs, w2.2.2 nm = some (.inr (14, fs))) ∧ za_E 129 [.ref nm] w2 (.inl (some (.int 0))) w3 ∧ w3.1 = w.1 ∧ w3.2.1 = w.2.1 ∧ w3.2.2 no = some (.inl (2, 1, .inr (.inl (vp_updL f 0 v.toInt64)))) ∧ K w3) ∨
   (∃ (b : Nat) (z bb : Int32) (w2 w3 : za_W), w.2.2 3 = some (.inr (8, [.ref b, .int z])) ∧ (p0 < 0 ∨ z ≤ p0) ∧ (∃ fs, w.2.2 nm = some (.inr (14, fs))) ∧ za_E 139 [.ref nm, .int p0] w (.inl (some (.int bb))) w2 ∧ w2.1 = w.1 ∧ w2.2.1 = w.2.1 ∧ (∃ fs, w2.2.2 nm = some (.inr (14, fs))) ∧ za_E 129 [.ref nm] w2 (.inl (some (.int 1))) w3 ∧ w3.1 = w.1 ∧ w3.2.1 = w.2.1 ∧ K w3))
theorem zo_cmp (x : Int64) : lg_cmp x x = 0 := by
  unfold lg_cmp
  rw [if_neg (Int64.lt_irrefl), if_pos rfl]
section ZLO
variable {p : Program} {l : Launch} {e : Env} {s : State} {m : MethodId} {below : List Frame} {meth : Method} {c : Code} {D : va_G} {cA : Nat → ClassId} {b L : Nat} {xs : Nat → Int32}
variable {H : Heap} {locs : List Loc} {cells slots : Nat} {Q : State → Prop} {ls : Array Slot} {ad : Nat → Nat} {w : za_W} {nm no n : Nat} {K : za_W → Prop}
set_option maxHeartbeats 4000000 in
/-- the call of the law's own out -/
theorem zl_callO {k p0 : Int32} {wz : za_W} (F : zl_F D cA p s m c b L xs) (hZo : zo_Z (fun q => s.heap.size ≤ q) s) (hM : ∀ sz, Met l (za_y 189) zo_ws zo_rm (zo_lP D cA ad w no p0 sz) (za_Q D cA (va_A (za_l ad cA w) sz) ad w (.inl (some (.int k))) wz) 1 6 (va_A (za_l ad cA w) sz)) (hcl : cells + 1 ≤ 601024) (hsl : slots + 6 ≤ 7293000) (J : zl_J D cA s.heap H locs ad w) (hls : ls.size = 7)
    (kk : ∀ (ad1 : Nat → Nat) (H1 : Heap) (locs1 : List Loc), (∀ k, k < w.1 → ad1 k = ad k) → zl_J D cA s.heap H1 locs1 ad1 wz → W p l e room_1 s m #[Value.ref b] below meth c H1 locs1 (cells + 1) (slots + 6) Q (F0 m 392 ls [.int k])) :
    W p l e room_1 s m #[Value.ref b] below meth c H locs cells slots Q (F0 m 389 ls [.ref (ad no), .int p0, .ref (ad 0)]) := by
  have F' := F
  obtain ⟨hx, hb, hml, hown, hts, hK, hnw, hZ, hX, hbl⟩ := F'
  have hp := zl_pre (mj := 189) (as := [.ref 0, .int p0, .ref no]) F J
  have hrun := zh_runS (R := room_1) (l := l) (e := e) (below := below) (meth := meth) (H := H) (locs := locs) (cells := cells) (slots := slots) (n := 3) (index := 66) (As := [.ref (ad 0), .int p0, .ref (ad no)]) (rest := []) (g := F0 m 389 ls [.ref (ad no), .int p0, .ref (ad 0)]) (hh := [(0, 9, 12, 13)]) (bytes := za_cc 189) (maxL := 4) (ret := some .int) ⟨hx, hb, hml, hown, hts⟩ (hM H.size) rfl rfl (by decide) (by decide) (za_tg.gi0 zo_w3) List.mem_cons_self zo_w4 (za_tg.good _ zo_w4) (hts _ zo_w1) (hts _ zo_w2) ⟨by decide +kernel, by decide +kernel⟩ (by decide +kernel) ⟨fun a U g mk h => ⟨za_Pre.blind D cA ad _ w _ a U g mk h.1, zo_Z.calling (U := U) (V := U.calling g mk a) rfl rfl h.2⟩, fun U hU hW => ⟨hp U hU hW, zo_Z.go hZo J.2.2.1 J.A hU hW⟩⟩ rfl rfl hls rfl (lv_room (Nat.le_of_ble_eq_true rfl)) dL_law_389 ⟨hcl, hsl⟩
  exact za_back hrun J.2.2.1 J.A (fun ad1 H1 locs1 g1 g2 g3 g4 g5 g6 => kk ad1 H1 locs1 g1 ⟨g2, g3, g6, g4⟩)
def zl_lv6 (b nm no : Nat) (ad : Nat → Nat) (i x5 : Int32) : List (Nat × Value) := [(0, .ref b), (1, .ref (ad 0)), (2, .ref (ad nm)), (3, .ref (ad no)), (4, .int i), (5, .int x5)]
theorem zl_lv6.agree {b nm no : Nat} {ad ad1 : Nat → Nat} {i x5 : Int32} {n : Nat} (h : ∀ k, k < n → ad1 k = ad k) (h0 : 0 < n) (h1 : nm < n) (h2 : no < n) : zl_lv6 b nm no ad1 i x5 = zl_lv6 b nm no ad i x5 := by
  unfold zl_lv6
  rw [h 0 h0, h nm h1, h no h2]
set_option maxHeartbeats 4000000 in
set_option maxRecDepth 100000 in
theorem zl_c9 (hl9 : l.stackTraces = false) (F : zl_F D cA p s m c b L xs) (hZo : zo_Z (fun q => s.heap.size ≤ q) s) (hL : L ≤ 3073) (hnn : ¬ nm = no) (hn : n + 5 < L) (hcl : cells + 1 ≤ 601024) (hsl : slots + 6 ≤ 7293000) (J : zl_J D cA s.heap H locs ad w) (hl : lv_has ls 7 (zl_lv b nm no ad (Int32.ofNat n))) (h0 : 0 < w.1) (h1 : nm < w.1) (h2 : no < w.1) (h : zo_O nm no (xs (n + 1)) w K)
    (kk : ∀ (ad1 : Nat → Nat) (H1 : Heap) (locs1 : List Loc) (ls1 : Array Slot) (w2 : za_W), K w2 → lv_has ls1 7 (zl_lv b nm no ad1 (Int32.ofNat n)) → zl_J D cA s.heap H1 locs1 ad1 w2 → W p l e room_1 s m #[Value.ref b] below meth c H1 locs1 (cells + 1) (slots + 6) Q (F0 m 636 ls1 [])) :
    W p l e room_1 s m #[Value.ref b] below meth c H locs cells slots Q (F0 m 381 ls []) := by
  have hx := F.1
  have hb := F.2.1
  have hK := F.2.2.2.2.2.1
  refine lv_aload_n hx hb dL_law_381 rfl (lv_at hl 1 rfl) ?_
  refine zl_arg (k := 1) (kv := Int32.ofNat 1) F J hl rfl rfl dL_law_382 dL_law_383 dL_law_385 dL_law_386 dL_law_387 (by decide) (zl_in (by omega) hL) ?_
  rw [zl_ix (L := L) (by omega) hL]
  refine lv_aload_n hx hb dL_law_388 rfl (lv_at hl 3 rfl) ?_
  obtain ⟨p0, ep⟩ : ∃ p0, p0 = xs (n + 1) := ⟨_, rfl⟩
  rw [← ep] at h ⊢
  have tail : ∀ (k bb : Int32) (wa w2 w3 : za_W) (ada : Nat → Nat) (Ha : Heap) (locsa : List Loc), p0 = xs (n + 1) → wa.1 = w.1 → wa.2.1 = w.2.1 → (∀ j, j < w.1 → ada j = ad j) → zl_J D cA s.heap Ha locsa ada wa → (∃ fs, wa.2.2 nm = some (.inr (14, fs))) → za_E 139 [.ref nm, .int p0] wa (.inl (some (.int bb))) w2 → w2.1 = w.1 → w2.2.1 = w.2.1 → (∃ fs, w2.2.2 nm = some (.inr (14, fs))) → za_E 129 [.ref nm] w2 (.inl (some (.int k))) w3 → w3.1 = w.1 → w3.2.1 = w.2.1 → K w3 → (¬ k = 0 ∨ ∃ f : Nat → Int64, w3.2.2 no = some (.inl (2, 1, .inr (.inl f))) ∧ f 0 = bb.toInt64) →
      W p l e room_1 s m #[Value.ref b] below meth c Ha locsa (cells + 1) (slots + 6) Q (F0 m 392 ls [.int k]) := by
    intro k bb wa w2 w3 ada Ha locsa ep n1 n2 had Ja hm1 hE1 n3 n4 hm2 hE2 n5 n6 hK3 hk
    refine lv_istore (i := 5) hx hb dL_law_392 hl (by decide) rfl (fun ls' hl' => ?_)
    have hl6 : lv_has ls' 7 (zl_lv6 b nm no ad (Int32.ofNat n) k) := lv_sub hl' [1, 2, 3, 4, 5, 0] rfl
    rw [← zl_lv6.agree had h0 h1 h2] at hl6
    have hl5 : lv_has ls' 7 (zl_lv b nm no ada (Int32.ofNat n)) := lv_sub hl6 [0, 1, 2, 3, 4] rfl
    refine lv_aload_n hx hb dL_law_394 rfl (lv_at hl6 2 rfl) ?_
    refine zl_arg (k := 1) (kv := Int32.ofNat 1) F Ja hl5 rfl rfl dL_law_395 dL_law_396 dL_law_398 dL_law_399 dL_law_400 (by decide) (zl_in (by omega) hL) ?_
    rw [zl_ix (L := L) (by omega) hL, ← ep]
    obtain ⟨fs1, hc1⟩ := hm1
    refine zl_callV (as := [.int p0]) F (mj := 139) (by decide +kernel) (by decide +kernel) (by decide +kernel) (by decide +kernel) hE1 (Nat.le_of_ble_eq_true rfl) hc1 rfl rfl (by simp [za_k]) (by omega) (by omega) (Nat.le_of_ble_eq_true rfl) Ja hl6.1 dL_law_401 (fun ad2 H2 locs2 ha2 J2 => ?_)
    rw [show cells + 1 + (w2.1 - wa.1) = cells + 1 by omega, show slots + 6 + (w2.2.1 - wa.2.1) = slots + 6 by omega]
    refine lv_istore (i := 6) hx hb dL_law_404 hl6 (by decide) rfl (fun ls2 hl2 => ?_)
    have hl7 : lv_has ls2 7 (zl_lv6 b nm no ada (Int32.ofNat n) k) := lv_sub hl2 [1, 2, 3, 4, 5, 6] rfl
    rw [← zl_lv6.agree ha2 (by omega) (by omega) (by omega)] at hl7
    have l6 : ls2[6]? = some (.val (.int bb)) := lv_at hl2 0 rfl
    refine lv_aload_n hx hb dL_law_406 rfl (lv_at hl7 2 rfl) ?_
    obtain ⟨fs2, hc2⟩ := hm2
    refine zl_callV (as := []) F (mj := 129) (by decide +kernel) (by decide +kernel) (by decide +kernel) (by decide +kernel) hE2 (Nat.le_of_ble_eq_true rfl) hc2 rfl rfl (by simp) (by omega) (by omega) (Nat.le_of_ble_eq_true rfl) J2 hl7.1 dL_law_407 (fun ad3 H3 locs3 ha3 J3 => ?_)
    rw [show cells + 1 + (w3.1 - w2.1) = cells + 1 by omega, show slots + 6 + (w3.2.1 - w2.2.1) = slots + 6 by omega]
    refine lv_iload hx hb dL_law_410 (lv_at hl7 5 rfl) ?_
    refine lv_icmp_eq (tgt := 417) hx hb dL_law_412 rfl (fun _ => ?_) (fun h => absurd rfl h)
    refine lv_iload hx hb dL_law_417 (lv_at hl7 5 rfl) ?_
    rw [← zl_lv6.agree ha3 (by omega) (by omega) (by omega)] at hl7
    have fin : W p l e room_1 s m #[Value.ref b] below meth c H3 locs3 (cells + 1) (slots + 6) Q (F0 m 434 ls2 []) := lv_goto (tgt := 636) hx hb dL_law_434 rfl (kk ad3 H3 locs3 ls2 w3 hK3 (lv_sub hl7 [0, 1, 2, 3, 4] rfl) J3)
    refine lv_if_ne (tgt := 434) hx hb dL_law_419 rfl (fun _ => fin) (fun hk0 => ?_)
    obtain ⟨f, hf, hf0⟩ := hk.resolve_left (fun h => h hk0)
    refine lv_aload_n hx hb dL_law_422 rfl (lv_at hl7 3 rfl) ?_
    refine lv_iconst (v := 0) hx hb dL_law_423 (by decide) ?_
    refine va_lald hx hb hK J3.1 no 2 (za_l.at J3.2.2.2 hf) (za_t.at cA rfl) (fun h => by rcases h with h | h <;> revert h <;> decide) dL_law_424 ?_
    refine lv_iload hx hb dL_law_425 l6 ?_
    refine lv_i2l hx hb dL_law_427 rfl ?_
    refine W.lcmp hx hb dL_law_428 ?_
    have e0 : f (0 : Int32).toNatClampNeg = bb.toInt64 := hf0
    rw [e0]
    refine lv_if_eq (tgt := 434) hx hb dL_law_429 rfl (fun _ => fin) (fun h => absurd (zo_cmp bb.toInt64) h)
  obtain ⟨⟨fs0, hc0, hf2⟩, h | h⟩ := h
  · obtain ⟨v, w1, w2, w3, f, hE0, n1, n2, ho, ⟨fs1, hc1⟩, hE1, n3, n4, hm2, hE2, n5, n6, ho3, hK3⟩ := h
    refine zl_callO (k := 0) (wz := za_up w1 no (.inl (2, 1, .inr (.inl (vp_updL f 0 v.toInt64))))) F hZo (fun sz => zo_n l D cA ad sz J.2.2.2 hc0 hE0 n1 n2 h2 ho) hcl hsl J hl.1 (fun ad1 H1 locs1 ha J1 => ?_)
    exact tail 0 v (za_up w1 no (.inl (2, 1, .inr (.inl (vp_updL f 0 v.toInt64))))) w2 w3 ad1 H1 locs1 ep n1 n2 ha J1 ⟨fs1, by rw [za_up.off hnn]; exact hc1⟩ hE1 n3 n4 hm2 hE2 n5 n6 hK3 (Or.inr ⟨_, ho3, by simp [vp_updL]⟩)
  · obtain ⟨b0, z, bb, w2, w3, h3, hno, hm1, hE1, n3, n4, hm2, hE2, n5, n6, hK3⟩ := h
    refine zl_callO (k := 1) (wz := w) F hZo (fun sz => zo_t l hl9 D cA ad sz J.2.2.2 hc0 hf2 h3 hno) hcl hsl J hl.1 (fun ad1 H1 locs1 ha J1 => ?_)
    exact tail 1 bb w w2 w3 ad1 H1 locs1 ep rfl rfl ha J1 hm1 hE1 n3 n4 hm2 hE2 n5 n6 hK3 (Or.inl (by decide))
end ZLO
