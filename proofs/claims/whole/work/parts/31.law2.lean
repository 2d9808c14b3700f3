/-! THE LAW, 2: its cases. -/
def zl_lv (b nm no : Nat) (ad : Nat → Nat) (i : Int32) : List (Nat × Value) := [(0, .ref b), (1, .ref (ad 0)), (2, .ref (ad nm)), (3, .ref (ad no)), (4, .int i)]
/-- one call of each side with one answer, to a world with K -/
def zl_H (m1 m2 : Nat) (as : List Value) (nm : Nat) (w : za_W) (K : za_W → Prop) : Prop := (∃ fs, w.2.2 0 = some (.inr (12, fs))) ∧ ∃ (v : Int32) (w1 : za_W), za_E m1 (.ref 0 :: as) w (.inl (some (.int v))) w1 ∧ w1.1 = w.1 ∧ w1.2.1 = w.2.1 ∧ (∃ fs, w1.2.2 nm = some (.inr (14, fs))) ∧ ∃ w2 : za_W, za_E m2 (.ref nm :: as) w1 (.inl (some (.int v))) w2 ∧ w2.1 = w1.1 ∧ w2.2.1 = w1.2.1 ∧ K w2
theorem zl_in {n k L : Nat} (h : n + k < L) (hL : L ≤ 3073) : vp_in (Int32.ofNat n + Int32.ofNat k) L := by
  rw [← Int32.ofNat_add]
  intro hc
  rcases hc with hc | hc
  · exact i3_z0 (by omega) hc
  · rw [i3_n (by omega)] at hc
    omega
theorem zl_ix {n k L : Nat} (h : n + k < L) (hL : L ≤ 3073) : (Int32.ofNat n + Int32.ofNat k).toNatClampNeg = n + k := by
  rw [← Int32.ofNat_add, i3_n (by omega)]
theorem zl_lv.agree {b nm no : Nat} {ad ad1 : Nat → Nat} {i : Int32} {n : Nat} (h : ∀ k, k < n → ad1 k = ad k) (h0 : 0 < n) (h1 : nm < n) (h2 : no < n) : zl_lv b nm no ad1 i = zl_lv b nm no ad i := by
  unfold zl_lv
  rw [h 0 h0, h nm h1, h no h2]
section ZLC
variable {p : Program} {l : Launch} {e : Env} {s : State} {m : MethodId} {below : List Frame} {meth : Method} {c : Code} {D : va_G} {cA : Nat → ClassId} {b L : Nat} {xs : Nat → Int32}
variable {H : Heap} {locs : List Loc} {cells slots : Nat} {Q : State → Prop} {ls : Array Slot} {ad : Nat → Nat} {w : za_W} {nm no n : Nat} {K : za_W → Prop}
set_option maxRecDepth 100000 in
theorem zl_open_l : Cond.methodLink "SortPacksLaw" 49 (za_y 187) ∈ za_tg := za_tg.of (p := 1386) (by decide +kernel) rfl
set_option maxRecDepth 100000 in
theorem zl_open_i : Cond.instanceMethod (za_y 187) ∈ za_tg := za_tg.of (p := 1387) (by decide +kernel) rfl
set_option maxRecDepth 100000 in
theorem zl_open_s : Cond.selects "SortPacksModel" (za_y 187) (za_y 187) ∈ za_tg := za_tg.of (p := 1388) (by decide +kernel) rfl
set_option maxRecDepth 100000 in
theorem zl_open_c : Cond.codeWith (za_y 187) (za_cc 187) (za_mx 187) (za_re 187) (za_xt 187) ∈ za_tg := za_tg.of (p := 1389) rfl rfl
set_option maxRecDepth 100000 in
theorem zl_open_n : Cond.initialized (za_y 187).cls ∈ za_tg := za_tg.of (p := 94) (by decide +kernel) rfl
set_option maxRecDepth 100000 in
theorem zl_alone_l : Cond.methodLink "SortPacksLaw" 100 (za_y 188) ∈ za_tg := za_tg.of (p := 1457) (by decide +kernel) rfl
set_option maxRecDepth 100000 in
theorem zl_alone_i : Cond.instanceMethod (za_y 188) ∈ za_tg := za_tg.of (p := 1458) (by decide +kernel) rfl
set_option maxRecDepth 100000 in
theorem zl_alone_s : Cond.selects "SortPacksModel" (za_y 188) (za_y 188) ∈ za_tg := za_tg.of (p := 1459) (by decide +kernel) rfl
set_option maxRecDepth 100000 in
theorem zl_alone_c : Cond.codeWith (za_y 188) (za_cc 188) (za_mx 188) (za_re 188) (za_xt 188) ∈ za_tg := za_tg.of (p := 1460) rfl rfl
set_option maxRecDepth 100000 in
theorem zl_alone_n : Cond.initialized (za_y 188).cls ∈ za_tg := za_tg.of (p := 94) (by decide +kernel) rfl
set_option maxHeartbeats 4000000 in
set_option maxRecDepth 100000 in
theorem zl_c0 (F : zl_F D cA p s m c b L xs) (hL : L ≤ 3073) (hn : n + 5 < L) (hcl : cells ≤ 601024) (hsl : slots ≤ 7293000) (J : zl_J D cA s.heap H locs ad w) (hl : lv_has ls 7 (zl_lv b nm no ad (Int32.ofNat n))) (h0 : 0 < w.1) (h1 : nm < w.1) (h2 : no < w.1) (h : zl_H 108 132 [.int (xs (n + 1)), .int (xs (n + 2)), .int (xs (n + 3)), .int (xs (n + 4)), .int (xs (n + 5))] nm w K)
    (kk : ∀ (ad1 : Nat → Nat) (H1 : Heap) (locs1 : List Loc) (w2 : za_W), K w2 → w2.1 = w.1 → w2.2.1 = w.2.1 → lv_has ls 7 (zl_lv b nm no ad1 (Int32.ofNat n)) → zl_J D cA s.heap H1 locs1 ad1 w2 → W p l e room_1 s m #[Value.ref b] below meth c H1 locs1 cells slots Q (F0 m 636 ls [])) :
    W p l e room_1 s m #[Value.ref b] below meth c H locs cells slots Q (F0 m 132 ls []) := by
  have hx := F.1
  have hb := F.2.1
  refine lv_aload_n hx hb dL_law_132 rfl (lv_at hl 1 rfl) ?_
  refine zl_arg (k := 1) (kv := Int32.ofNat 1) F J hl rfl rfl dL_law_133 dL_law_134 dL_law_136 dL_law_137 dL_law_138 (by decide) (zl_in (by omega) hL) ?_
  rw [zl_ix (L := L) (by omega) hL]
  refine zl_arg (k := 2) (kv := Int32.ofNat 2) F J hl rfl rfl dL_law_139 dL_law_140 dL_law_142 dL_law_143 dL_law_144 (by decide) (zl_in (by omega) hL) ?_
  rw [zl_ix (L := L) (by omega) hL]
  refine zl_arg (k := 3) (kv := Int32.ofNat 3) F J hl rfl rfl dL_law_145 dL_law_146 dL_law_148 dL_law_149 dL_law_150 (by decide) (zl_in (by omega) hL) ?_
  rw [zl_ix (L := L) (by omega) hL]
  refine zl_arg (k := 4) (kv := Int32.ofNat 4) F J hl rfl rfl dL_law_151 dL_law_152 dL_law_154 dL_law_155 dL_law_156 (by decide) (zl_in (by omega) hL) ?_
  rw [zl_ix (L := L) (by omega) hL]
  refine zl_arg (k := 5) (kv := Int32.ofNat 5) F J hl rfl rfl dL_law_157 dL_law_158 dL_law_160 dL_law_161 dL_law_162 (by decide) (zl_in (by omega) hL) ?_
  rw [zl_ix (L := L) (by omega) hL]
  obtain ⟨⟨fs0, hc0⟩, v, w1, hE1, e1, e2, ⟨fs1, hc1⟩, w2, hE2, e3, e4, hK⟩ := h
  refine zl_callV (as := [.int (xs (n + 1)), .int (xs (n + 2)), .int (xs (n + 3)), .int (xs (n + 4)), .int (xs (n + 5))]) F (mj := 108) (by decide +kernel) (by decide +kernel) (by decide +kernel) (by decide +kernel) hE1 (Nat.le_of_ble_eq_true rfl) hc0 rfl rfl (by simp [za_k]) (by omega) (by omega) (Nat.le_of_ble_eq_true rfl) J hl.1 dL_law_163 (fun ad1 H1 locs1 ha J => ?_)
  rw [← zl_lv.agree ha h0 h1 h2] at hl
  rw [show cells + (w1.1 - w.1) = cells by omega, show slots + (w1.2.1 - w.2.1) = slots by omega]
  refine lv_aload_n hx hb dL_law_166 rfl (lv_at hl 2 rfl) ?_
  refine zl_arg (k := 1) (kv := Int32.ofNat 1) F J hl rfl rfl dL_law_167 dL_law_168 dL_law_170 dL_law_171 dL_law_172 (by decide) (zl_in (by omega) hL) ?_
  rw [zl_ix (L := L) (by omega) hL]
  refine zl_arg (k := 2) (kv := Int32.ofNat 2) F J hl rfl rfl dL_law_173 dL_law_174 dL_law_176 dL_law_177 dL_law_178 (by decide) (zl_in (by omega) hL) ?_
  rw [zl_ix (L := L) (by omega) hL]
  refine zl_arg (k := 3) (kv := Int32.ofNat 3) F J hl rfl rfl dL_law_179 dL_law_180 dL_law_182 dL_law_183 dL_law_184 (by decide) (zl_in (by omega) hL) ?_
  rw [zl_ix (L := L) (by omega) hL]
  refine zl_arg (k := 4) (kv := Int32.ofNat 4) F J hl rfl rfl dL_law_185 dL_law_186 dL_law_188 dL_law_189 dL_law_190 (by decide) (zl_in (by omega) hL) ?_
  rw [zl_ix (L := L) (by omega) hL]
  refine zl_arg (k := 5) (kv := Int32.ofNat 5) F J hl rfl rfl dL_law_191 dL_law_192 dL_law_194 dL_law_195 dL_law_196 (by decide) (zl_in (by omega) hL) ?_
  rw [zl_ix (L := L) (by omega) hL]
  refine zl_callV (as := [.int (xs (n + 1)), .int (xs (n + 2)), .int (xs (n + 3)), .int (xs (n + 4)), .int (xs (n + 5))]) F (mj := 132) (by decide +kernel) (by decide +kernel) (by decide +kernel) (by decide +kernel) hE2 (Nat.le_of_ble_eq_true rfl) hc1 rfl rfl (by simp [za_k]) (by omega) (by omega) (Nat.le_of_ble_eq_true rfl) J hl.1 dL_law_197 (fun ad1 H1 locs1 ha J => ?_)
  rw [← zl_lv.agree ha (by omega) (by omega) (by omega)] at hl
  rw [show cells + (w2.1 - w1.1) = cells by omega, show slots + (w2.2.1 - w1.2.1) = slots by omega]
  exact lv_icmp_eq (tgt := 636) hx hb dL_law_200 rfl (fun _ => kk _ H1 locs1 w2 hK (e3.trans e1) (e4.trans e2) hl J) (fun h => absurd rfl h)
set_option maxHeartbeats 4000000 in
set_option maxRecDepth 100000 in
theorem zl_c1 (F : zl_F D cA p s m c b L xs) (hL : L ≤ 3073) (hn : n + 5 < L) (hcl : cells ≤ 601024) (hsl : slots ≤ 7293000) (J : zl_J D cA s.heap H locs ad w) (hl : lv_has ls 7 (zl_lv b nm no ad (Int32.ofNat n))) (h0 : 0 < w.1) (h1 : nm < w.1) (h2 : no < w.1) (h : zl_H 109 133 [.int (xs (n + 1))] nm w K)
    (kk : ∀ (ad1 : Nat → Nat) (H1 : Heap) (locs1 : List Loc) (w2 : za_W), K w2 → w2.1 = w.1 → w2.2.1 = w.2.1 → lv_has ls 7 (zl_lv b nm no ad1 (Int32.ofNat n)) → zl_J D cA s.heap H1 locs1 ad1 w2 → W p l e room_1 s m #[Value.ref b] below meth c H1 locs1 cells slots Q (F0 m 636 ls [])) :
    W p l e room_1 s m #[Value.ref b] below meth c H locs cells slots Q (F0 m 205 ls []) := by
  have hx := F.1
  have hb := F.2.1
  refine lv_aload_n hx hb dL_law_205 rfl (lv_at hl 1 rfl) ?_
  refine zl_arg (k := 1) (kv := Int32.ofNat 1) F J hl rfl rfl dL_law_206 dL_law_207 dL_law_209 dL_law_210 dL_law_211 (by decide) (zl_in (by omega) hL) ?_
  rw [zl_ix (L := L) (by omega) hL]
  obtain ⟨⟨fs0, hc0⟩, v, w1, hE1, e1, e2, ⟨fs1, hc1⟩, w2, hE2, e3, e4, hK⟩ := h
  refine zl_callV (as := [.int (xs (n + 1))]) F (mj := 109) (by decide +kernel) (by decide +kernel) (by decide +kernel) (by decide +kernel) hE1 (Nat.le_of_ble_eq_true rfl) hc0 rfl rfl (by simp [za_k]) (by omega) (by omega) (Nat.le_of_ble_eq_true rfl) J hl.1 dL_law_212 (fun ad1 H1 locs1 ha J => ?_)
  rw [← zl_lv.agree ha h0 h1 h2] at hl
  rw [show cells + (w1.1 - w.1) = cells by omega, show slots + (w1.2.1 - w.2.1) = slots by omega]
  refine lv_aload_n hx hb dL_law_215 rfl (lv_at hl 2 rfl) ?_
  refine zl_arg (k := 1) (kv := Int32.ofNat 1) F J hl rfl rfl dL_law_216 dL_law_217 dL_law_219 dL_law_220 dL_law_221 (by decide) (zl_in (by omega) hL) ?_
  rw [zl_ix (L := L) (by omega) hL]
  refine zl_callV (as := [.int (xs (n + 1))]) F (mj := 133) (by decide +kernel) (by decide +kernel) (by decide +kernel) (by decide +kernel) hE2 (Nat.le_of_ble_eq_true rfl) hc1 rfl rfl (by simp [za_k]) (by omega) (by omega) (Nat.le_of_ble_eq_true rfl) J hl.1 dL_law_222 (fun ad1 H1 locs1 ha J => ?_)
  rw [← zl_lv.agree ha (by omega) (by omega) (by omega)] at hl
  rw [show cells + (w2.1 - w1.1) = cells by omega, show slots + (w2.2.1 - w1.2.1) = slots by omega]
  exact lv_icmp_eq (tgt := 636) hx hb dL_law_225 rfl (fun _ => kk _ H1 locs1 w2 hK (e3.trans e1) (e4.trans e2) hl J) (fun h => absurd rfl h)
set_option maxHeartbeats 4000000 in
set_option maxRecDepth 100000 in
theorem zl_c2 (F : zl_F D cA p s m c b L xs) (hL : L ≤ 3073) (hn : n + 5 < L) (hcl : cells ≤ 601024) (hsl : slots ≤ 7293000) (J : zl_J D cA s.heap H locs ad w) (hl : lv_has ls 7 (zl_lv b nm no ad (Int32.ofNat n))) (h0 : 0 < w.1) (h1 : nm < w.1) (h2 : no < w.1) (h : zl_H 110 134 [.int (xs (n + 1)), .int (xs (n + 2))] nm w K)
    (kk : ∀ (ad1 : Nat → Nat) (H1 : Heap) (locs1 : List Loc) (w2 : za_W), K w2 → w2.1 = w.1 → w2.2.1 = w.2.1 → lv_has ls 7 (zl_lv b nm no ad1 (Int32.ofNat n)) → zl_J D cA s.heap H1 locs1 ad1 w2 → W p l e room_1 s m #[Value.ref b] below meth c H1 locs1 cells slots Q (F0 m 636 ls [])) :
    W p l e room_1 s m #[Value.ref b] below meth c H locs cells slots Q (F0 m 230 ls []) := by
  have hx := F.1
  have hb := F.2.1
  refine lv_aload_n hx hb dL_law_230 rfl (lv_at hl 1 rfl) ?_
  refine zl_arg (k := 1) (kv := Int32.ofNat 1) F J hl rfl rfl dL_law_231 dL_law_232 dL_law_234 dL_law_235 dL_law_236 (by decide) (zl_in (by omega) hL) ?_
  rw [zl_ix (L := L) (by omega) hL]
  refine zl_arg (k := 2) (kv := Int32.ofNat 2) F J hl rfl rfl dL_law_237 dL_law_238 dL_law_240 dL_law_241 dL_law_242 (by decide) (zl_in (by omega) hL) ?_
  rw [zl_ix (L := L) (by omega) hL]
  obtain ⟨⟨fs0, hc0⟩, v, w1, hE1, e1, e2, ⟨fs1, hc1⟩, w2, hE2, e3, e4, hK⟩ := h
  refine zl_callV (as := [.int (xs (n + 1)), .int (xs (n + 2))]) F (mj := 110) (by decide +kernel) (by decide +kernel) (by decide +kernel) (by decide +kernel) hE1 (Nat.le_of_ble_eq_true rfl) hc0 rfl rfl (by simp [za_k]) (by omega) (by omega) (Nat.le_of_ble_eq_true rfl) J hl.1 dL_law_243 (fun ad1 H1 locs1 ha J => ?_)
  rw [← zl_lv.agree ha h0 h1 h2] at hl
  rw [show cells + (w1.1 - w.1) = cells by omega, show slots + (w1.2.1 - w.2.1) = slots by omega]
  refine lv_aload_n hx hb dL_law_246 rfl (lv_at hl 2 rfl) ?_
  refine zl_arg (k := 1) (kv := Int32.ofNat 1) F J hl rfl rfl dL_law_247 dL_law_248 dL_law_250 dL_law_251 dL_law_252 (by decide) (zl_in (by omega) hL) ?_
  rw [zl_ix (L := L) (by omega) hL]
  refine zl_arg (k := 2) (kv := Int32.ofNat 2) F J hl rfl rfl dL_law_253 dL_law_254 dL_law_256 dL_law_257 dL_law_258 (by decide) (zl_in (by omega) hL) ?_
  rw [zl_ix (L := L) (by omega) hL]
  refine zl_callV (as := [.int (xs (n + 1)), .int (xs (n + 2))]) F (mj := 134) (by decide +kernel) (by decide +kernel) (by decide +kernel) (by decide +kernel) hE2 (Nat.le_of_ble_eq_true rfl) hc1 rfl rfl (by simp [za_k]) (by omega) (by omega) (Nat.le_of_ble_eq_true rfl) J hl.1 dL_law_259 (fun ad1 H1 locs1 ha J => ?_)
  rw [← zl_lv.agree ha (by omega) (by omega) (by omega)] at hl
  rw [show cells + (w2.1 - w1.1) = cells by omega, show slots + (w2.2.1 - w1.2.1) = slots by omega]
  exact lv_icmp_eq (tgt := 636) hx hb dL_law_262 rfl (fun _ => kk _ H1 locs1 w2 hK (e3.trans e1) (e4.trans e2) hl J) (fun h => absurd rfl h)
set_option maxHeartbeats 4000000 in
set_option maxRecDepth 100000 in
theorem zl_c3 (F : zl_F D cA p s m c b L xs) (hL : L ≤ 3073) (hn : n + 5 < L) (hcl : cells ≤ 601024) (hsl : slots ≤ 7293000) (J : zl_J D cA s.heap H locs ad w) (hl : lv_has ls 7 (zl_lv b nm no ad (Int32.ofNat n))) (h0 : 0 < w.1) (h1 : nm < w.1) (h2 : no < w.1) (h : zl_H 111 168 [] nm w K)
    (kk : ∀ (ad1 : Nat → Nat) (H1 : Heap) (locs1 : List Loc) (w2 : za_W), K w2 → w2.1 = w.1 → w2.2.1 = w.2.1 → lv_has ls 7 (zl_lv b nm no ad1 (Int32.ofNat n)) → zl_J D cA s.heap H1 locs1 ad1 w2 → W p l e room_1 s m #[Value.ref b] below meth c H1 locs1 cells slots Q (F0 m 636 ls [])) :
    W p l e room_1 s m #[Value.ref b] below meth c H locs cells slots Q (F0 m 267 ls []) := by
  have hx := F.1
  have hb := F.2.1
  refine lv_aload_n hx hb dL_law_267 rfl (lv_at hl 1 rfl) ?_
  obtain ⟨⟨fs0, hc0⟩, v, w1, hE1, e1, e2, ⟨fs1, hc1⟩, w2, hE2, e3, e4, hK⟩ := h
  refine zl_callV (as := []) F (mj := 111) (by decide +kernel) (by decide +kernel) (by decide +kernel) (by decide +kernel) hE1 (Nat.le_of_ble_eq_true rfl) hc0 rfl rfl (by simp [za_k]) (by omega) (by omega) (Nat.le_of_ble_eq_true rfl) J hl.1 dL_law_268 (fun ad1 H1 locs1 ha J => ?_)
  rw [← zl_lv.agree ha h0 h1 h2] at hl
  rw [show cells + (w1.1 - w.1) = cells by omega, show slots + (w1.2.1 - w.2.1) = slots by omega]
  refine lv_aload_n hx hb dL_law_271 rfl (lv_at hl 2 rfl) ?_
  refine zl_callV (as := []) F (mj := 168) (by decide +kernel) (by decide +kernel) (by decide +kernel) (by decide +kernel) hE2 (Nat.le_of_ble_eq_true rfl) hc1 rfl rfl (by simp [za_k]) (by omega) (by omega) (Nat.le_of_ble_eq_true rfl) J hl.1 dL_law_272 (fun ad1 H1 locs1 ha J => ?_)
  rw [← zl_lv.agree ha (by omega) (by omega) (by omega)] at hl
  rw [show cells + (w2.1 - w1.1) = cells by omega, show slots + (w2.2.1 - w1.2.1) = slots by omega]
  exact lv_icmp_eq (tgt := 636) hx hb dL_law_275 rfl (fun _ => kk _ H1 locs1 w2 hK (e3.trans e1) (e4.trans e2) hl J) (fun h => absurd rfl h)
set_option maxHeartbeats 4000000 in
set_option maxRecDepth 100000 in
theorem zl_c4 (F : zl_F D cA p s m c b L xs) (hL : L ≤ 3073) (hn : n + 5 < L) (hcl : cells ≤ 601024) (hsl : slots ≤ 7293000) (J : zl_J D cA s.heap H locs ad w) (hl : lv_has ls 7 (zl_lv b nm no ad (Int32.ofNat n))) (h0 : 0 < w.1) (h1 : nm < w.1) (h2 : no < w.1) (h : zl_H 112 187 [] nm w K)
    (kk : ∀ (ad1 : Nat → Nat) (H1 : Heap) (locs1 : List Loc) (w2 : za_W), K w2 → w2.1 = w.1 → w2.2.1 = w.2.1 → lv_has ls 7 (zl_lv b nm no ad1 (Int32.ofNat n)) → zl_J D cA s.heap H1 locs1 ad1 w2 → W p l e room_1 s m #[Value.ref b] below meth c H1 locs1 cells slots Q (F0 m 636 ls [])) :
    W p l e room_1 s m #[Value.ref b] below meth c H locs cells slots Q (F0 m 280 ls []) := by
  have hx := F.1
  have hb := F.2.1
  refine lv_aload_n hx hb dL_law_280 rfl (lv_at hl 1 rfl) ?_
  obtain ⟨⟨fs0, hc0⟩, v, w1, hE1, e1, e2, ⟨fs1, hc1⟩, w2, hE2, e3, e4, hK⟩ := h
  refine zl_callV (as := []) F (mj := 112) (by decide +kernel) (by decide +kernel) (by decide +kernel) (by decide +kernel) hE1 (Nat.le_of_ble_eq_true rfl) hc0 rfl rfl (by simp [za_k]) (by omega) (by omega) (Nat.le_of_ble_eq_true rfl) J hl.1 dL_law_281 (fun ad1 H1 locs1 ha J => ?_)
  rw [← zl_lv.agree ha h0 h1 h2] at hl
  rw [show cells + (w1.1 - w.1) = cells by omega, show slots + (w1.2.1 - w.2.1) = slots by omega]
  refine lv_aload_n hx hb dL_law_284 rfl (lv_at hl 2 rfl) ?_
  refine zl_callH (as := []) F (mj := 187) (by omega) zl_open_l zl_open_i zl_open_s zl_open_c zl_open_n hE2 (Nat.le_of_ble_eq_true rfl) hc1 rfl rfl (by simp [za_k]) (by omega) (by omega) (Nat.le_of_ble_eq_true rfl) J hl.1 dL_law_285 (fun ad1 H1 locs1 ha J => ?_)
  rw [← zl_lv.agree ha (by omega) (by omega) (by omega)] at hl
  rw [show cells + (w2.1 - w1.1) = cells by omega, show slots + (w2.2.1 - w1.2.1) = slots by omega]
  exact lv_icmp_eq (tgt := 636) hx hb dL_law_288 rfl (fun _ => kk _ H1 locs1 w2 hK (e3.trans e1) (e4.trans e2) hl J) (fun h => absurd rfl h)
set_option maxHeartbeats 4000000 in
set_option maxRecDepth 100000 in
theorem zl_c5 (F : zl_F D cA p s m c b L xs) (hL : L ≤ 3073) (hn : n + 5 < L) (hcl : cells ≤ 601024) (hsl : slots ≤ 7293000) (J : zl_J D cA s.heap H locs ad w) (hl : lv_has ls 7 (zl_lv b nm no ad (Int32.ofNat n))) (h0 : 0 < w.1) (h1 : nm < w.1) (h2 : no < w.1) (h : zl_H 113 135 [] nm w K)
    (kk : ∀ (ad1 : Nat → Nat) (H1 : Heap) (locs1 : List Loc) (w2 : za_W), K w2 → w2.1 = w.1 → w2.2.1 = w.2.1 → lv_has ls 7 (zl_lv b nm no ad1 (Int32.ofNat n)) → zl_J D cA s.heap H1 locs1 ad1 w2 → W p l e room_1 s m #[Value.ref b] below meth c H1 locs1 cells slots Q (F0 m 636 ls [])) :
    W p l e room_1 s m #[Value.ref b] below meth c H locs cells slots Q (F0 m 293 ls []) := by
  have hx := F.1
  have hb := F.2.1
  refine lv_aload_n hx hb dL_law_293 rfl (lv_at hl 1 rfl) ?_
  obtain ⟨⟨fs0, hc0⟩, v, w1, hE1, e1, e2, ⟨fs1, hc1⟩, w2, hE2, e3, e4, hK⟩ := h
  refine zl_callV (as := []) F (mj := 113) (by decide +kernel) (by decide +kernel) (by decide +kernel) (by decide +kernel) hE1 (Nat.le_of_ble_eq_true rfl) hc0 rfl rfl (by simp [za_k]) (by omega) (by omega) (Nat.le_of_ble_eq_true rfl) J hl.1 dL_law_294 (fun ad1 H1 locs1 ha J => ?_)
  rw [← zl_lv.agree ha h0 h1 h2] at hl
  rw [show cells + (w1.1 - w.1) = cells by omega, show slots + (w1.2.1 - w.2.1) = slots by omega]
  refine lv_aload_n hx hb dL_law_297 rfl (lv_at hl 2 rfl) ?_
  refine zl_callV (as := []) F (mj := 135) (by decide +kernel) (by decide +kernel) (by decide +kernel) (by decide +kernel) hE2 (Nat.le_of_ble_eq_true rfl) hc1 rfl rfl (by simp [za_k]) (by omega) (by omega) (Nat.le_of_ble_eq_true rfl) J hl.1 dL_law_298 (fun ad1 H1 locs1 ha J => ?_)
  rw [← zl_lv.agree ha (by omega) (by omega) (by omega)] at hl
  rw [show cells + (w2.1 - w1.1) = cells by omega, show slots + (w2.2.1 - w1.2.1) = slots by omega]
  exact lv_icmp_eq (tgt := 636) hx hb dL_law_301 rfl (fun _ => kk _ H1 locs1 w2 hK (e3.trans e1) (e4.trans e2) hl J) (fun h => absurd rfl h)
set_option maxHeartbeats 4000000 in
set_option maxRecDepth 100000 in
theorem zl_c6 (F : zl_F D cA p s m c b L xs) (hL : L ≤ 3073) (hn : n + 5 < L) (hcl : cells ≤ 601024) (hsl : slots ≤ 7293000) (J : zl_J D cA s.heap H locs ad w) (hl : lv_has ls 7 (zl_lv b nm no ad (Int32.ofNat n))) (h0 : 0 < w.1) (h1 : nm < w.1) (h2 : no < w.1) (h : zl_H 114 136 [] nm w K)
    (kk : ∀ (ad1 : Nat → Nat) (H1 : Heap) (locs1 : List Loc) (w2 : za_W), K w2 → w2.1 = w.1 → w2.2.1 = w.2.1 → lv_has ls 7 (zl_lv b nm no ad1 (Int32.ofNat n)) → zl_J D cA s.heap H1 locs1 ad1 w2 → W p l e room_1 s m #[Value.ref b] below meth c H1 locs1 cells slots Q (F0 m 636 ls [])) :
    W p l e room_1 s m #[Value.ref b] below meth c H locs cells slots Q (F0 m 306 ls []) := by
  have hx := F.1
  have hb := F.2.1
  refine lv_aload_n hx hb dL_law_306 rfl (lv_at hl 1 rfl) ?_
  obtain ⟨⟨fs0, hc0⟩, v, w1, hE1, e1, e2, ⟨fs1, hc1⟩, w2, hE2, e3, e4, hK⟩ := h
  refine zl_callV (as := []) F (mj := 114) (by decide +kernel) (by decide +kernel) (by decide +kernel) (by decide +kernel) hE1 (Nat.le_of_ble_eq_true rfl) hc0 rfl rfl (by simp [za_k]) (by omega) (by omega) (Nat.le_of_ble_eq_true rfl) J hl.1 dL_law_307 (fun ad1 H1 locs1 ha J => ?_)
  rw [← zl_lv.agree ha h0 h1 h2] at hl
  rw [show cells + (w1.1 - w.1) = cells by omega, show slots + (w1.2.1 - w.2.1) = slots by omega]
  refine lv_aload_n hx hb dL_law_310 rfl (lv_at hl 2 rfl) ?_
  refine zl_callV (as := []) F (mj := 136) (by decide +kernel) (by decide +kernel) (by decide +kernel) (by decide +kernel) hE2 (Nat.le_of_ble_eq_true rfl) hc1 rfl rfl (by simp [za_k]) (by omega) (by omega) (Nat.le_of_ble_eq_true rfl) J hl.1 dL_law_311 (fun ad1 H1 locs1 ha J => ?_)
  rw [← zl_lv.agree ha (by omega) (by omega) (by omega)] at hl
  rw [show cells + (w2.1 - w1.1) = cells by omega, show slots + (w2.2.1 - w1.2.1) = slots by omega]
  exact lv_icmp_eq (tgt := 636) hx hb dL_law_314 rfl (fun _ => kk _ H1 locs1 w2 hK (e3.trans e1) (e4.trans e2) hl J) (fun h => absurd rfl h)
set_option maxHeartbeats 4000000 in
set_option maxRecDepth 100000 in
theorem zl_c7 (F : zl_F D cA p s m c b L xs) (hL : L ≤ 3073) (hn : n + 5 < L) (hcl : cells ≤ 601024) (hsl : slots ≤ 7293000) (J : zl_J D cA s.heap H locs ad w) (hl : lv_has ls 7 (zl_lv b nm no ad (Int32.ofNat n))) (h0 : 0 < w.1) (h1 : nm < w.1) (h2 : no < w.1) (h : zl_H 115 137 [.int (xs (n + 1)), .int (xs (n + 2))] nm w K)
    (kk : ∀ (ad1 : Nat → Nat) (H1 : Heap) (locs1 : List Loc) (w2 : za_W), K w2 → w2.1 = w.1 → w2.2.1 = w.2.1 → lv_has ls 7 (zl_lv b nm no ad1 (Int32.ofNat n)) → zl_J D cA s.heap H1 locs1 ad1 w2 → W p l e room_1 s m #[Value.ref b] below meth c H1 locs1 cells slots Q (F0 m 636 ls [])) :
    W p l e room_1 s m #[Value.ref b] below meth c H locs cells slots Q (F0 m 319 ls []) := by
  have hx := F.1
  have hb := F.2.1
  refine lv_aload_n hx hb dL_law_319 rfl (lv_at hl 1 rfl) ?_
  refine zl_arg (k := 1) (kv := Int32.ofNat 1) F J hl rfl rfl dL_law_320 dL_law_321 dL_law_323 dL_law_324 dL_law_325 (by decide) (zl_in (by omega) hL) ?_
  rw [zl_ix (L := L) (by omega) hL]
  refine zl_arg (k := 2) (kv := Int32.ofNat 2) F J hl rfl rfl dL_law_326 dL_law_327 dL_law_329 dL_law_330 dL_law_331 (by decide) (zl_in (by omega) hL) ?_
  rw [zl_ix (L := L) (by omega) hL]
  obtain ⟨⟨fs0, hc0⟩, v, w1, hE1, e1, e2, ⟨fs1, hc1⟩, w2, hE2, e3, e4, hK⟩ := h
  refine zl_callV (as := [.int (xs (n + 1)), .int (xs (n + 2))]) F (mj := 115) (by decide +kernel) (by decide +kernel) (by decide +kernel) (by decide +kernel) hE1 (Nat.le_of_ble_eq_true rfl) hc0 rfl rfl (by simp [za_k]) (by omega) (by omega) (Nat.le_of_ble_eq_true rfl) J hl.1 dL_law_332 (fun ad1 H1 locs1 ha J => ?_)
  rw [← zl_lv.agree ha h0 h1 h2] at hl
  rw [show cells + (w1.1 - w.1) = cells by omega, show slots + (w1.2.1 - w.2.1) = slots by omega]
  refine lv_aload_n hx hb dL_law_335 rfl (lv_at hl 2 rfl) ?_
  refine zl_arg (k := 1) (kv := Int32.ofNat 1) F J hl rfl rfl dL_law_336 dL_law_337 dL_law_339 dL_law_340 dL_law_341 (by decide) (zl_in (by omega) hL) ?_
  rw [zl_ix (L := L) (by omega) hL]
  refine zl_arg (k := 2) (kv := Int32.ofNat 2) F J hl rfl rfl dL_law_342 dL_law_343 dL_law_345 dL_law_346 dL_law_347 (by decide) (zl_in (by omega) hL) ?_
  rw [zl_ix (L := L) (by omega) hL]
  refine zl_callV (as := [.int (xs (n + 1)), .int (xs (n + 2))]) F (mj := 137) (by decide +kernel) (by decide +kernel) (by decide +kernel) (by decide +kernel) hE2 (Nat.le_of_ble_eq_true rfl) hc1 rfl rfl (by simp [za_k]) (by omega) (by omega) (Nat.le_of_ble_eq_true rfl) J hl.1 dL_law_348 (fun ad1 H1 locs1 ha J => ?_)
  rw [← zl_lv.agree ha (by omega) (by omega) (by omega)] at hl
  rw [show cells + (w2.1 - w1.1) = cells by omega, show slots + (w2.2.1 - w1.2.1) = slots by omega]
  exact lv_icmp_eq (tgt := 636) hx hb dL_law_351 rfl (fun _ => kk _ H1 locs1 w2 hK (e3.trans e1) (e4.trans e2) hl J) (fun h => absurd rfl h)
set_option maxHeartbeats 4000000 in
set_option maxRecDepth 100000 in
theorem zl_c8 (F : zl_F D cA p s m c b L xs) (hL : L ≤ 3073) (hn : n + 5 < L) (hcl : cells ≤ 601024) (hsl : slots ≤ 7293000) (J : zl_J D cA s.heap H locs ad w) (hl : lv_has ls 7 (zl_lv b nm no ad (Int32.ofNat n))) (h0 : 0 < w.1) (h1 : nm < w.1) (h2 : no < w.1) (h : zl_H 116 138 [.int (xs (n + 1))] nm w K)
    (kk : ∀ (ad1 : Nat → Nat) (H1 : Heap) (locs1 : List Loc) (w2 : za_W), K w2 → w2.1 = w.1 → w2.2.1 = w.2.1 → lv_has ls 7 (zl_lv b nm no ad1 (Int32.ofNat n)) → zl_J D cA s.heap H1 locs1 ad1 w2 → W p l e room_1 s m #[Value.ref b] below meth c H1 locs1 cells slots Q (F0 m 636 ls [])) :
    W p l e room_1 s m #[Value.ref b] below meth c H locs cells slots Q (F0 m 356 ls []) := by
  have hx := F.1
  have hb := F.2.1
  refine lv_aload_n hx hb dL_law_356 rfl (lv_at hl 1 rfl) ?_
  refine zl_arg (k := 1) (kv := Int32.ofNat 1) F J hl rfl rfl dL_law_357 dL_law_358 dL_law_360 dL_law_361 dL_law_362 (by decide) (zl_in (by omega) hL) ?_
  rw [zl_ix (L := L) (by omega) hL]
  obtain ⟨⟨fs0, hc0⟩, v, w1, hE1, e1, e2, ⟨fs1, hc1⟩, w2, hE2, e3, e4, hK⟩ := h
  refine zl_callV (as := [.int (xs (n + 1))]) F (mj := 116) (by decide +kernel) (by decide +kernel) (by decide +kernel) (by decide +kernel) hE1 (Nat.le_of_ble_eq_true rfl) hc0 rfl rfl (by simp [za_k]) (by omega) (by omega) (Nat.le_of_ble_eq_true rfl) J hl.1 dL_law_363 (fun ad1 H1 locs1 ha J => ?_)
  rw [← zl_lv.agree ha h0 h1 h2] at hl
  rw [show cells + (w1.1 - w.1) = cells by omega, show slots + (w1.2.1 - w.2.1) = slots by omega]
  refine lv_aload_n hx hb dL_law_366 rfl (lv_at hl 2 rfl) ?_
  refine zl_arg (k := 1) (kv := Int32.ofNat 1) F J hl rfl rfl dL_law_367 dL_law_368 dL_law_370 dL_law_371 dL_law_372 (by decide) (zl_in (by omega) hL) ?_
  rw [zl_ix (L := L) (by omega) hL]
  refine zl_callV (as := [.int (xs (n + 1))]) F (mj := 138) (by decide +kernel) (by decide +kernel) (by decide +kernel) (by decide +kernel) hE2 (Nat.le_of_ble_eq_true rfl) hc1 rfl rfl (by simp [za_k]) (by omega) (by omega) (Nat.le_of_ble_eq_true rfl) J hl.1 dL_law_373 (fun ad1 H1 locs1 ha J => ?_)
  rw [← zl_lv.agree ha (by omega) (by omega) (by omega)] at hl
  rw [show cells + (w2.1 - w1.1) = cells by omega, show slots + (w2.2.1 - w1.2.1) = slots by omega]
  exact lv_icmp_eq (tgt := 636) hx hb dL_law_376 rfl (fun _ => kk _ H1 locs1 w2 hK (e3.trans e1) (e4.trans e2) hl J) (fun h => absurd rfl h)
set_option maxHeartbeats 4000000 in
set_option maxRecDepth 100000 in
theorem zl_c10 (F : zl_F D cA p s m c b L xs) (hL : L ≤ 3073) (hn : n + 5 < L) (hcl : cells ≤ 601024) (hsl : slots ≤ 7293000) (J : zl_J D cA s.heap H locs ad w) (hl : lv_has ls 7 (zl_lv b nm no ad (Int32.ofNat n))) (h0 : 0 < w.1) (h1 : nm < w.1) (h2 : no < w.1) (h : zl_H 118 140 [.int (xs (n + 1))] nm w K)
    (kk : ∀ (ad1 : Nat → Nat) (H1 : Heap) (locs1 : List Loc) (w2 : za_W), K w2 → w2.1 = w.1 → w2.2.1 = w.2.1 → lv_has ls 7 (zl_lv b nm no ad1 (Int32.ofNat n)) → zl_J D cA s.heap H1 locs1 ad1 w2 → W p l e room_1 s m #[Value.ref b] below meth c H1 locs1 cells slots Q (F0 m 636 ls [])) :
    W p l e room_1 s m #[Value.ref b] below meth c H locs cells slots Q (F0 m 437 ls []) := by
  have hx := F.1
  have hb := F.2.1
  refine lv_aload_n hx hb dL_law_437 rfl (lv_at hl 1 rfl) ?_
  refine zl_arg (k := 1) (kv := Int32.ofNat 1) F J hl rfl rfl dL_law_438 dL_law_439 dL_law_441 dL_law_442 dL_law_443 (by decide) (zl_in (by omega) hL) ?_
  rw [zl_ix (L := L) (by omega) hL]
  obtain ⟨⟨fs0, hc0⟩, v, w1, hE1, e1, e2, ⟨fs1, hc1⟩, w2, hE2, e3, e4, hK⟩ := h
  refine zl_callV (as := [.int (xs (n + 1))]) F (mj := 118) (by decide +kernel) (by decide +kernel) (by decide +kernel) (by decide +kernel) hE1 (Nat.le_of_ble_eq_true rfl) hc0 rfl rfl (by simp [za_k]) (by omega) (by omega) (Nat.le_of_ble_eq_true rfl) J hl.1 dL_law_444 (fun ad1 H1 locs1 ha J => ?_)
  rw [← zl_lv.agree ha h0 h1 h2] at hl
  rw [show cells + (w1.1 - w.1) = cells by omega, show slots + (w1.2.1 - w.2.1) = slots by omega]
  refine lv_aload_n hx hb dL_law_447 rfl (lv_at hl 2 rfl) ?_
  refine zl_arg (k := 1) (kv := Int32.ofNat 1) F J hl rfl rfl dL_law_448 dL_law_449 dL_law_451 dL_law_452 dL_law_453 (by decide) (zl_in (by omega) hL) ?_
  rw [zl_ix (L := L) (by omega) hL]
  refine zl_callV (as := [.int (xs (n + 1))]) F (mj := 140) (by decide +kernel) (by decide +kernel) (by decide +kernel) (by decide +kernel) hE2 (Nat.le_of_ble_eq_true rfl) hc1 rfl rfl (by simp [za_k]) (by omega) (by omega) (Nat.le_of_ble_eq_true rfl) J hl.1 dL_law_454 (fun ad1 H1 locs1 ha J => ?_)
  rw [← zl_lv.agree ha (by omega) (by omega) (by omega)] at hl
  rw [show cells + (w2.1 - w1.1) = cells by omega, show slots + (w2.2.1 - w1.2.1) = slots by omega]
  exact lv_icmp_eq (tgt := 636) hx hb dL_law_457 rfl (fun _ => kk _ H1 locs1 w2 hK (e3.trans e1) (e4.trans e2) hl J) (fun h => absurd rfl h)
set_option maxHeartbeats 4000000 in
set_option maxRecDepth 100000 in
theorem zl_c11 (F : zl_F D cA p s m c b L xs) (hL : L ≤ 3073) (hn : n + 5 < L) (hcl : cells ≤ 601024) (hsl : slots ≤ 7293000) (J : zl_J D cA s.heap H locs ad w) (hl : lv_has ls 7 (zl_lv b nm no ad (Int32.ofNat n))) (h0 : 0 < w.1) (h1 : nm < w.1) (h2 : no < w.1) (h : zl_H 119 143 [.int (xs (n + 1)), .int (xs (n + 2))] nm w K)
    (kk : ∀ (ad1 : Nat → Nat) (H1 : Heap) (locs1 : List Loc) (w2 : za_W), K w2 → w2.1 = w.1 → w2.2.1 = w.2.1 → lv_has ls 7 (zl_lv b nm no ad1 (Int32.ofNat n)) → zl_J D cA s.heap H1 locs1 ad1 w2 → W p l e room_1 s m #[Value.ref b] below meth c H1 locs1 cells slots Q (F0 m 636 ls [])) :
    W p l e room_1 s m #[Value.ref b] below meth c H locs cells slots Q (F0 m 462 ls []) := by
  have hx := F.1
  have hb := F.2.1
  refine lv_aload_n hx hb dL_law_462 rfl (lv_at hl 1 rfl) ?_
  refine zl_arg (k := 1) (kv := Int32.ofNat 1) F J hl rfl rfl dL_law_463 dL_law_464 dL_law_466 dL_law_467 dL_law_468 (by decide) (zl_in (by omega) hL) ?_
  rw [zl_ix (L := L) (by omega) hL]
  refine zl_arg (k := 2) (kv := Int32.ofNat 2) F J hl rfl rfl dL_law_469 dL_law_470 dL_law_472 dL_law_473 dL_law_474 (by decide) (zl_in (by omega) hL) ?_
  rw [zl_ix (L := L) (by omega) hL]
  obtain ⟨⟨fs0, hc0⟩, v, w1, hE1, e1, e2, ⟨fs1, hc1⟩, w2, hE2, e3, e4, hK⟩ := h
  refine zl_callV (as := [.int (xs (n + 1)), .int (xs (n + 2))]) F (mj := 119) (by decide +kernel) (by decide +kernel) (by decide +kernel) (by decide +kernel) hE1 (Nat.le_of_ble_eq_true rfl) hc0 rfl rfl (by simp [za_k]) (by omega) (by omega) (Nat.le_of_ble_eq_true rfl) J hl.1 dL_law_475 (fun ad1 H1 locs1 ha J => ?_)
  rw [← zl_lv.agree ha h0 h1 h2] at hl
  rw [show cells + (w1.1 - w.1) = cells by omega, show slots + (w1.2.1 - w.2.1) = slots by omega]
  refine lv_aload_n hx hb dL_law_478 rfl (lv_at hl 2 rfl) ?_
  refine zl_arg (k := 1) (kv := Int32.ofNat 1) F J hl rfl rfl dL_law_479 dL_law_480 dL_law_482 dL_law_483 dL_law_484 (by decide) (zl_in (by omega) hL) ?_
  rw [zl_ix (L := L) (by omega) hL]
  refine zl_arg (k := 2) (kv := Int32.ofNat 2) F J hl rfl rfl dL_law_485 dL_law_486 dL_law_488 dL_law_489 dL_law_490 (by decide) (zl_in (by omega) hL) ?_
  rw [zl_ix (L := L) (by omega) hL]
  refine zl_callV (as := [.int (xs (n + 1)), .int (xs (n + 2))]) F (mj := 143) (by decide +kernel) (by decide +kernel) (by decide +kernel) (by decide +kernel) hE2 (Nat.le_of_ble_eq_true rfl) hc1 rfl rfl (by simp [za_k]) (by omega) (by omega) (Nat.le_of_ble_eq_true rfl) J hl.1 dL_law_491 (fun ad1 H1 locs1 ha J => ?_)
  rw [← zl_lv.agree ha (by omega) (by omega) (by omega)] at hl
  rw [show cells + (w2.1 - w1.1) = cells by omega, show slots + (w2.2.1 - w1.2.1) = slots by omega]
  exact lv_icmp_eq (tgt := 636) hx hb dL_law_494 rfl (fun _ => kk _ H1 locs1 w2 hK (e3.trans e1) (e4.trans e2) hl J) (fun h => absurd rfl h)
set_option maxHeartbeats 4000000 in
set_option maxRecDepth 100000 in
theorem zl_c12 (F : zl_F D cA p s m c b L xs) (hL : L ≤ 3073) (hn : n + 5 < L) (hcl : cells ≤ 601024) (hsl : slots ≤ 7293000) (J : zl_J D cA s.heap H locs ad w) (hl : lv_has ls 7 (zl_lv b nm no ad (Int32.ofNat n))) (h0 : 0 < w.1) (h1 : nm < w.1) (h2 : no < w.1) (h : zl_H 120 144 [.int (xs (n + 1))] nm w K)
    (kk : ∀ (ad1 : Nat → Nat) (H1 : Heap) (locs1 : List Loc) (w2 : za_W), K w2 → w2.1 = w.1 → w2.2.1 = w.2.1 → lv_has ls 7 (zl_lv b nm no ad1 (Int32.ofNat n)) → zl_J D cA s.heap H1 locs1 ad1 w2 → W p l e room_1 s m #[Value.ref b] below meth c H1 locs1 cells slots Q (F0 m 636 ls [])) :
    W p l e room_1 s m #[Value.ref b] below meth c H locs cells slots Q (F0 m 499 ls []) := by
  have hx := F.1
  have hb := F.2.1
  refine lv_aload_n hx hb dL_law_499 rfl (lv_at hl 1 rfl) ?_
  refine zl_arg (k := 1) (kv := Int32.ofNat 1) F J hl rfl rfl dL_law_500 dL_law_501 dL_law_503 dL_law_504 dL_law_505 (by decide) (zl_in (by omega) hL) ?_
  rw [zl_ix (L := L) (by omega) hL]
  obtain ⟨⟨fs0, hc0⟩, v, w1, hE1, e1, e2, ⟨fs1, hc1⟩, w2, hE2, e3, e4, hK⟩ := h
  refine zl_callV (as := [.int (xs (n + 1))]) F (mj := 120) (by decide +kernel) (by decide +kernel) (by decide +kernel) (by decide +kernel) hE1 (Nat.le_of_ble_eq_true rfl) hc0 rfl rfl (by simp [za_k]) (by omega) (by omega) (Nat.le_of_ble_eq_true rfl) J hl.1 dL_law_506 (fun ad1 H1 locs1 ha J => ?_)
  rw [← zl_lv.agree ha h0 h1 h2] at hl
  rw [show cells + (w1.1 - w.1) = cells by omega, show slots + (w1.2.1 - w.2.1) = slots by omega]
  refine lv_aload_n hx hb dL_law_509 rfl (lv_at hl 2 rfl) ?_
  refine zl_arg (k := 1) (kv := Int32.ofNat 1) F J hl rfl rfl dL_law_510 dL_law_511 dL_law_513 dL_law_514 dL_law_515 (by decide) (zl_in (by omega) hL) ?_
  rw [zl_ix (L := L) (by omega) hL]
  refine zl_callV (as := [.int (xs (n + 1))]) F (mj := 144) (by decide +kernel) (by decide +kernel) (by decide +kernel) (by decide +kernel) hE2 (Nat.le_of_ble_eq_true rfl) hc1 rfl rfl (by simp [za_k]) (by omega) (by omega) (Nat.le_of_ble_eq_true rfl) J hl.1 dL_law_516 (fun ad1 H1 locs1 ha J => ?_)
  rw [← zl_lv.agree ha (by omega) (by omega) (by omega)] at hl
  rw [show cells + (w2.1 - w1.1) = cells by omega, show slots + (w2.2.1 - w1.2.1) = slots by omega]
  exact lv_icmp_eq (tgt := 636) hx hb dL_law_519 rfl (fun _ => kk _ H1 locs1 w2 hK (e3.trans e1) (e4.trans e2) hl J) (fun h => absurd rfl h)
set_option maxHeartbeats 4000000 in
set_option maxRecDepth 100000 in
theorem zl_c13 (F : zl_F D cA p s m c b L xs) (hL : L ≤ 3073) (hn : n + 5 < L) (hcl : cells ≤ 601024) (hsl : slots ≤ 7293000) (J : zl_J D cA s.heap H locs ad w) (hl : lv_has ls 7 (zl_lv b nm no ad (Int32.ofNat n))) (h0 : 0 < w.1) (h1 : nm < w.1) (h2 : no < w.1) (h : zl_H 121 146 [.int (xs (n + 1))] nm w K)
    (kk : ∀ (ad1 : Nat → Nat) (H1 : Heap) (locs1 : List Loc) (w2 : za_W), K w2 → w2.1 = w.1 → w2.2.1 = w.2.1 → lv_has ls 7 (zl_lv b nm no ad1 (Int32.ofNat n)) → zl_J D cA s.heap H1 locs1 ad1 w2 → W p l e room_1 s m #[Value.ref b] below meth c H1 locs1 cells slots Q (F0 m 636 ls [])) :
    W p l e room_1 s m #[Value.ref b] below meth c H locs cells slots Q (F0 m 524 ls []) := by
  have hx := F.1
  have hb := F.2.1
  refine lv_aload_n hx hb dL_law_524 rfl (lv_at hl 1 rfl) ?_
  refine zl_arg (k := 1) (kv := Int32.ofNat 1) F J hl rfl rfl dL_law_525 dL_law_526 dL_law_528 dL_law_529 dL_law_530 (by decide) (zl_in (by omega) hL) ?_
  rw [zl_ix (L := L) (by omega) hL]
  obtain ⟨⟨fs0, hc0⟩, v, w1, hE1, e1, e2, ⟨fs1, hc1⟩, w2, hE2, e3, e4, hK⟩ := h
  refine zl_callV (as := [.int (xs (n + 1))]) F (mj := 121) (by decide +kernel) (by decide +kernel) (by decide +kernel) (by decide +kernel) hE1 (Nat.le_of_ble_eq_true rfl) hc0 rfl rfl (by simp [za_k]) (by omega) (by omega) (Nat.le_of_ble_eq_true rfl) J hl.1 dL_law_531 (fun ad1 H1 locs1 ha J => ?_)
  rw [← zl_lv.agree ha h0 h1 h2] at hl
  rw [show cells + (w1.1 - w.1) = cells by omega, show slots + (w1.2.1 - w.2.1) = slots by omega]
  refine lv_aload_n hx hb dL_law_534 rfl (lv_at hl 2 rfl) ?_
  refine zl_arg (k := 1) (kv := Int32.ofNat 1) F J hl rfl rfl dL_law_535 dL_law_536 dL_law_538 dL_law_539 dL_law_540 (by decide) (zl_in (by omega) hL) ?_
  rw [zl_ix (L := L) (by omega) hL]
  refine zl_callV (as := [.int (xs (n + 1))]) F (mj := 146) (by decide +kernel) (by decide +kernel) (by decide +kernel) (by decide +kernel) hE2 (Nat.le_of_ble_eq_true rfl) hc1 rfl rfl (by simp [za_k]) (by omega) (by omega) (Nat.le_of_ble_eq_true rfl) J hl.1 dL_law_541 (fun ad1 H1 locs1 ha J => ?_)
  rw [← zl_lv.agree ha (by omega) (by omega) (by omega)] at hl
  rw [show cells + (w2.1 - w1.1) = cells by omega, show slots + (w2.2.1 - w1.2.1) = slots by omega]
  exact lv_icmp_eq (tgt := 636) hx hb dL_law_544 rfl (fun _ => kk _ H1 locs1 w2 hK (e3.trans e1) (e4.trans e2) hl J) (fun h => absurd rfl h)
set_option maxHeartbeats 4000000 in
set_option maxRecDepth 100000 in
theorem zl_c14 (F : zl_F D cA p s m c b L xs) (hL : L ≤ 3073) (hn : n + 5 < L) (hcl : cells ≤ 601024) (hsl : slots ≤ 7293000) (J : zl_J D cA s.heap H locs ad w) (hl : lv_has ls 7 (zl_lv b nm no ad (Int32.ofNat n))) (h0 : 0 < w.1) (h1 : nm < w.1) (h2 : no < w.1) (h : zl_H 122 147 [.int (xs (n + 1)), .int (xs (n + 2))] nm w K)
    (kk : ∀ (ad1 : Nat → Nat) (H1 : Heap) (locs1 : List Loc) (w2 : za_W), K w2 → w2.1 = w.1 → w2.2.1 = w.2.1 → lv_has ls 7 (zl_lv b nm no ad1 (Int32.ofNat n)) → zl_J D cA s.heap H1 locs1 ad1 w2 → W p l e room_1 s m #[Value.ref b] below meth c H1 locs1 cells slots Q (F0 m 636 ls [])) :
    W p l e room_1 s m #[Value.ref b] below meth c H locs cells slots Q (F0 m 549 ls []) := by
  have hx := F.1
  have hb := F.2.1
  refine lv_aload_n hx hb dL_law_549 rfl (lv_at hl 1 rfl) ?_
  refine zl_arg (k := 1) (kv := Int32.ofNat 1) F J hl rfl rfl dL_law_550 dL_law_551 dL_law_553 dL_law_554 dL_law_555 (by decide) (zl_in (by omega) hL) ?_
  rw [zl_ix (L := L) (by omega) hL]
  refine zl_arg (k := 2) (kv := Int32.ofNat 2) F J hl rfl rfl dL_law_556 dL_law_557 dL_law_559 dL_law_560 dL_law_561 (by decide) (zl_in (by omega) hL) ?_
  rw [zl_ix (L := L) (by omega) hL]
  obtain ⟨⟨fs0, hc0⟩, v, w1, hE1, e1, e2, ⟨fs1, hc1⟩, w2, hE2, e3, e4, hK⟩ := h
  refine zl_callV (as := [.int (xs (n + 1)), .int (xs (n + 2))]) F (mj := 122) (by decide +kernel) (by decide +kernel) (by decide +kernel) (by decide +kernel) hE1 (Nat.le_of_ble_eq_true rfl) hc0 rfl rfl (by simp [za_k]) (by omega) (by omega) (Nat.le_of_ble_eq_true rfl) J hl.1 dL_law_562 (fun ad1 H1 locs1 ha J => ?_)
  rw [← zl_lv.agree ha h0 h1 h2] at hl
  rw [show cells + (w1.1 - w.1) = cells by omega, show slots + (w1.2.1 - w.2.1) = slots by omega]
  refine lv_aload_n hx hb dL_law_565 rfl (lv_at hl 2 rfl) ?_
  refine zl_arg (k := 1) (kv := Int32.ofNat 1) F J hl rfl rfl dL_law_566 dL_law_567 dL_law_569 dL_law_570 dL_law_571 (by decide) (zl_in (by omega) hL) ?_
  rw [zl_ix (L := L) (by omega) hL]
  refine zl_arg (k := 2) (kv := Int32.ofNat 2) F J hl rfl rfl dL_law_572 dL_law_573 dL_law_575 dL_law_576 dL_law_577 (by decide) (zl_in (by omega) hL) ?_
  rw [zl_ix (L := L) (by omega) hL]
  refine zl_callV (as := [.int (xs (n + 1)), .int (xs (n + 2))]) F (mj := 147) (by decide +kernel) (by decide +kernel) (by decide +kernel) (by decide +kernel) hE2 (Nat.le_of_ble_eq_true rfl) hc1 rfl rfl (by simp [za_k]) (by omega) (by omega) (Nat.le_of_ble_eq_true rfl) J hl.1 dL_law_578 (fun ad1 H1 locs1 ha J => ?_)
  rw [← zl_lv.agree ha (by omega) (by omega) (by omega)] at hl
  rw [show cells + (w2.1 - w1.1) = cells by omega, show slots + (w2.2.1 - w1.2.1) = slots by omega]
  exact lv_icmp_eq (tgt := 636) hx hb dL_law_581 rfl (fun _ => kk _ H1 locs1 w2 hK (e3.trans e1) (e4.trans e2) hl J) (fun h => absurd rfl h)
set_option maxHeartbeats 4000000 in
set_option maxRecDepth 100000 in
theorem zl_c15 (F : zl_F D cA p s m c b L xs) (hL : L ≤ 3073) (hn : n + 5 < L) (hcl : cells ≤ 601024) (hsl : slots ≤ 7293000) (J : zl_J D cA s.heap H locs ad w) (hl : lv_has ls 7 (zl_lv b nm no ad (Int32.ofNat n))) (h0 : 0 < w.1) (h1 : nm < w.1) (h2 : no < w.1) (h : zl_H 123 184 [.int (xs (n + 1))] nm w K)
    (kk : ∀ (ad1 : Nat → Nat) (H1 : Heap) (locs1 : List Loc) (w2 : za_W), K w2 → w2.1 = w.1 → w2.2.1 = w.2.1 → lv_has ls 7 (zl_lv b nm no ad1 (Int32.ofNat n)) → zl_J D cA s.heap H1 locs1 ad1 w2 → W p l e room_1 s m #[Value.ref b] below meth c H1 locs1 cells slots Q (F0 m 636 ls [])) :
    W p l e room_1 s m #[Value.ref b] below meth c H locs cells slots Q (F0 m 586 ls []) := by
  have hx := F.1
  have hb := F.2.1
  refine lv_aload_n hx hb dL_law_586 rfl (lv_at hl 1 rfl) ?_
  refine zl_arg (k := 1) (kv := Int32.ofNat 1) F J hl rfl rfl dL_law_587 dL_law_588 dL_law_590 dL_law_591 dL_law_592 (by decide) (zl_in (by omega) hL) ?_
  rw [zl_ix (L := L) (by omega) hL]
  obtain ⟨⟨fs0, hc0⟩, v, w1, hE1, e1, e2, ⟨fs1, hc1⟩, w2, hE2, e3, e4, hK⟩ := h
  refine zl_callV (as := [.int (xs (n + 1))]) F (mj := 123) (by decide +kernel) (by decide +kernel) (by decide +kernel) (by decide +kernel) hE1 (Nat.le_of_ble_eq_true rfl) hc0 rfl rfl (by simp [za_k]) (by omega) (by omega) (Nat.le_of_ble_eq_true rfl) J hl.1 dL_law_593 (fun ad1 H1 locs1 ha J => ?_)
  rw [← zl_lv.agree ha h0 h1 h2] at hl
  rw [show cells + (w1.1 - w.1) = cells by omega, show slots + (w1.2.1 - w.2.1) = slots by omega]
  refine lv_aload_n hx hb dL_law_596 rfl (lv_at hl 2 rfl) ?_
  refine zl_arg (k := 1) (kv := Int32.ofNat 1) F J hl rfl rfl dL_law_597 dL_law_598 dL_law_600 dL_law_601 dL_law_602 (by decide) (zl_in (by omega) hL) ?_
  rw [zl_ix (L := L) (by omega) hL]
  refine zl_callV (as := [.int (xs (n + 1))]) F (mj := 184) (by decide +kernel) (by decide +kernel) (by decide +kernel) (by decide +kernel) hE2 (Nat.le_of_ble_eq_true rfl) hc1 rfl rfl (by simp [za_k]) (by omega) (by omega) (Nat.le_of_ble_eq_true rfl) J hl.1 dL_law_603 (fun ad1 H1 locs1 ha J => ?_)
  rw [← zl_lv.agree ha (by omega) (by omega) (by omega)] at hl
  rw [show cells + (w2.1 - w1.1) = cells by omega, show slots + (w2.2.1 - w1.2.1) = slots by omega]
  exact lv_icmp_eq (tgt := 636) hx hb dL_law_606 rfl (fun _ => kk _ H1 locs1 w2 hK (e3.trans e1) (e4.trans e2) hl J) (fun h => absurd rfl h)
set_option maxHeartbeats 4000000 in
set_option maxRecDepth 100000 in
theorem zl_c16 (F : zl_F D cA p s m c b L xs) (hL : L ≤ 3073) (hn : n + 5 < L) (hcl : cells ≤ 601024) (hsl : slots ≤ 7293000) (J : zl_J D cA s.heap H locs ad w) (hl : lv_has ls 7 (zl_lv b nm no ad (Int32.ofNat n))) (h0 : 0 < w.1) (h1 : nm < w.1) (h2 : no < w.1) (h : zl_H 124 188 [.int (xs (n + 1))] nm w K)
    (kk : ∀ (ad1 : Nat → Nat) (H1 : Heap) (locs1 : List Loc) (w2 : za_W), K w2 → w2.1 = w.1 → w2.2.1 = w.2.1 → lv_has ls 7 (zl_lv b nm no ad1 (Int32.ofNat n)) → zl_J D cA s.heap H1 locs1 ad1 w2 → W p l e room_1 s m #[Value.ref b] below meth c H1 locs1 cells slots Q (F0 m 636 ls [])) :
    W p l e room_1 s m #[Value.ref b] below meth c H locs cells slots Q (F0 m 611 ls []) := by
  have hx := F.1
  have hb := F.2.1
  refine lv_aload_n hx hb dL_law_611 rfl (lv_at hl 1 rfl) ?_
  refine zl_arg (k := 1) (kv := Int32.ofNat 1) F J hl rfl rfl dL_law_612 dL_law_613 dL_law_615 dL_law_616 dL_law_617 (by decide) (zl_in (by omega) hL) ?_
  rw [zl_ix (L := L) (by omega) hL]
  obtain ⟨⟨fs0, hc0⟩, v, w1, hE1, e1, e2, ⟨fs1, hc1⟩, w2, hE2, e3, e4, hK⟩ := h
  refine zl_callV (as := [.int (xs (n + 1))]) F (mj := 124) (by decide +kernel) (by decide +kernel) (by decide +kernel) (by decide +kernel) hE1 (Nat.le_of_ble_eq_true rfl) hc0 rfl rfl (by simp [za_k]) (by omega) (by omega) (Nat.le_of_ble_eq_true rfl) J hl.1 dL_law_618 (fun ad1 H1 locs1 ha J => ?_)
  rw [← zl_lv.agree ha h0 h1 h2] at hl
  rw [show cells + (w1.1 - w.1) = cells by omega, show slots + (w1.2.1 - w.2.1) = slots by omega]
  refine lv_aload_n hx hb dL_law_621 rfl (lv_at hl 2 rfl) ?_
  refine zl_arg (k := 1) (kv := Int32.ofNat 1) F J hl rfl rfl dL_law_622 dL_law_623 dL_law_625 dL_law_626 dL_law_627 (by decide) (zl_in (by omega) hL) ?_
  rw [zl_ix (L := L) (by omega) hL]
  refine zl_callH (as := [.int (xs (n + 1))]) F (mj := 188) (by omega) zl_alone_l zl_alone_i zl_alone_s zl_alone_c zl_alone_n hE2 (Nat.le_of_ble_eq_true rfl) hc1 rfl rfl (by simp [za_k]) (by omega) (by omega) (Nat.le_of_ble_eq_true rfl) J hl.1 dL_law_628 (fun ad1 H1 locs1 ha J => ?_)
  rw [← zl_lv.agree ha (by omega) (by omega) (by omega)] at hl
  rw [show cells + (w2.1 - w1.1) = cells by omega, show slots + (w2.2.1 - w1.2.1) = slots by omega]
  exact lv_icmp_eq (tgt := 636) hx hb dL_law_631 rfl (fun _ => kk _ H1 locs1 w2 hK (e3.trans e1) (e4.trans e2) hl J) (fun h => absurd rfl h)
end ZLC
