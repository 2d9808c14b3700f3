/-! RuntimeException(null, null, false, false) on a new Broken, with what it calls: the cell comes out as it went in. -/
def zb_yT : MethodName := ⟨"java/lang/Throwable", "<init>", "(Ljava/lang/String;Ljava/lang/Throwable;ZZ)V"⟩
abbrev zb_cT : ByteArray := prog_23_method_5_code
set_option maxRecDepth 100000 in
theorem zb_wT : Cond.code zb_yT zb_cT 5 none ∈ za_tg := za_tg.of (p := 1073) rfl rfl
set_option maxRecDepth 100000 in
theorem zb_nT : Cond.instanceMethod zb_yT ∈ za_tg := za_tg.of (p := 1072) (by decide +kernel) rfl
set_option maxRecDepth 100000 in
theorem zb_iT : Cond.initialized "java/lang/Throwable" ∈ za_tg := za_tg.of (p := 95) (by decide +kernel) rfl
def zb_yE : MethodName := ⟨"java/lang/Exception", "<init>", "(Ljava/lang/String;Ljava/lang/Throwable;ZZ)V"⟩
abbrev zb_cE : ByteArray := prog_17_method_5_code
set_option maxRecDepth 100000 in
theorem zb_wE : Cond.code zb_yE zb_cE 5 none ∈ za_tg := za_tg.of (p := 1070) rfl rfl
set_option maxRecDepth 100000 in
theorem zb_nE : Cond.instanceMethod zb_yE ∈ za_tg := za_tg.of (p := 1069) (by decide +kernel) rfl
set_option maxRecDepth 100000 in
theorem zb_iE : Cond.initialized "java/lang/Exception" ∈ za_tg := za_tg.of (p := 96) (by decide +kernel) rfl
def zb_yR : MethodName := ⟨"java/lang/RuntimeException", "<init>", "(Ljava/lang/String;Ljava/lang/Throwable;ZZ)V"⟩
abbrev zb_cR : ByteArray := prog_20_method_5_code
set_option maxRecDepth 100000 in
theorem zb_wR : Cond.code zb_yR zb_cR 5 none ∈ za_tg := za_tg.of (p := 1067) rfl rfl
set_option maxRecDepth 100000 in
theorem zb_nR : Cond.instanceMethod zb_yR ∈ za_tg := za_tg.of (p := 1066) (by decide +kernel) rfl
set_option maxRecDepth 100000 in
theorem zb_iR : Cond.initialized "java/lang/RuntimeException" ∈ za_tg := za_tg.of (p := 97) (by decide +kernel) rfl
set_option maxRecDepth 100000 in
theorem zb_lB : Cond.methodLink "SortPacksModel$Broken" 1 zb_yR ∈ za_tg := za_tg.of (p := 1065) (by decide +kernel) rfl
set_option maxRecDepth 100000 in
theorem zb_lR : Cond.methodLink "java/lang/RuntimeException" 16 zb_yE ∈ za_tg := za_tg.of (p := 1068) (by decide +kernel) rfl
set_option maxRecDepth 100000 in
theorem zb_lE : Cond.methodLink "java/lang/Exception" 16 zb_yT ∈ za_tg := za_tg.of (p := 1071) (by decide +kernel) rfl
set_option maxRecDepth 100000 in
theorem zb_lT : Cond.methodLink "java/lang/Throwable" 1 objectInit ∈ za_tg := za_tg.of (p := 999) (by decide +kernel) rfl
set_option maxRecDepth 100000 in
theorem zb_f7 : Cond.fieldLink "java/lang/Throwable" 7 "java/lang/Throwable" "cause" "Ljava/lang/Throwable;" ∈ za_tg := za_tg.of (p := 1032) (by decide +kernel) rfl
set_option maxRecDepth 100000 in
theorem zb_f17 : Cond.fieldLink "java/lang/Throwable" 17 "java/lang/Throwable" "stackTrace" "[Ljava/lang/StackTraceElement;" ∈ za_tg := za_tg.of (p := 1033) (by decide +kernel) rfl
set_option maxRecDepth 100000 in
theorem zb_f24 : Cond.fieldLink "java/lang/Throwable" 24 "java/lang/Throwable" "suppressedExceptions" "Ljava/util/List;" ∈ za_tg := za_tg.of (p := 1034) (by decide +kernel) rfl
set_option maxRecDepth 100000 in
theorem zb_f31 : Cond.fieldLink "java/lang/Throwable" 31 "java/lang/Throwable" "detailMessage" "Ljava/lang/String;" ∈ za_tg := za_tg.of (p := 1031) (by decide +kernel) rfl
set_option maxRecDepth 100000 in
theorem zb_f13 : Cond.fieldLink "java/lang/Throwable" 13 "java/lang/Throwable" "UNASSIGNED_STACK" "[Ljava/lang/StackTraceElement;" ∈ za_tg := za_tg.of (p := 1000) (by decide +kernel) rfl
set_option maxRecDepth 100000 in
theorem zb_f20 : Cond.fieldLink "java/lang/Throwable" 20 "java/lang/Throwable" "SUPPRESSED_SENTINEL" "Ljava/util/List;" ∈ za_tg := za_tg.of (p := 1002) (by decide +kernel) rfl
theorem zb_dT_0 : decode zb_cT 0 = .ok (.aload_n 0, 1) := by decide +kernel
theorem zb_dT_1 : decode zb_cT 1 = .ok (.invokespecial 1, 3) := by decide +kernel
theorem zb_dT_4 : decode zb_cT 4 = .ok (.aload_n 0, 1) := by decide +kernel
theorem zb_dT_5 : decode zb_cT 5 = .ok (.aload_n 0, 1) := by decide +kernel
theorem zb_dT_6 : decode zb_cT 6 = .ok (.putfield 7, 3) := by decide +kernel
theorem zb_dT_9 : decode zb_cT 9 = .ok (.aload_n 0, 1) := by decide +kernel
theorem zb_dT_10 : decode zb_cT 10 = .ok (.getstatic 13, 3) := by decide +kernel
theorem zb_dT_13 : decode zb_cT 13 = .ok (.putfield 17, 3) := by decide +kernel
theorem zb_dT_16 : decode zb_cT 16 = .ok (.aload_n 0, 1) := by decide +kernel
theorem zb_dT_17 : decode zb_cT 17 = .ok (.getstatic 20, 3) := by decide +kernel
theorem zb_dT_20 : decode zb_cT 20 = .ok (.putfield 24, 3) := by decide +kernel
theorem zb_dT_23 : decode zb_cT 23 = .ok (.iload 4, 2) := by decide +kernel
theorem zb_dT_25 : decode zb_cT 25 = .ok (.ifCond .eq 11, 3) := by decide +kernel
theorem zb_dT_36 : decode zb_cT 36 = .ok (.aload_n 0, 1) := by decide +kernel
theorem zb_dT_37 : decode zb_cT 37 = .ok (.aconst_null, 1) := by decide +kernel
theorem zb_dT_38 : decode zb_cT 38 = .ok (.putfield 17, 3) := by decide +kernel
theorem zb_dT_41 : decode zb_cT 41 = .ok (.aload_n 0, 1) := by decide +kernel
theorem zb_dT_42 : decode zb_cT 42 = .ok (.aload_n 1, 1) := by decide +kernel
theorem zb_dT_43 : decode zb_cT 43 = .ok (.putfield 31, 3) := by decide +kernel
theorem zb_dT_46 : decode zb_cT 46 = .ok (.aload_n 0, 1) := by decide +kernel
theorem zb_dT_47 : decode zb_cT 47 = .ok (.aload_n 2, 1) := by decide +kernel
theorem zb_dT_48 : decode zb_cT 48 = .ok (.putfield 7, 3) := by decide +kernel
theorem zb_dT_51 : decode zb_cT 51 = .ok (.iload_n 3, 1) := by decide +kernel
theorem zb_dT_52 : decode zb_cT 52 = .ok (.ifCond .ne 8, 3) := by decide +kernel
theorem zb_dT_55 : decode zb_cT 55 = .ok (.aload_n 0, 1) := by decide +kernel
theorem zb_dT_56 : decode zb_cT 56 = .ok (.aconst_null, 1) := by decide +kernel
theorem zb_dT_57 : decode zb_cT 57 = .ok (.putfield 24, 3) := by decide +kernel
theorem zb_dT_60 : decode zb_cT 60 = .ok (.return_, 1) := by decide +kernel
theorem zb_dE_0 : decode zb_cE 0 = .ok (.aload_n 0, 1) := by decide +kernel
theorem zb_dE_1 : decode zb_cE 1 = .ok (.aload_n 1, 1) := by decide +kernel
theorem zb_dE_2 : decode zb_cE 2 = .ok (.aload_n 2, 1) := by decide +kernel
theorem zb_dE_3 : decode zb_cE 3 = .ok (.iload_n 3, 1) := by decide +kernel
theorem zb_dE_4 : decode zb_cE 4 = .ok (.iload 4, 2) := by decide +kernel
theorem zb_dE_6 : decode zb_cE 6 = .ok (.invokespecial 16, 3) := by decide +kernel
theorem zb_dE_9 : decode zb_cE 9 = .ok (.return_, 1) := by decide +kernel
theorem zb_dR_0 : decode zb_cR 0 = .ok (.aload_n 0, 1) := by decide +kernel
theorem zb_dR_1 : decode zb_cR 1 = .ok (.aload_n 1, 1) := by decide +kernel
theorem zb_dR_2 : decode zb_cR 2 = .ok (.aload_n 2, 1) := by decide +kernel
theorem zb_dR_3 : decode zb_cR 3 = .ok (.iload_n 3, 1) := by decide +kernel
theorem zb_dR_4 : decode zb_cR 4 = .ok (.iload 4, 2) := by decide +kernel
theorem zb_dR_6 : decode zb_cR 6 = .ok (.invokespecial 16, 3) := by decide +kernel
theorem zb_dR_9 : decode zb_cR 9 = .ok (.return_, 1) := by decide +kernel
def zb_f : List Value := [.null, .null, .null, .null, .null, .int 0, .int 0]
/-- the two statics that Throwable reads hold references, outside A -/
def zb_Z (A : Nat → Prop) (U : State) : Prop := va_Zq "java/lang/Throwable" "UNASSIGNED_STACK" "[Ljava/lang/StackTraceElement;" A U U.heap ∧ va_Zq "java/lang/Throwable" "SUPPRESSED_SENTINEL" "Ljava/util/List;" A U U.heap
def zb_o (h0 : Nat) : va_W := [(h0, .inr (13, zb_f))]
def zb_P (D : va_G) (h0 sz : Nat) : Array Value → State → Prop := va_Pc [.ref h0, .null, .null, .int 0, .int 0] (fun U => U.heap.size = sz ∧ va_P D vwCl (zb_o h0) U.heap ∧ va_K D vwCl [] U ∧ va_D (fun _ => True) (zb_o h0) ∧ zb_Z (va_A (zb_o h0) sz) U)
def zb_Q (D : va_G) (h0 sz : Nat) : Array Value → State → Outcome → State → Prop := va_Qv (fun _ : Unit => True) (fun _ t => va_P D vwCl (zb_o h0) t.heap) (va_A (zb_o h0) sz)
theorem zb_Z.calling {A : Nat → Prop} {U V : State} (hv : U.vm = V.vm) (hh : U.heap = V.heap) (h : zb_Z A U) : zb_Z A V := by
  have ha : U.vm.Alike V.vm := by rw [hv]; exact Vm.Alike.refl _
  exact ⟨by rw [← hh]; exact va_Zq.moved ha h.1, by rw [← hh]; exact va_Zq.moved ha h.2⟩
theorem zb_Z.go {A A1 : Nat → Prop} {s U : State} {H : Heap} {locs : List Loc} (h : zb_Z A s) (hS : va_S A s.heap H locs) (hA : ∀ q, A1 q → A q) (hU : U.heap = H) (hW : s.WarmedH U.vm) : zb_Z A1 U := by
  refine ⟨?_, ?_⟩
  · rw [hU]; exact va_Zq.moved hW.alike (va_Zq.narrow (va_Zq.kept h.1 hS.2.1) hA)
  · rw [hU]; exact va_Zq.moved hW.alike (va_Zq.narrow (va_Zq.kept h.2 hS.2.1) hA)
theorem zb_Zv {C n d : String} {A : Nat → Prop} {s : State} {H : Heap} (h : va_Zq C n d A s H) : ∃ v : Value, (v = .null ∨ ∃ t, v = .ref t) ∧ va_Z C n d v A s H := by
  rcases h with h | ⟨t, h⟩
  · exact ⟨_, Or.inl rfl, h⟩
  · exact ⟨_, Or.inr ⟨t, rfl⟩, h⟩
set_option maxHeartbeats 4000000 in
set_option maxRecDepth 100000 in
theorem zb_T (l : Launch) (D : va_G) (h0 sz : Nat) : Met l zb_yT (Cond.code zb_yT zb_cT 5 none :: za_tg) { frames := 1, cells := 0, slots := 0, locals := 13 } (zb_P D h0 sz) (zb_Q D h0 sz) 0 0 (va_A (zb_o h0) sz) := by
  refine Met.ofW (cc := zb_cT) (maxL := 5) (ret := none) (by decide) rfl ?_
  intro p e s m args below meth c s₁ B hml hv
  obtain ⟨rfl, hsz, hP, hK, hD0, hZ⟩ := hv
  have hx := B.exec
  have hb := B.bytes
  have hr := B.returns
  have hts0 := atoms_spec (ws := Cond.code zb_yT zb_cT 5 none :: za_tg) B.pre
  have hts : ∀ w ∈ za_tg, w.before _ s = true := fun w hw => hts0 w (List.mem_cons_of_mem _ hw)
  have hown : s.vm.findClass "java/lang/Throwable" = some m.cls := findClass_of_methodNamed B.named
  subst hsz
  have hD := hD0.self (sz := s.heap.size)
  generalize hAe : va_A (zb_o h0) s.heap.size = A at hD hZ ⊢
  have hS : va_S A s.heap s.heap [] := va_S.rf
  have hl := lv_entry ([.ref h0, .null, .null, .int 0, .int 0]) (n := 5) (Nat.le_of_ble_eq_true rfl)
  rw [lg_entry_eq]
  generalize (lg_sl ([.ref h0, .null, .null, .int 0, .int 0]) ++ List.replicate (5 - (lg_sl ([.ref h0, .null, .null, .int 0, .int 0])).length) Slot.unset).toArray = ls at hl ⊢
  have hl : lv_has ls 5 [(0, .ref h0), (1, .null), (2, .null), (3, .int 0), (4, .int 0)] := hl
  obtain ⟨v1, hv1, hZ1⟩ := zb_Zv hZ.1
  obtain ⟨v2, hv2, hZ2⟩ := zb_Zv hZ.2
  have q1 : narrow (.array (.object "java/lang/StackTraceElement")) v1 = v1 ∧ fits (.array (.object "java/lang/StackTraceElement")) v1 = true := by rcases hv1 with rfl | ⟨t, rfl⟩ <;> exact ⟨rfl, rfl⟩
  have q2 : narrow (.object "java/util/List") v2 = v2 ∧ fits (.object "java/util/List") v2 = true := by rcases hv2 with rfl | ⟨t, rfl⟩ <;> exact ⟨rfl, rfl⟩
  refine lv_aload_n hx hb zb_dT_0 rfl (lv_at hl 0 rfl) ?_
  refine W.objInit hx hb hown (hts _ zb_lT) (hts _ zw_oi) (hts _ zw_oc) rfl (by rw [hml]; exact hl.1) rfl zb_dT_1 (Nat.le_of_ble_eq_true rfl) (Nat.le_of_ble_eq_true rfl) ?_
  refine W.eq (g2 := F0 m 4 ls []) rfl ?_
  refine lv_aload_n hx hb zb_dT_4 rfl (lv_at hl 0 rfl) ?_
  refine lv_aload_n hx hb zb_dT_5 rfl (lv_at hl 0 rfl) ?_
  refine va_put (D := D) (ci := 13) (v := .ref h0) (ty := .object "java/lang/Throwable") (C := RX12) (T := TX12) (N := 7) (ref := "java/lang/Throwable") hx hb hts (zt_us (ci := 13) rfl) (za_ft 13) (fun k hk => (zt_tys (ci := 13) rfl k hk).1) (zt_nms (ci := 13) rfl) hown hK hP hD hS 0 rfl rfl 0 (by decide) (hts _ zb_f7) (fun _ h => h) rfl (by decide +kernel) (rfl) (rfl) (by (try simp only [List.length_set]); decide) zb_dT_6 (fun H locs hP hD hS => ?_)
  refine lv_aload_n hx hb zb_dT_9 rfl (lv_at hl 0 rfl) ?_
  refine va_gets (own := "java/lang/Throwable") (ref := "java/lang/Throwable") hx hb hZ1 hS hown (hts _ zb_f13) (fun _ h => h) zb_dT_10 ?_
  refine va_put (D := D) (ci := 13) (v := v1) (ty := .array (.object "java/lang/StackTraceElement")) (C := RX12) (T := TX12) (N := 7) (ref := "java/lang/Throwable") hx hb hts (zt_us (ci := 13) rfl) (za_ft 13) (fun k hk => (zt_tys (ci := 13) rfl k hk).1) (zt_nms (ci := 13) rfl) hown hK hP hD hS 0 rfl rfl 1 (by decide) (hts _ zb_f17) (fun _ h => h) rfl (by decide +kernel) (q1.1) (q1.2) (by (try simp only [List.length_set]); decide) zb_dT_13 (fun H locs hP hD hS => ?_)
  refine lv_aload_n hx hb zb_dT_16 rfl (lv_at hl 0 rfl) ?_
  refine va_gets (own := "java/lang/Throwable") (ref := "java/lang/Throwable") hx hb hZ2 hS hown (hts _ zb_f20) (fun _ h => h) zb_dT_17 ?_
  refine va_put (D := D) (ci := 13) (v := v2) (ty := .object "java/util/List") (C := RX12) (T := TX12) (N := 7) (ref := "java/lang/Throwable") hx hb hts (zt_us (ci := 13) rfl) (za_ft 13) (fun k hk => (zt_tys (ci := 13) rfl k hk).1) (zt_nms (ci := 13) rfl) hown hK hP hD hS 0 rfl rfl 2 (by decide) (hts _ zb_f24) (fun _ h => h) rfl (by decide +kernel) (q2.1) (q2.2) (by (try simp only [List.length_set]); decide) zb_dT_20 (fun H locs hP hD hS => ?_)
  refine lv_iload hx hb zb_dT_23 (lv_at hl 4 rfl) ?_
  refine lv_if_eq (tgt := 36) hx hb zb_dT_25 rfl (fun _ => ?_) (fun h => absurd rfl h)
  refine lv_aload_n hx hb zb_dT_36 rfl (lv_at hl 0 rfl) ?_
  refine lv_null hx hb zb_dT_37 ?_
  refine va_put (D := D) (ci := 13) (v := .null) (ty := .array (.object "java/lang/StackTraceElement")) (C := RX12) (T := TX12) (N := 7) (ref := "java/lang/Throwable") hx hb hts (zt_us (ci := 13) rfl) (za_ft 13) (fun k hk => (zt_tys (ci := 13) rfl k hk).1) (zt_nms (ci := 13) rfl) hown hK hP hD hS 0 rfl rfl 1 (by decide) (hts _ zb_f17) (fun _ h => h) rfl (by decide +kernel) (rfl) (rfl) (by (try simp only [List.length_set]); decide) zb_dT_38 (fun H locs hP hD hS => ?_)
  refine lv_aload_n hx hb zb_dT_41 rfl (lv_at hl 0 rfl) ?_
  refine lv_aload_nN hx hb zb_dT_42 rfl (lv_at hl 1 rfl) ?_
  refine va_put (D := D) (ci := 13) (v := .null) (ty := .object "java/lang/String") (C := RX12) (T := TX12) (N := 7) (ref := "java/lang/Throwable") hx hb hts (zt_us (ci := 13) rfl) (za_ft 13) (fun k hk => (zt_tys (ci := 13) rfl k hk).1) (zt_nms (ci := 13) rfl) hown hK hP hD hS 0 rfl rfl 3 (by decide) (hts _ zb_f31) (fun _ h => h) rfl (by decide +kernel) (rfl) (rfl) (by (try simp only [List.length_set]); decide) zb_dT_43 (fun H locs hP hD hS => ?_)
  refine lv_aload_n hx hb zb_dT_46 rfl (lv_at hl 0 rfl) ?_
  refine lv_aload_nN hx hb zb_dT_47 rfl (lv_at hl 2 rfl) ?_
  refine va_put (D := D) (ci := 13) (v := .null) (ty := .object "java/lang/Throwable") (C := RX12) (T := TX12) (N := 7) (ref := "java/lang/Throwable") hx hb hts (zt_us (ci := 13) rfl) (za_ft 13) (fun k hk => (zt_tys (ci := 13) rfl k hk).1) (zt_nms (ci := 13) rfl) hown hK hP hD hS 0 rfl rfl 0 (by decide) (hts _ zb_f7) (fun _ h => h) rfl (by decide +kernel) (rfl) (rfl) (by (try simp only [List.length_set]); decide) zb_dT_48 (fun H locs hP hD hS => ?_)
  refine lv_iload_n hx hb zb_dT_51 rfl (lv_at hl 3 rfl) ?_
  refine lv_if_ne (tgt := 60) hx hb zb_dT_52 rfl (fun h => absurd rfl h) (fun _ => ?_)
  refine lv_aload_n hx hb zb_dT_55 rfl (lv_at hl 0 rfl) ?_
  refine lv_null hx hb zb_dT_56 ?_
  refine va_put (D := D) (ci := 13) (v := .null) (ty := .object "java/util/List") (C := RX12) (T := TX12) (N := 7) (ref := "java/lang/Throwable") hx hb hts (zt_us (ci := 13) rfl) (za_ft 13) (fun k hk => (zt_tys (ci := 13) rfl k hk).1) (zt_nms (ci := 13) rfl) hown hK hP hD hS 0 rfl rfl 2 (by decide) (hts _ zb_f24) (fun _ h => h) rfl (by decide +kernel) (rfl) (rfl) (by (try simp only [List.length_set]); decide) zb_dT_57 (fun H locs hP hD hS => ?_)
  exact W.vret hx hb hr (fun t ht hW => ⟨⟨(), rfl, trivial, by show va_P D vwCl (zb_o h0) t.heap; rw [ht]; exact hP⟩, by rw [hAe]; exact hS.F ht⟩) hS.2.2 zb_dT_60
theorem za_tg.gi0 {w : Cond} (h : w ∈ za_tg) : GoodIn za_tg (w :: za_tg) := fun u hu => by
  have h1 : u ∈ za_tg := (List.mem_cons.mp hu).elim (fun e => by rw [e]; exact h) (fun h => h)
  exact ⟨h1, good_of_word (List.mem_filter.mp h1).2⟩
set_option maxHeartbeats 4000000 in
set_option maxRecDepth 100000 in
theorem zb_E (l : Launch) (D : va_G) (h0 sz : Nat) : Met l zb_yE (Cond.code zb_yE zb_cE 5 none :: za_tg) { frames := 2, cells := 0, slots := 0, locals := 37 } (zb_P D h0 sz) (zb_Q D h0 sz) 0 0 (va_A (zb_o h0) sz) := by
  refine Met.ofW (cc := zb_cE) (maxL := 5) (ret := none) (by decide) rfl ?_
  intro p e s m args below meth c s₁ B hml hv
  obtain ⟨rfl, hsz, hP, hK, hD0, hZ⟩ := hv
  have hx := B.exec
  have hb := B.bytes
  have hr := B.returns
  have hts0 := atoms_spec (ws := Cond.code zb_yE zb_cE 5 none :: za_tg) B.pre
  have hts : ∀ w ∈ za_tg, w.before _ s = true := fun w hw => hts0 w (List.mem_cons_of_mem _ hw)
  have hown : s.vm.findClass "java/lang/Exception" = some m.cls := findClass_of_methodNamed B.named
  subst hsz
  have hD := hD0.self (sz := s.heap.size)
  generalize hAe : va_A (zb_o h0) s.heap.size = A at hD hZ ⊢
  have hS : va_S A s.heap s.heap [] := va_S.rf
  have hl := lv_entry ([.ref h0, .null, .null, .int 0, .int 0]) (n := 5) (Nat.le_of_ble_eq_true rfl)
  rw [lg_entry_eq]
  generalize (lg_sl ([.ref h0, .null, .null, .int 0, .int 0]) ++ List.replicate (5 - (lg_sl ([.ref h0, .null, .null, .int 0, .int 0])).length) Slot.unset).toArray = ls at hl ⊢
  have hl : lv_has ls 5 [(0, .ref h0), (1, .null), (2, .null), (3, .int 0), (4, .int 0)] := hl
  have hA : ∀ q, va_A (zb_o h0) s.heap.size q → A q := fun q h => by rw [← hAe]; exact h
  refine lv_aload_n hx hb zb_dE_0 rfl (lv_at hl 0 rfl) ?_
  refine lv_aload_nN hx hb zb_dE_1 rfl (lv_at hl 1 rfl) ?_
  refine lv_aload_nN hx hb zb_dE_2 rfl (lv_at hl 2 rfl) ?_
  refine lv_iload_n hx hb zb_dE_3 rfl (lv_at hl 3 rfl) ?_
  refine lv_iload hx hb zb_dE_4 (lv_at hl 4 rfl) ?_
  have cb : CallB _ s _ "java/lang/Exception" 16 zb_yT zb_cT 5 none (Cond.code zb_yT zb_cT 5 none :: za_tg) { frames := 1, cells := 0, slots := 0, locals := 13 } 0 0 4 := callB_of (R := (headSpec (Cond.code zb_yE zb_cE 5 none :: za_tg) { frames := 2, cells := 0, slots := 0, locals := 37 }).room) (ws' := za_tg) 4 hts (za_tg.gi0 zb_wT) rfl rfl rfl (hts _ zb_iT) (hts _ zb_lE) (by decide +kernel) ⟨by decide, by decide⟩
  refine va_callv (va_runI (b := h0) (As := [.null, .null, .int 0, .int 0]) (rest := []) ⟨hx, hb, hml, hown, hts⟩ (zb_T l D h0 s.heap.size) ⟨cb, rfl, hts _ zb_nT⟩ ⟨fun a U g mk h => ?_, fun U hU hW => ⟨rfl, by rw [hU], by rw [hU]; exact hP, va_K.moved hW.alike hK, hD.weaken (fun _ _ _ _ => trivial), zb_Z.go hZ hS hA hU hW⟩⟩ rfl rfl (by exact hl.1) rfl (lv_room (Nat.le_of_ble_eq_true rfl)) zb_dE_6 ⟨Nat.le_refl _, Nat.le_refl _⟩) hS (fun q _ h => hA q h) hA (fun u t H1 locs1 e1 e2 e3 e4 k1 k2 k3 => ?_)
  · obtain ⟨h1, h2, h3, h4, h5, h6⟩ := h
    exact ⟨h1, h2, h3, va_K.moved (u := U) (U := U.calling g mk a) (Vm.Alike.refl U.vm) h4, h5, zb_Z.calling (U := U) (V := U.calling g mk a) rfl rfl h6⟩
  · refine W.eq (g2 := F0 m 9 ls []) rfl ?_
    exact W.vret hx hb hr (fun t' ht hW => ⟨⟨(), rfl, trivial, by show va_P D vwCl (zb_o h0) t'.heap; rw [ht, ← e1]; exact e4⟩, by rw [hAe]; exact k3.F ht⟩) k3.2.2 zb_dE_9
set_option maxHeartbeats 4000000 in
set_option maxRecDepth 100000 in
theorem zb_R (l : Launch) (D : va_G) (h0 sz : Nat) : Met l zb_yR (Cond.code zb_yR zb_cR 5 none :: za_tg) { frames := 3, cells := 0, slots := 0, locals := 61 } (zb_P D h0 sz) (zb_Q D h0 sz) 0 0 (va_A (zb_o h0) sz) := by
  refine Met.ofW (cc := zb_cR) (maxL := 5) (ret := none) (by decide) rfl ?_
  intro p e s m args below meth c s₁ B hml hv
  obtain ⟨rfl, hsz, hP, hK, hD0, hZ⟩ := hv
  have hx := B.exec
  have hb := B.bytes
  have hr := B.returns
  have hts0 := atoms_spec (ws := Cond.code zb_yR zb_cR 5 none :: za_tg) B.pre
  have hts : ∀ w ∈ za_tg, w.before _ s = true := fun w hw => hts0 w (List.mem_cons_of_mem _ hw)
  have hown : s.vm.findClass "java/lang/RuntimeException" = some m.cls := findClass_of_methodNamed B.named
  subst hsz
  have hD := hD0.self (sz := s.heap.size)
  generalize hAe : va_A (zb_o h0) s.heap.size = A at hD hZ ⊢
  have hS : va_S A s.heap s.heap [] := va_S.rf
  have hl := lv_entry ([.ref h0, .null, .null, .int 0, .int 0]) (n := 5) (Nat.le_of_ble_eq_true rfl)
  rw [lg_entry_eq]
  generalize (lg_sl ([.ref h0, .null, .null, .int 0, .int 0]) ++ List.replicate (5 - (lg_sl ([.ref h0, .null, .null, .int 0, .int 0])).length) Slot.unset).toArray = ls at hl ⊢
  have hl : lv_has ls 5 [(0, .ref h0), (1, .null), (2, .null), (3, .int 0), (4, .int 0)] := hl
  have hA : ∀ q, va_A (zb_o h0) s.heap.size q → A q := fun q h => by rw [← hAe]; exact h
  refine lv_aload_n hx hb zb_dR_0 rfl (lv_at hl 0 rfl) ?_
  refine lv_aload_nN hx hb zb_dR_1 rfl (lv_at hl 1 rfl) ?_
  refine lv_aload_nN hx hb zb_dR_2 rfl (lv_at hl 2 rfl) ?_
  refine lv_iload_n hx hb zb_dR_3 rfl (lv_at hl 3 rfl) ?_
  refine lv_iload hx hb zb_dR_4 (lv_at hl 4 rfl) ?_
  have cb : CallB _ s _ "java/lang/RuntimeException" 16 zb_yE zb_cE 5 none (Cond.code zb_yE zb_cE 5 none :: za_tg) { frames := 2, cells := 0, slots := 0, locals := 37 } 0 0 4 := callB_of (R := (headSpec (Cond.code zb_yR zb_cR 5 none :: za_tg) { frames := 3, cells := 0, slots := 0, locals := 61 }).room) (ws' := za_tg) 4 hts (za_tg.gi0 zb_wE) rfl rfl rfl (hts _ zb_iE) (hts _ zb_lR) (by decide +kernel) ⟨by decide, by decide⟩
  refine va_callv (va_runI (b := h0) (As := [.null, .null, .int 0, .int 0]) (rest := []) ⟨hx, hb, hml, hown, hts⟩ (zb_E l D h0 s.heap.size) ⟨cb, rfl, hts _ zb_nE⟩ ⟨fun a U g mk h => ?_, fun U hU hW => ⟨rfl, by rw [hU], by rw [hU]; exact hP, va_K.moved hW.alike hK, hD.weaken (fun _ _ _ _ => trivial), zb_Z.go hZ hS hA hU hW⟩⟩ rfl rfl (by exact hl.1) rfl (lv_room (Nat.le_of_ble_eq_true rfl)) zb_dR_6 ⟨Nat.le_refl _, Nat.le_refl _⟩) hS (fun q _ h => hA q h) hA (fun u t H1 locs1 e1 e2 e3 e4 k1 k2 k3 => ?_)
  · obtain ⟨h1, h2, h3, h4, h5, h6⟩ := h
    exact ⟨h1, h2, h3, va_K.moved (u := U) (U := U.calling g mk a) (Vm.Alike.refl U.vm) h4, h5, zb_Z.calling (U := U) (V := U.calling g mk a) rfl rfl h6⟩
  · refine W.eq (g2 := F0 m 9 ls []) rfl ?_
    exact W.vret hx hb hr (fun t' ht hW => ⟨⟨(), rfl, trivial, by show va_P D vwCl (zb_o h0) t'.heap; rw [ht, ← e1]; exact e4⟩, by rw [hAe]; exact k3.F ht⟩) k3.2.2 zb_dR_9
