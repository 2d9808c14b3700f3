/-! FROM THE ABSTRACT MACHINE TO THE MACHINE, 8: open and alone, which take a throw themselves. -/
def za_wh (me : Nat) : List Cond := Cond.codeWith (za_y me) (za_cc me) (za_mx me) (za_re me) (za_xt me) :: za_tg
def za_MtH (L : Launch) (mi : Nat) (as : List Value) (w : za_W) (o : za_O) (w' : za_W) (D : va_G) (cA : Nat → ClassId) (ad : Nat → Nat) (sz : Nat) : Prop :=
  MetFree L (za_y mi) (headSpec (za_wh mi) (za_room mi w w')) (za_Pre D cA ad as w sz) (fun _ _ _ _ _ => True) (fun a st oc t => za_Q D cA (va_A (za_l ad cA w) sz) ad w o w' a st oc t ∧ ∃ Lc, za_FE st t Lc (w'.1 - w.1) (w'.2.1 - w.2.1) ∧ ∀ q ∈ Lc, va_A (za_l ad cA w) sz q.base)
theorem zt_h_of {me : Nat} (h : me = 187 ∨ me = 188) : za_rn (za_ow me) = (za_y me).cls ∧ (za_im me = true → (za_y me).name = "<init>") ∧ plainName (za_y me).cls = true := by
  rcases h with rfl | rfl
  · exact ⟨by decide +kernel, by decide +kernel, by decide +kernel⟩
  · exact ⟨by decide +kernel, by decide +kernel, by decide +kernel⟩
set_option maxHeartbeats 4000000 in
/-- the same of open and alone, which take a throw themselves: a run that ends in an answer is the method's contract, if the arguments have room among its locals -/
theorem za_closeH {L : Launch} {me : Nat} {as : List Value} {w wz : za_W} {v : za_O} (hm : me = 187 ∨ me = 188) (haw : za_aw as ≤ za_mx me) (hB : za_B (za_M L) me v wz (0, lv_args 0 as, [], w)) : w.1 ≤ wz.1 ∧ w.2.1 ≤ wz.2.1 ∧ (za_kw w → (∀ x ∈ as, za_k w.1 x) → ∀ (D : va_G) (cA : Nat → ClassId) (ad : Nat → Nat) (sz : Nat),
    za_MtH L me as w v wz D cA ad sz) := by
  have key := za_key hB
  refine ⟨key.1.1, key.1.2, fun kw ka D cA ad sz => ?_⟩
  obtain ⟨k2, k3, k4⟩ := zt_h_of hm
  refine MetFree.of_bodyS (code := za_cc me) (maxLocals := za_mx me) (ret := za_re me) k4 ?_ ?_
  · intro args s m h hn
    obtain ⟨m9, meth, c, hn9, h1, h2, h3, h4, -, h5, h6, -⟩ := Cond.codeWith_spec (atoms_spec (ws := za_wh me) h _ List.mem_cons_self)
    cases hn.symm.trans hn9
    exact ⟨meth, c, h1, h2, h3, h4, h5, h6⟩
  intro p e s m args below meth c s₁ B hml hv _
  have hh0 : s₁.heap = s.heap := by rw [B.state]; rfl
  suffices hW : W p L e (headSpec (za_wh me) (za_room me w wz)).room s m args below meth c s.heap [] 0 0 (za_MQ below (za_Q D cA (va_A (za_l ad cA w) sz) ad w v wz) args s (wz.1 - w.1) (wz.2.1 - w.2.1) (va_A (za_l ad cA w) sz)) (entryFrame m args (za_mx me)) by
    obtain ⟨t, a1, o, b1, b2, b3⟩ := hW s₁ hh0 (Stand.of_body B)
    exact ⟨t, o, a1, b1, b2, ⟨b3.1, b3.2⟩⟩
  have hex : c.exceptionTable.toList.map (fun h => (h.startPc, h.endPc, h.handlerPc, h.catchType)) = za_xt me := by
    obtain ⟨m9, meth', c', hn9, hm', hc', -, -, ht', -, -, -⟩ := Cond.codeWith_spec (atoms_spec (ws := za_wh me) B.pre _ List.mem_cons_self)
    cases B.named.symm.trans hn9
    cases B.method.symm.trans hm'
    cases (Stand.of_body B).code.symm.trans hc'
    exact ht'
  obtain ⟨rfl, hsz, hP, hK, hD0, hnw, hZ⟩ := hv
  have hts := atoms_spec (ws := za_wh me) B.pre
  have hown : s.vm.findClass (za_y me).cls = some m.cls := findClass_of_methodNamed B.named
  have him := (name_of_methodNamed B.named B.method).1
  subst hsz
  have hD := hD0.self (sz := s.heap.size)
  have hl := lv_entry (as.map (za_v ad)) (n := za_mx me) (by rw [za_aw.len]; exact haw)
  rw [lg_entry_eq]
  generalize (lg_sl (as.map (za_v ad)) ++ List.replicate (za_mx me - (lg_sl (as.map (za_v ad))).length) Slot.unset).toArray = ls at hl ⊢
  rw [za_lva] at hl
  have F : za_F me D cA p (za_room me w wz) s m (as.map (za_v ad)).toArray meth c w wz (va_A (za_l ad cA w) s.heap.size) := ⟨B.exec, B.bytes, hml, by rw [k2]; exact hown, fun u hu => hts u (List.mem_cons_of_mem _ hu), B.returns, B.notSynchronized, hK, hnw, hex, fun h => him.trans (k3 h), rfl, rfl, rfl, rfl, hZ⟩
  have hz := key.2 p e (za_room me w wz) s m (as.map (za_v ad)).toArray below meth c D cA (va_A (za_l ad cA w) s.heap.size) ad w F
  exact hz.2 ad s.heap [] ls 0 0 ⟨hP, hD, va_S.rf, fun q h => Or.inr h, kw, za_lvk 0 as ka, (fun _ h => by cases h), hl⟩ (fun _ _ => rfl) (Nat.zero_add _) (Nat.zero_add _)
/-- a run of open or alone is its contract -/
theorem za_E.metH {L : Launch} {me : Nat} {as : List Value} {w w' : za_W} {v : za_O} (hm : me = 187 ∨ me = 188) (haw : za_aw as ≤ za_mx me) (h : za_E me as w v w') : w.1 ≤ w'.1 ∧ w.2.1 ≤ w'.2.1 ∧ (za_kw w → (∀ x ∈ as, za_k w.1 x) → ∀ (D : va_G) (cA : Nat → ClassId) (ad : Nat → Nat) (sz : Nat), za_MtH L me as w v w' D cA ad sz) := by
  have hB : za_B (za_M L) me v w' (0, lv_args 0 as, [], w) := by
    refine h (fun me as w o w' => za_B (za_M L) me o w' (0, lv_args 0 as, [], w)) (fun me as w o w' hB => ?_)
    refine hB.mono (fun me as w o w' h9 hm9 haw9 => za_close hm9 haw9 h9)
  exact za_closeH hm haw hB
