/-! FROM THE ABSTRACT MACHINE TO THE MACHINE, 5: the call rows. -/
section ZC
variable {p : Program} {L : Launch} {e : Env} {R : Room} {s : State} {m : MethodId} {args : Array Value} {below : List Frame} {meth : Method} {c : Code} {me : Nat} {D : va_G} {cA : Nat → ClassId} {A : Nat → Prop} {ad0 : Nat → Nat} {w0 wz : za_W} {v : za_O} {X : za_S → Prop}
/-- behind a call that has come back -/
theorem za_back {H : Heap} {locs : List Loc} {cells slots mc ms pc : Nat} {ls : Array Slot} {st0 rest : List Value} {Q : State → Prop} {ad : Nat → Nat} {w w1 : za_W} {v1 : Option Value} {a : Array Value} {A1 : Nat → Prop} {H0 : Heap}
    (hr : va_Run p L e R s m args below meth c H locs cells slots mc ms (F0 m pc ls st0) rest (za_Q D cA A1 ad w (.inl v1) w1 a) A1) (hS : va_S A H0 H locs) (hA : ∀ q, A1 q → A q)
    (kk : ∀ (ad1 : Nat → Nat) (H1 : Heap) (locs1 : List Loc), (∀ k, k < w.1 → ad1 k = ad k) → va_P D vwCl (za_l ad1 cA w1) H1 → va_D A (za_l ad1 cA w1) → za_kw w1 → (∀ x, v1 = some x → za_k w1.1 x) → va_S A H0 H1 locs1 → W p L e R s m args below meth c H1 locs1 (cells + mc) (slots + ms) Q (F0 m (pc + 3) ls ((v1.map (za_v ad1)).toList ++ rest))) : W p L e R s m args below meth c H locs cells slots Q (F0 m pc ls st0) := by
  intro T hT X
  obtain ⟨u, st₀, t, T', L9, h0, X', hL, e1, e2, ⟨⟨ad1, ha, hv, hp, hd, hk, hx, -⟩, hz, hkp⟩, st⟩ := hr T hT X
  cases hv
  rw [h0] at hz hkp
  obtain ⟨t2, a1, b1⟩ := kk ad1 T'.heap (locs ++ L9) ha (by rw [e1]; exact hp) (hd.weaken (fun _ _ _ h => hA _ h)) hk (fun x h => hx x (by rw [h]))
    ⟨Nat.le_trans hS.1 (by rw [e1]; exact hz), fun q h1 h2 => by rw [e1, hkp q (Nat.lt_of_lt_of_le h1 hS.1) (fun z => h2 (hA q z))]; exact hS.2.1 q h1 h2, fun q hq => by
      rcases List.mem_append.mp hq with h | h
      · exact hS.2.2 q h
      · exact hA _ (hL q h)⟩ T' rfl X'
  exact ⟨t2, st t2 a1, b1⟩
/-- a call, in any way that runs it: the state behind it -/
theorem za_Z.call {pc mj : Nat} {l : za_L} {st r as : List Value} {w w1 : za_W} {v1 : Option Value} (hF : za_F me D cA p R s m args meth c w0 wz A) (hm : mj < zt_mp0.length) (haw : za_aw as ≤ za_mx mj) (hY : za_M L mj as w (.inl v1) w1) (hz : za_Z p L e R s m args below meth c me D cA A ad0 w0 wz v (pc + 3) l (v1.toList ++ r) w1) (hk : (∀ v ∈ st, za_k w.1 v) → (∀ v ∈ r, za_k w.1 v) ∧ ∀ v ∈ as, za_k w.1 v)
    (kk : ∀ (ad : Nat → Nat) (H : Heap) (locs : List Loc) (ls : Array Slot) (cells slots : Nat), za_I D cA A s.heap H locs ls (za_mx me) ad l st w → cells + (w1.1 - w.1) ≤ R.cells ∧ slots + (w1.2.1 - w.2.1) ≤ R.slots →
      Met L (za_y mj) (za_wq mj) (za_room mj w w1) (za_Pre D cA ad as w H.size) (za_Q D cA (va_A (za_l ad cA w) H.size) ad w (.inl v1) w1) (w1.1 - w.1) (w1.2.1 - w.2.1) (va_A (za_l ad cA w) H.size) →
      (∀ U : State, U.heap = H → s.WarmedH U.vm → za_Pre D cA ad as w H.size (as.map (za_v ad)).toArray U) →
      ∃ a, va_Run p L e R s m args below meth c H locs cells slots (w1.1 - w.1) (w1.2.1 - w.2.1) (F0 m pc ls (st.map (za_v ad))) (r.map (za_v ad)) (za_Q D cA (va_A (za_l ad cA w) H.size) ad w (.inl v1) w1 a) (va_A (za_l ad cA w) H.size)) :
    za_Z p L e R s m args below meth c me D cA A ad0 w0 wz v pc l st w := by
  obtain ⟨hx, hb, hml, hown, hts, hr, hlk, hK, hnw, hex, him, hRf, hRl, hRc, hRs, hZ⟩ := hF
  obtain ⟨y1, y2, y3⟩ := hY hm haw
  refine ⟨⟨Nat.le_trans y1 hz.1.1, Nat.le_trans y2 hz.1.2⟩, fun ad H locs ls cells slots I hag hc hs => ?_⟩
  have I' := I
  obtain ⟨h1, h2, h3, h4, h5, h6, h7, h8⟩ := I'
  obtain ⟨k1, k2⟩ := hk h7
  have hA1 : ∀ q, va_A (za_l ad cA w) H.size q → A q := fun q hq => by
    rcases hq with ⟨k, x, hkx⟩ | hq
    · exact h2.2 k (q, x) hkx
    · exact h4 q (Nat.le_trans h3.1 hq)
  have z1 := hz.1.1
  have z2 := hz.1.2
  obtain ⟨a, hrun⟩ := kk ad H locs ls cells slots I ⟨by omega, by omega⟩ (y3 h5 k2 D cA ad H.size).met (fun U hU hW => ⟨rfl, by rw [hU], by rw [hU]; exact h1, va_K.moved hW.alike hK, h2.weaken (fun _ _ _ _ => trivial), za_nw.warm hW hnw, zb_Z.go hZ h3 hA1 hU hW⟩)
  refine za_back hrun h3 (fun q hq => ?_) (fun ad1 H1 locs1 g1 g2 g3 g4 g5 g6 => ?_)
  · rcases hq with ⟨k, x, hkx⟩ | hq
    · exact h2.2 k (q, x) hkx
    · exact h4 q (Nat.le_trans h3.1 hq)
  · have g7 : ∀ u ∈ v1.toList, za_k w1.1 u := fun u hu => g5 u (by cases v1 with | none => cases hu | some x => rw [List.mem_singleton.mp hu])
    have h9 := hz.2 ad1 H1 locs1 ls (cells + (w1.1 - w.1)) (slots + (w1.2.1 - w.2.1)) ⟨g2, g3, g6, h4, g4, fun q hq => (h6 q hq).mono y1, fun u hu => (List.mem_append.mp hu).elim (g7 u) (fun h => (k1 u h).mono y1), by rw [za_ls.agree g1 h6]; exact h8⟩ (fun k hk9 => by rw [g1 k (by omega)]; exact hag k hk9) (by omega) (by omega)
    have e1 : (v1.toList ++ r).map (za_v ad1) = (v1.map (za_v ad1)).toList ++ r.map (za_v ad) := by
      rw [List.map_append, za_vs.agree g1 k1]
      cases v1 <;> rfl
    rw [e1] at h9
    exact h9
end ZC
theorem za_take {st r : List Value} {a : Value} {n : Nat} (h : st.drop n = a :: r) : st = st.take n ++ a :: r ∧ (st.take n).length = n := by
  constructor
  · rw [← h, List.take_append_drop]
  · have h1 : (st.drop n).length = st.length - n := List.length_drop
    rw [h] at h1
    rw [List.length_take]
    simp at h1
    omega
theorem za_asr (ad : Nat → Nat) (t : List Value) : ((t.reverse).map (za_v ad)).reverse = t.map (za_v ad) := by rw [List.map_reverse, List.reverse_reverse]
section ZX
variable {p : Program} {L : Launch} {e : Env} {R : Room} {s : State} {m : MethodId} {args : Array Value} {below : List Frame} {meth : Method} {c : Code} {T : State} {locs : List Loc} {cells slots : Nat}
/-- a virtual call that throws: the note lies over the frame -/
theorem za_callT (X : Stand p L e R s m args below meth c T locs cells slots) (hexec : p.tables.exec = Jvm.exec) {own C : String} {index : Nat} {y : MethodName} {bytes : ByteArray} {maxL : Nat} {ret : Option FieldType} {ws : List Cond} {rm : Room} {Pc : Array Value → State → Prop} {Q : Array Value → State → Outcome → State → Prop} {mc ms : Nat} {free : Addr → Prop}
    (hown : s.vm.findClass own = some m.cls) (hlink : (Cond.methodLink own index y).before args s = true) (hinst : (Cond.instanceMethod y).before args s = true) (hsel : (Cond.selects C y y).before args s = true)
    (hcode : (Cond.code y bytes maxL ret).before args s = true) (hy : y.cls ≠ "java/lang/invoke/MethodHandle" ∧ y.cls ≠ "java/lang/invoke/VarHandle") (hws : ∀ w ∈ ws, ∀ (a' : Array Value) (U : State), s.WarmedH U.vm → w.before a' U = true) (hcw : Cond.code y bytes maxL ret ∈ ws) (hini : ∀ (a' : Array Value) (U : State), s.WarmedH U.vm → (Cond.initialized y.cls).before a' U = true)
    (hM : MetFree L y (headSpec ws rm) Pc (fun _ _ _ _ _ => True) (fun a st oc t => Q a st oc t ∧ ∃ Lc, za_FE st t Lc mc ms ∧ ∀ q ∈ Lc, free q.base)) (hbl : FrameBlind Pc) (hthr : ∀ a st oc t, Q a st oc t → ∃ x, oc = .threw x) (hframes : rm.frames + 1 ≤ R.frames) (hlocals : 8 + (maxL + 11) + rm.locals ≤ R.locals) (hcells : cells + rm.cells ≤ R.cells) (hslots : slots + rm.slots ≤ R.slots)
    {b : Addr} {cellB : Cell} (hcell : T.heap[b]? = some cellB) (hobj : cellB.vm.isStatics = false) (hcls : s.vm.findClass C = some cellB.cls)
    {g : JFrame} (hg : g.method = m) (hsize : g.locals.size = c.maxLocals) {argsL rest : List Value} (hlen : ∀ sig, parseMethodDescriptor y.desc = some sig → argsL.length = sig.parameters.length)
    (hstack : g.stack = argsL.reverse ++ .ref b :: rest) (hW : 2 * g.monitorRoom + (rest.map fun v => v.category).sum ≤ 8) (hdg : decode c.code g.pc = .ok (.invokevirtual index, 3))
    (hpre : ∀ U : State, U.heap = T.heap → s.WarmedH U.vm → Pc (Value.ref b :: argsL).toArray U) :
    ∃ (x : Addr) (st₀ t T' : State) (Lc : List Loc), st₀.heap = T.heap ∧ Stand p L e R s m args below meth c T' (locs ++ Lc) (cells + mc) (slots + ms) ∧ (∀ q ∈ Lc, free q.base) ∧ T'.heap = t.heap ∧ Q (Value.ref b :: argsL).toArray st₀ (.threw x) t ∧
      ∀ target, Steps p.tables e below ((T'.setTop { g with stack := rest }).pushFrame (.throwing x)) target → Steps p.tables e below (T.setTop g) target := by
  obtain ⟨mk, methM, hnamed, hmethM, hstM, habM⟩ := Cond.instanceMethod_spec hinst
  obtain ⟨methM', cM, hmethM', -, -, -, -, -, -, hsigM⟩ := Cond.code_spec hnamed hcode
  cases hmethM.symm.trans hmethM'
  obtain ⟨c2, r2, m2, q1, q2, q3, q4, kP, hkP, hkPi⟩ := Cond.selects_spec hsel
  cases hcls.symm.trans q1
  cases (State.methodFound?_of_named hnamed hy).symm.trans q2
  cases hnamed.symm.trans q3
  have hselP : selectMethod e.platform s.vm cellB.cls mk = .method mk := by rw [Launch.admits_selectMethod X.admits]; exact q4
  obtain ⟨vm₁, X₁, hstep₁⟩ := X.invokevirtual hexec hown hlink hnamed hmethM hstM hkP hkPi hy (a := b) (cell := cellB) hcell
    (fun z h => by rw [h] at hobj; cases hobj) hselP hmethM habM hkP hkPi (g := g) hg (argsL := argsL) (rest := rest) (hlen _ hsigM) hstack hdg
  have hn := X₁.named hnamed
  have hwb : (headSpec ws rm).pre.before (Value.ref b :: argsL).toArray (T.setVm vm₁) = true := atoms_intro fun w hw => hws w hw _ _ X₁.warmed
  obtain ⟨methY, cY, hmY, hcY, -, hlY, -, -, -, -⟩ := Cond.code_spec hn (hws _ hcw (Value.ref b :: argsL).toArray _ X₁.warmed)
  obtain ⟨kY, hkY, -⟩ := className_of_methodNamed hn
  have hinitY : kY.init = .initialized := Cond.initialized_spec (findClass_of_methodNamed hn) hkY (hini (Value.ref b :: argsL).toArray _ X₁.warmed)
  have h : At (T.setVm vm₁) { g with stack := rest }.method c below := by show At (T.setVm vm₁) g.method c below; rw [hg]; exact X₁.here
  have happ : (headSpec ws rm).appliesLoose y e.platform ((T.setVm vm₁).calling { g with stack := rest } mk (Value.ref b :: argsL).toArray) = true :=
    Spec.appliesLoose_calling (g := { g with stack := rest }) h hdg hn hkY hinitY
      (X₁.room_calling (g := { g with stack := rest }) (R' := rm) hsize hmY hcY hframes (by rw [hlY]; show 2 * g.monitorRoom + (rest.map fun v => v.category).sum + (maxL + 11) + rm.locals ≤ R.locals; omega) hcells hslots) hwb
  obtain ⟨mid, hmid⟩ := h.above
  have hfr : ((T.setVm vm₁).setTop { g with stack := rest }).frames = (.java { g with stack := rest } :: mid) ++ below := by rw [State.frames_setTop' _ h.top, hmid]; rfl
  obtain ⟨o, s₂, hsteps, -, hend, hq, Lc, hfe, hfr2⟩ := Steps.callFree hM p X₁.admits X₁.cas X₁.clock (acts := []) hfr happ (hbl _ _ _ _ (hpre (T.setVm vm₁) rfl X₁.warmed)) trivial
  rw [State.frames_setTop' _ h.top] at hend
  obtain ⟨x, rfl⟩ := hthr _ _ _ _ hq
  have htl : (T.setVm vm₁).frames.tail = below := X₁.tail
  rw [htl] at hend
  obtain ⟨T', XT, -, -, hT'⟩ := X₁.outOfThrown (g := { g with stack := rest }) hg hend hfe.1 hfe.2
  refine ⟨x, (T.setVm vm₁).calling { g with stack := rest } mk (Value.ref b :: argsL).toArray, s₂, T', Lc, rfl, XT, hfr2, ?_, hq, fun target ht => hstep₁ _ fun acts => ?_⟩
  · rw [hT', Stand.throwing_heap]
  · rw [doInvoke_state]
    rw [← hT'] at ht
    exact hsteps.trans ht
end ZX
