/-! OUT, 2: SortPacks.out where OUT has no such byte: it throws; the world stands as it stood. -/
set_option maxRecDepth 100000 in
theorem zo_ln : Cond.classLink "SortPacks" 117 zo_X ∈ za_tg := za_tg.of (p := 972) (by decide +kernel) rfl
set_option maxRecDepth 100000 in
theorem zo_in : Cond.initialized zo_X ∈ za_tg := za_tg.of (p := 102) (by decide +kernel) rfl
section ZOR
variable {p : Program} {l : Launch} {e : Env} {R : Room} {s : State} {m : MethodId} {args : Array Value} {below : List Frame} {meth : Method} {c : Code} {locs : List Loc} {cells slots : Nat} {T : State}
/-- the same walk, seen as begun in the state where it stands -/
theorem zo_base (X : Stand p l e R s m args below meth c T locs cells slots) {k n : Nat} (hc : cells + k ≤ R.cells) (hs : slots + n ≤ R.slots) : Stand p l e { frames := R.frames, locals := R.locals, cells := k, slots := n } ((T.setVm s.vm).setFrames (.invoking m args :: below)) m args below meth c T [] 0 0 := by
  have htop : (T.setVm s.vm).topJava?.isSome := X.here.top
  have hF : ((T.setVm s.vm).setFrames (.invoking m args :: below)).frames = .invoking m args :: below := State.frames_setFrames _ (State.cur_lt_of_top htop)
  obtain ⟨g0, hg0⟩ := Option.isSome_iff_exists.mp htop
  obtain ⟨r, hr⟩ := State.topJava?_eq_some.mp hg0
  have hl9 : e.platform.stackLimits (T.setVm s.vm).me = e.platform.stackLimits s.me := X.limits
  have hb9 : (T.setVm s.vm).me.stackBytes = s.me.stackBytes := X.bytes
  have hU : ((T.setVm s.vm).setFrames (.invoking m args :: below)).localsInUse = s.localsInUse := by
    rw [State.localsInUse_invoking hF (meth := meth) (c := c) X.method X.code, State.localsInUse_invoking X.frames X.method X.code]
  have hroom := X.room
  have q1 := X.heapSize
  have q2 := X.used
  refine ⟨X.admits, X.cas, X.clock, hF, ?_, X.hears, X.method, X.code, X.here, X.tail, X.warmed, ?_, ?_, ?_⟩
  · simp only [State.hasRoom, Bool.and_eq_true, decide_eq_true_eq] at hroom ⊢
    obtain ⟨⟨⟨⟨h1, h2, h3, h4, h5, h6⟩, h7⟩, h8⟩, h9⟩ := hroom
    rw [X.frames, List.length_cons] at h2 h3
    simp only [hF, hU, List.length_cons, State.stackLimits_setFrames, State.stackBytes_setFrames, hl9, hb9]
    refine ⟨⟨⟨⟨by omega, by omega, by omega, by omega, by omega, h6⟩, ?_⟩, ?_⟩, X.book⟩
    · show T.heap.size + k ≤ e.platform.maxCells
      omega
    · show T.slotsUsed + n ≤ e.platform.maxSlots
      omega
  · rw [State.stackLimits_setFrames]
    rfl
  · rw [State.stackBytes_setFrames]
    rfl
  · refine ⟨?_, Nat.le_refl _, Nat.le_refl _, ?_, ?_, fun a c9 h9 => ⟨c9, h9, rfl, rfl, fun _ _ => rfl⟩⟩
    · obtain ⟨t, ht, -⟩ := State.frames_cons hr
      show T.setVm s.vm = { ((T.setVm s.vm).setFrames (.invoking m args :: below)).setFrames (T.setVm s.vm).frames with heap := T.heap, slotsUsed := T.slotsUsed }
      rw [State.setFrames_setFrames, State.setFrames_self ht]
      rfl
    · show T.slotsUsed = T.slotsUsed + ((T.heap.toList.drop T.heap.size).map (·.slots.size)).sum
      rw [List.drop_eq_nil_of_le (Nat.le_of_eq Array.length_toList)]
      rfl
    · show ((T.heap.toList.drop T.heap.size).map (·.slots.size)).sum ≤ 0
      rw [List.drop_eq_nil_of_le (Nat.le_of_eq Array.length_toList)]
      exact Nat.le_refl _
/-- new; dup; ldc; invokespecial; athrow -/
theorem zo_throw {A : Nat → Prop} {H : Heap} {ls : Array Slot} (X : Stand p l e R s m args below meth c T locs cells slots) (hT : T.heap = H) (hx : p.tables.exec = Jvm.exec) (hb : c.code = cX11_out) (hl : l.stackTraces = false) (hown : s.vm.findClass "SortPacks" = some m.cls) (hts : ∀ w ∈ za_tg, w.before args s = true) (hZ : zo_Z A s) (hS : va_S A s.heap H locs) (hex : c.exceptionTable.toList = []) (hlk : meth.locks = false) (hsz : ls.size = c.maxLocals) (hRf : 6 < R.frames) (hRl : 95 ≤ R.locals) (hRc : cells + 1 ≤ R.cells) (hRs : slots + 6 ≤ R.slots) :
    ∃ (U : State) (ce : Cell), Steps p.tables e below (T.setTop (F0 m 11 ls [])) U ∧ U.status = .running ∧ Ended U below (.threw H.size) ∧ s.WarmedH U.vm ∧ s.sameButNew ({ U with vm := s.vm } : State) locs (cells + 1) (slots + 6) ∧ U.heap[H.size]? = some ce ∧ ce.vm = .none ∧ s.vm.findClass zo_X = some ce.cls ∧ H.size ≤ U.heap.size ∧ ∀ q : Nat, q < H.size → U.heap[q]? = H[q]? := by
  have htr : e.platform.stackTraces = false := (show e.platform.stackTraces = l.stackTraces by rw [X.admits.platform]).trans hl
  have Y := zo_base X (k := 1) (n := 6) hRc hRs
  obtain ⟨s', hA⟩ : ∃ z, z = (T.setVm s.vm).setFrames (.invoking m args :: below) := ⟨_, rfl⟩
  rw [← hA] at Y
  have hvm : s'.vm = s.vm := by rw [hA]; rfl
  have hhp : s'.heap = H := by rw [hA]; exact hT
  have hW0 : s.WarmedH s'.vm := by rw [hvm]; exact State.WarmedH.refl s
  have hZ' : zo_Z A s' := zo_Z.go hZ hS (fun _ h => h) hhp hW0
  have hts' : ∀ w ∈ za_tg, w.before args s' = true := fun w hw => word_at hW0 (za_tg.good w hw) (hts w hw)
  have hwd := hZ'.words args
  have hown' : s'.vm.findClass "SortPacks" = some m.cls := by rw [hvm]; exact hown
  obtain ⟨-, -, -, sa, hstr⟩ := hZ'
  obtain ⟨vm₁, cX, kX, hfX, hkX, -, -, X₁, st1⟩ := Y.newCold hx (own := "SortPacks") (C := zo_X) (index := 117) (n := 6) hown' (hts' _ zo_ln) (hts' _ zl_k0) (hts' _ zo_in) (g := F0 m 11 ls []) rfl (by rw [hb]; exact dX11_out_11) (Nat.le_refl _) (Nat.le_refl _)
  generalize hT1 : (T.setVm vm₁).pushCell { cls := cX, slots := kX.instanceTypes.map defaultValue, vm := .none } = T1 at X₁ st1
  have hcat : (Value.ref T.heap.size).category = 1 := rfl
  have hcellA : T1.heap[T.heap.size]? = some (freshCell cX kX) := by rw [← hT1]; exact State.heap_pushCell_size _ _
  have d14 : decode c.code 14 = .ok (.dup, 1) := by rw [hb]; exact dX11_out_14
  have d15 : decode c.code 15 = .ok (.ldc 119, 2) := by rw [hb]; exact dX11_out_15
  obtain ⟨U, hsteps, hrun, hend, hW, hsame, ce, hce, hO⟩ := X₁.ctorThrowS hx htr (own := "SortPacks") (cls := zo_X) (names := zo_N) (ic := 121) hown' (by decide) (by decide) hwd (fun x hx => nomatch hx) hfX hkX hcellA (by rw [hhp, hT]; exact Nat.le_refl _) (msg := .ref sa) rfl
    (g := { method := m, pc := 17, locals := ls, stack := .ref sa :: .ref T.heap.size :: .ref T.heap.size :: [], locked := none }) rfl hsz rfl rfl (rest := []) rfl (by rw [hb]; exact dX11_out_17) (by rw [hb]; exact dX11_out_20) (by rw [hex]; intro x hx; cases hx) hRf (by simp only [List.map_cons, List.sum_cons, hcat]; show 2 * 0 + (1 + 0) + (13 * (3 + 1) + 42) ≤ R.locals; omega) hlk
  have f0 : s'.heap.size ≤ U.heap.size ∧ ∀ q : Nat, q < s'.heap.size → U.heap[q]? = s'.heap[q]? := by
    obtain ⟨-, h2, -, -, -, h6⟩ := hsame
    refine ⟨h2, fun q hq => ?_⟩
    obtain ⟨c9, e1, e2, e3, e4⟩ := h6 q _ (Array.getElem?_eq_getElem hq)
    have hs9 : c9.slots = (s'.heap[q]).slots := Array.ext_getElem? fun i => e4 i (fun hm => nomatch hm)
    have h9 : c9 = s'.heap[q] := by
      rw [hs9] at e2
      exact e2
    have e5 : U.heap[q]? = some c9 := e1
    rw [e5, h9, Array.getElem?_eq_getElem hq]
  rw [hhp] at f0
  have hWs : s.WarmedH U.vm := State.WarmedH.trans hW0 hW
  have hcl : s.vm.findClass zo_X = some ce.cls := by
    have h9 := hO.cls
    rw [hvm] at h9
    exact h9
  have hall : s.sameButNew ({ U with vm := s.vm } : State) locs (cells + 1) (slots + 6) := by
    subst hA
    obtain ⟨e1, e2⟩ := hsame
    rw [State.setFrames_setFrames] at e1
    have h2 : (T.setVm s.vm).sameButNew ({ U with vm := s.vm } : State) [] (0 + 1) (0 + 6) := ⟨e1, e2⟩
    have h3 := X.same.trans h2
    rw [List.append_nil] at h3
    exact h3
  rw [← hT]
  refine ⟨U, ce, st1 _ ?_, hrun, hend, hWs, hall, hce, hO.vm, hcl, by rw [hT]; exact f0.1, fun q hq => by rw [hT] at hq ⊢; exact f0.2 q hq⟩
  show Steps p.tables e below (T1.setTop { method := m, pc := 14, locals := ls, stack := .ref T.heap.size :: [], locked := none }) _
  jvm_step X₁.here [X₁.here.top, hx, d14, Value.category]
  exact X₁.ldcString hx (own := "SortPacks") (text := "OUT has no such byte") (index := 119) (a := sa) hown' hstr.1 hstr.2 (g := { method := m, pc := 15, locals := ls, stack := .ref T.heap.size :: .ref T.heap.size :: [], locked := none }) rfl d15 _ hsteps
end ZOR
