/-! OUT, 2: SortPacks.out where OUT has no such byte: it throws; the world stands as it stood. -/
set_option maxRecDepth 100000 in
theorem zo_ln : Cond.classLink "SortPacks" 117 zo_X ∈ za_tg := za_tg.of (p := 972) (by decide +kernel) rfl
set_option maxRecDepth 100000 in
theorem zo_in : Cond.initialized zo_X ∈ za_tg := za_tg.of (p := 102) (by decide +kernel) rfl
section ZOR
variable {p : Program} {l : Launch} {e : Env} {R : Room} {s : State} {m : MethodId} {args : Array Value} {below : List Frame} {meth : Method} {c : Code} {T : State}
/-- new; dup; ldc; invokespecial; athrow, where nothing was written before -/
theorem zo_throw {A : Nat → Prop} {ls : Array Slot} (X : Stand p l e R s m args below meth c T [] 0 0) (hx : p.tables.exec = Jvm.exec) (hb : c.code = cX11_out) (hl : l.stackTraces = false) (hown : s.vm.findClass "SortPacks" = some m.cls) (hts : ∀ w ∈ za_tg, w.before args s = true) (hZ : zo_Z A s) (hex : c.exceptionTable.toList = []) (hlk : meth.locks = false) (hsz : ls.size = c.maxLocals) (hRf : 6 < R.frames) (hRl : 95 ≤ R.locals) (hRc : 1 ≤ R.cells) (hRs : 6 ≤ R.slots) :
    ∃ (U : State) (q : Nat) (ce : Cell), Steps p.tables e below (T.setTop (F0 m 11 ls [])) U ∧ U.status = .running ∧ Ended U below (.threw q) ∧ za_FE s U [] 1 6 ∧ U.heap[q]? = some ce ∧ ce.vm = .none ∧ s.vm.findClass zo_X = some ce.cls ∧ s.heap.size ≤ U.heap.size ∧ ∀ k : Nat, k < s.heap.size → U.heap[k]? = s.heap[k]? := by
  have htr : e.platform.stackTraces = false := by
    have h : e.platform.stackTraces = l.stackTraces := by rw [X.admits.platform]
    rw [h, hl]
  obtain ⟨sa, hsr⟩ := hZ.2.2.2
  obtain ⟨vm₁, cX, kX, g1, g2, -, -, X₁, st1⟩ := X.newCold hx (own := "SortPacks") (C := zo_X) (index := 117) (n := 6) hown (hts _ zo_ln) (hts _ zl_k0) (hts _ zo_in) (g := F0 m 11 ls []) rfl (by rw [hb]; exact dX11_out_11) (by omega) (by omega)
  generalize e1 : (T.setVm vm₁).pushCell { cls := cX, slots := kX.instanceTypes.map defaultValue, vm := .none } = T1 at X₁ st1
  have hc1 : T1.heap[T.heap.size]? = some (freshCell cX kX) := by
    rw [← e1]
    exact State.heap_pushCell_size _ _
  have hz : s.heap.size ≤ T.heap.size := X.heapGrown
  obtain ⟨U, u1, u2, u3, u4, u5, ce, u6, u7⟩ := X₁.ctorThrowS hx htr (own := "SortPacks") (cls := zo_X) (names := zo_N) (ic := 121) hown (by decide) (by decide) (hZ.words args) (fun x hx => nomatch hx) g1 g2 hc1 hz (msg := .ref sa) rfl
    (g := F0 m 17 ls [.ref sa, .ref T.heap.size, .ref T.heap.size]) rfl hsz rfl rfl (rest := []) rfl (by rw [hb]; exact dX11_out_17) (by rw [hb]; exact dX11_out_20) (by rw [hex]; intro x hx; cases hx) hRf (by show 2 * 0 + (1 + 0) + (13 * (3 + 1) + 42) ≤ R.locals; omega) hlk
  refine ⟨U, T.heap.size, ce, st1 _ ?_, u2, u3, ⟨u4, u5⟩, u6, u7.vm, u7.cls, u5.2.1, fun k hk => ?_⟩
  · have d14 : decode c.code 14 = .ok (.dup, 1) := by rw [hb]; exact dX11_out_14
    show Steps p.tables e below (T1.setTop (F0 m 14 ls [.ref T.heap.size])) U
    jvm_step X₁.here [X₁.here.top, hx, d14, Value.category]
    exact X₁.ldcString hx (own := "SortPacks") (text := "OUT has no such byte") (index := 119) (a := sa) hown (vk_R.of hsr.1 hsr.2).1 hsr.2 (g := F0 m 15 ls [.ref T.heap.size, .ref T.heap.size]) rfl (by rw [hb]; exact dX11_out_15) U u1
  · obtain ⟨d, d1, d2, -, d4⟩ := u5.2.2.2.2.2 k _ (Array.getElem?_eq_getElem hk)
    have d5 : d.slots = (s.heap[k]).slots := Array.ext_getElem? fun i => d4 i (fun hm => nomatch hm)
    have d6 : d = s.heap[k] := by
      rw [d5] at d2
      exact d2
    have d7 : U.heap[k]? = some d := d1
    rw [d7, d6, Array.getElem?_eq_getElem hk]
end ZOR
