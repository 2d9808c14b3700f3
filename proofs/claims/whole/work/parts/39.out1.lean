/-! OUT, 1: the words of 'throw new ArrayIndexOutOfBoundsException(..)', kept up to the throw. -/
abbrev zo_X : String := "java/lang/ArrayIndexOutOfBoundsException"
abbrev zo_N : List String := ["java/lang/IndexOutOfBoundsException", "java/lang/RuntimeException", "java/lang/Exception"]
abbrev zo_U : String := "UNASSIGNED_STACK"
abbrev zo_S : String := "SUPPRESSED_SENTINEL"
abbrev zo_T : String := "java/lang/Throwable"
abbrev zo_dU : String := "[Ljava/lang/StackTraceElement;"
abbrev zo_dS : String := "Ljava/util/List;"
def zo_A : List Cond := Bundle.ownAtoms "SortPacks" 121 zo_X zo_N
def zo_B : List Cond := [.isRef (.static zo_T zo_U zo_dU), .isRef (.static zo_T zo_S zo_dS), .laysStatic zo_T zo_U zo_dU, .laysStatic zo_T zo_S zo_dS]
set_option maxRecDepth 100000 in
theorem zo_A.b : zo_A.all (fun w => w.onTables || zo_B.any (fun u => decide (u = w))) = true := by decide +kernel
set_option maxRecDepth 100000 in
theorem zo_A.g : zo_A.all (fun w => !w.onTables || lw_tbl.any (fun u => decide (u = w))) = true := by decide +kernel
/-- where a static field lies, outside A -/
def zo_L (n d : String) (A : Nat → Prop) (U : State) (H : Heap) : Prop := ∃ (c : ClassId) (k : Class) (i : Nat) (f : Field) (a : Nat) (cell : Cell), (U.vm.findClass zo_T = some c ∧ U.fieldFound? zo_T n d = some (c, k, i, f) ∧ f.isStatic = true ∧ k.statics = some a ∧ k.staticTypes[f.slot]? = some f.type) ∧ H[a]? = some cell ∧ (cell.vm.isStatics = true ∧ cell.cls = c ∧ f.slot < cell.slots.size) ∧ ¬ A a
theorem zo_L.go {n d : String} {A A1 : Nat → Prop} {u U : State} {H H1 : Heap} (h : zo_L n d A u H) (hvm : u.vm.Alike U.vm) (hq : ∀ a : Nat, a < H.size → ¬ A a → H1[a]? = H[a]?) (hA : ∀ q, A1 q → A q) : zo_L n d A1 U H1 := by
  obtain ⟨c, k, i, f, a, cell, ⟨h1, h2, h3, h4, h5⟩, h6, h7, h8⟩ := h
  obtain ⟨k', g1, g2⟩ := State.fieldFound?_setVm hvm h2
  exact ⟨c, k', i, f, a, cell, ⟨by rw [hvm.findClass]; exact h1, g1, h3, by rw [g2]; exact h4, by rw [g2]; exact h5⟩, by rw [hq a (Array.getElem?_eq_some_iff.mp h6).1 h8]; exact h6, h7, fun z => h8 (hA _ z)⟩
theorem zo_L.word {n d : String} {A : Nat → Prop} {s : State} {args : Array Value} (h : zo_L n d A s s.heap) : (Cond.laysStatic zo_T n d).before args s = true := by
  obtain ⟨c, k, i, f, a, cell, ⟨h1, h2, h3, h4, h5⟩, h6, ⟨h7, h8, h9⟩, -⟩ := h
  exact Cond.laysStatic_of h1 h2 h3 h4 h6 h7 h8 h9 h5
theorem zo_L.of {n d : String} {A : Nat → Prop} {s : State} {args : Array Value} (h : (Cond.laysStatic zo_T n d).before args s = true) (hA : ∀ a : Nat, a < s.heap.size → ¬ A a) : zo_L n d A s s.heap := by
  obtain ⟨c, k, i, f, a, cell, h1, h2, h3, h4, h5, h6, h7, h8, h9⟩ := Cond.laysStatic_spec h
  exact ⟨c, k, i, f, a, cell, ⟨h1, h2, h3, h4, h9⟩, h5, ⟨h6, h7, h8⟩, hA a (Array.getElem?_eq_some_iff.mp h5).1⟩
theorem zo_isRef {n d : String} {A : Nat → Prop} {s : State} {args : Array Value} (h : va_Zq zo_T n d A s s.heap) : (Cond.isRef (.static zo_T n d)).before args s = true := by
  obtain ⟨v, hv, hz⟩ := zb_Zv h
  obtain ⟨cf, kf, fi, f, a, cell, h1, h2, h3, h4, h5, h6, h7, -⟩ := hz
  have he : (Term.static zo_T n d).eval args s none [] s = some v := by
    simp [Term.eval, State.fieldNamed?, h1, h2, h4, h5, h6, h7]
  simp only [Cond.before, Cond.holds, Cond.value, he]
  rcases hv with rfl | ⟨t, rfl⟩ <;> rfl
/-- all that the throw asks of the state -/
def zo_Z (A : Nat → Prop) (U : State) : Prop := (∀ w ∈ zo_A, w.onTables = true → w.before #[] U = true) ∧ (zo_L zo_U zo_dU A U U.heap ∧ zo_L zo_S zo_dS A U U.heap) ∧ zb_Z A U ∧ ∃ sa, vk_R "SortPacks" 119 "OUT has no such byte" sa U
theorem zo_Z.words {A : Nat → Prop} {s : State} (h : zo_Z A s) (args : Array Value) : ∀ w ∈ zo_A, w.before args s = true := by
  intro w hw
  obtain ⟨h1, ⟨h2, h3⟩, ⟨h4, h5⟩, -⟩ := h
  cases ho : w.onTables with
  | true => exact va_tabs ho rfl (h1 w hw ho)
  | false =>
    have hb := List.all_eq_true.mp zo_A.b w hw
    rw [ho, Bool.false_or] at hb
    obtain ⟨u, hu, e⟩ := List.any_eq_true.mp hb
    obtain rfl := of_decide_eq_true e
    simp only [zo_B, List.mem_cons, List.not_mem_nil, or_false] at hu
    rcases hu with rfl | rfl | rfl | rfl
    · exact zo_isRef h4
    · exact zo_isRef h5
    · exact h2.word
    · exact h3.word
theorem zo_Z.go {A A1 : Nat → Prop} {s U : State} {H : Heap} {locs : List Loc} (h : zo_Z A s) (hS : va_S A s.heap H locs) (hA : ∀ q, A1 q → A q) (hU : U.heap = H) (hW : s.WarmedH U.vm) : zo_Z A1 U := by
  obtain ⟨h1, ⟨h2, h3⟩, h4, sa, h5⟩ := h
  refine ⟨fun w hw ho => ?_, ⟨?_, ?_⟩, zb_Z.go h4 hS hA hU hW, sa, vk_R.warm hW h5⟩
  · exact va_tabs (u := s.setVm U.vm) ho rfl (Cond.rides hW.wide (Bundle.ownAtoms_keepsFace w hw) (h1 w hw ho))
  · rw [hU]; exact h2.go hW.alike hS.2.1 hA
  · rw [hU]; exact h3.go hW.alike hS.2.1 hA
theorem zo_Z.calling {A : Nat → Prop} {U V : State} (hv : U.vm = V.vm) (hh : U.heap = V.heap) (h : zo_Z A U) : zo_Z A V := by
  obtain ⟨h1, ⟨h2, h3⟩, h4, sa, h5⟩ := h
  have ha : U.vm.Alike V.vm := by rw [hv]; exact Vm.Alike.refl _
  refine ⟨fun w hw ho => va_tabs ho hv (h1 w hw ho), ⟨?_, ?_⟩, zb_Z.calling hv hh h4, sa, vk_R.same hv.symm h5⟩
  · rw [← hh]; exact h2.go ha (fun _ _ _ => rfl) (fun _ h => h)
  · rw [← hh]; exact h3.go ha (fun _ _ _ => rfl) (fun _ h => h)
theorem zo_Z.start {b : Nat} {s : State} (hts0 : ∀ w ∈ lw_tbl, w.before #[Value.ref b] s = true) (hZ : zb_Z (fun q => s.heap.size ≤ q) s) : zo_Z (fun q => s.heap.size ≤ q) s := by
  have mem : ∀ w ∈ zo_A, w.onTables = true → w ∈ lw_tbl := fun w hw ho => by
    have h1 := List.all_eq_true.mp zo_A.g w hw
    rw [ho, Bool.not_true, Bool.false_or] at h1
    obtain ⟨u, hu, e⟩ := List.any_eq_true.mp h1
    rw [← of_decide_eq_true e]
    exact hu
  have hts : ∀ w ∈ za_tg, w.before #[Value.ref b] s = true := fun w hw => hts0 w (List.mem_filter.mp hw).1
  obtain ⟨c, k, hfc, -⟩ := Cond.instantiable_spec (hts _ zl_k12)
  have hsr : (Cond.stringRef "SortPacks" 119 "OUT has no such byte").before #[Value.ref b] s = true := hts0 _ (List.mem_of_getElem? (i := 1014) (by decide +kernel))
  obtain ⟨k2, cf, i, a2, -, -, -, -, -, hev⟩ := Cond.stringRef_spec hfc hsr
  refine ⟨fun w hw ho => va_tabs ho rfl (hts0 w (mem w hw ho)), ⟨zo_L.of (hts0 _ (List.mem_of_getElem? (i := 1001) (by decide +kernel))) (fun a h1 h2 => by omega), zo_L.of (hts0 _ (List.mem_of_getElem? (i := 1003) (by decide +kernel))) (fun a h1 h2 => by omega)⟩, hZ, a2, vk_R.of hsr hev⟩
