/-! new int[n][k]: the machine's own step, and the state that it leaves (one outer row, n inner ones, each set into it as it is made). -/
def zm_i (cp : ClassId) (k : Nat) : Cell := arrV cp k (fun _ => .int 0)
def zm_o (co : ClassId) (n h i : Nat) : Cell := arrV co n (fun j => if j < i then .ref (h + 1 + j) else .null)
theorem zm_o.set (co : ClassId) (n h i : Nat) : (zm_o co n h i).setSlot i (.ref (h + 1 + i)) = zm_o co n h (i + 1) := by
  unfold zm_o
  rw [arrV_store]
  congr 1
  funext j
  show (if j = i then Value.ref (h + 1 + i) else if j < i then Value.ref (h + 1 + j) else Value.null) = if j < i + 1 then Value.ref (h + 1 + j) else Value.null
  by_cases e : j = i
  · rw [if_pos e, if_pos (by omega), e]
  · rw [if_neg e]
    by_cases hj : j < i
    · rw [if_pos hj, if_pos (by omega)]
    · rw [if_neg hj, if_neg (by omega)]
def zm_s (s : State) (co cp : ClassId) (n k : Nat) : Nat → State
  | 0 => s.pushCell (zm_o co n s.heap.size 0)
  | i + 1 => ((zm_s s co cp n k i).pushCell (zm_i cp k)).setCell s.heap.size (zm_o co n s.heap.size (i + 1))
theorem zm_s.facts (s : State) (co cp : ClassId) (n k : Nat) : ∀ i, (zm_s s co cp n k i).heap.size = s.heap.size + 1 + i ∧ (zm_s s co cp n k i).heap[s.heap.size]? = some (zm_o co n s.heap.size i) ∧ (zm_s s co cp n k i).vm = s.vm ∧ (zm_s s co cp n k i).slotsUsed = s.slotsUsed + n + i * k
  | 0 => ⟨by simp [zm_s], by simp [zm_s], rfl, by simp [zm_s, zm_o, arrV_size]⟩
  | i + 1 => by
    obtain ⟨h1, h2, h3, h4⟩ := zm_s.facts s co cp n k i
    have hlt : s.heap.size < (zm_s s co cp n k i).heap.size := by omega
    have h5 : ((zm_s s co cp n k i).pushCell (zm_i cp k)).heap[s.heap.size]? = some (zm_o co n s.heap.size i) := by
      rw [State.heap_pushCell_of_lt (h := hlt)]
      exact h2
    refine ⟨?_, State.heap_setCell_self h5, by simp [zm_s, h3], ?_⟩
    · simp [zm_s, State.setCell, h1]
      omega
    · simp [zm_s, h4, zm_i, arrV_size, Nat.succ_mul]
      omega
theorem zm_s.top (s : State) (f : JFrame) (co cp : ClassId) (n k : Nat) : ∀ i, zm_s (s.setTop f) co cp n k i = (zm_s s co cp n k i).setTop f
  | 0 => rfl
  | i + 1 => by simp only [zm_s, zm_s.top s f co cp n k i, State.heap_setTop, State.pushCell_setTop, State.setCell_setTop]
theorem zm_s.old (s : State) (co cp : ClassId) (n k : Nat) {a : Addr} (ha : a < s.heap.size) : ∀ i, (zm_s s co cp n k i).heap[a]? = s.heap[a]?
  | 0 => State.heap_pushCell_of_lt _ _ ha
  | i + 1 => by
    have h1 := (zm_s.facts s co cp n k i).1
    have hlt : a < (zm_s s co cp n k i).heap.size := Nat.lt_of_lt_of_le ha (by rw [h1]; omega)
    show (((zm_s s co cp n k i).pushCell (zm_i cp k)).setCell s.heap.size _).heap[a]? = _
    rw [State.heap_setCell_other (Nat.ne_of_gt ha), State.heap_pushCell_of_lt (h := hlt)]
    exact zm_s.old s co cp n k ha i
theorem zm_s.inner (s : State) (co cp : ClassId) (n k : Nat) : ∀ i j, j < i → (zm_s s co cp n k i).heap[s.heap.size + 1 + j]? = some (zm_i cp k)
  | 0, j, h => by omega
  | i + 1, j, h => by
    have h1 := (zm_s.facts s co cp n k i).1
    show (((zm_s s co cp n k i).pushCell (zm_i cp k)).setCell s.heap.size _).heap[s.heap.size + 1 + j]? = _
    rw [State.heap_setCell_other (show s.heap.size ≠ s.heap.size + 1 + j by omega)]
    by_cases e : j = i
    · subst e
      rw [← h1]
      exact State.heap_pushCell_size _ _
    · have hlt : s.heap.size + 1 + j < (zm_s s co cp n k i).heap.size := by omega
      rw [State.heap_pushCell_of_lt (h := hlt)]
      exact zm_s.inner s co cp n k i j (by omega)
section ZMW
variable {E : CtlPost} {e : Env} {d : Bool} {acts : List Action} {s : State}
theorem zm_na {c cp : ClassId} {kc : Class} {ty : FieldType} {n : Nat} {x : Value} (hk : s.vm.classes[c]? = some kc) (hkd : kc.kind = .array cp ty) (hl : n ≤ e.platform.arrayLengthLimit) (hh : n * componentBytes ty ≤ e.platform.maxHeapBytes) (hf : fits ty x = true) (hx : x.isDefault = true) {Q : Addr → Pre} (h1 : s.heap.size < e.platform.maxCells) (h2 : s.slotsUsed + n ≤ e.platform.maxSlots)
    (hq : Q s.heap.size d acts (s.pushCell (arrV c n fun _ => x))) : wp (Jvm.newArray c n x) Q E e d acts s := by
  have f1 : ∀ i v, (Array.replicate n x)[i]? = some v → s.fitsSlot c .none i v = true := by
    intro i v hv
    rw [Array.getElem?_replicate] at hv
    split at hv
    · cases hv
      simp [State.fitsSlot, State.slotType?, hk, hkd, hf]
    · cases hv
  have f2 : allocActs (Array.replicate n x) s.heap.size acts = acts := by
    have f3 : ((Array.replicate n x).all (·.isDefault)) = true := by
      rw [Array.all_replicate]
      split <;> simp [hx]
    unfold allocActs
    rw [if_pos f3]
  rw [← arrV_new] at hq
  simp only [Jvm.newArray, Jvm.arrayFits, wp_bind', W.ask, W.ite, Nat.not_lt.mpr hl, gt_iff_lt, if_false, wp_pure', W.theClass, hk, hkd, Nat.not_lt.mpr hh, W.alloc, W.stop, Option.some.injEq, exists_eq_left', Array.size_replicate, f2]
  rw [if_neg (by omega)]
  exact ⟨h1, h2, f1, hq⟩
theorem zm_m1 {cp cc : ClassId} {kc : Class} {k : Int32} (hk : s.vm.classes[cp]? = some kc) (hkd : kc.kind = .array cc .int) (h0 : ¬ k < 0) (hl : k.toNatClampNeg ≤ e.platform.arrayLengthLimit) (hh : k.toNatClampNeg * 4 ≤ e.platform.maxHeapBytes) (h1 : s.heap.size < e.platform.maxCells) (h2 : s.slotsUsed + k.toNatClampNeg ≤ e.platform.maxSlots) {Q : Addr → Pre}
    (hq : Q s.heap.size d acts (s.pushCell (zm_i cp k.toNatClampNeg))) : wp (multianewarray.make cp [k]) Q E e d acts s := by
  rw [multianewarray.make]
  simp only [wp_bind', W.ite, h0, if_false, wp_pure', W.theClass, hk, hkd, Option.some.injEq, exists_eq_left']
  exact zm_na hk hkd hl hh rfl rfl h1 h2 hq
theorem zm_m2 {co cp cc : ClassId} {ko kc : Class} {n k : Int32} (hk : s.vm.classes[co]? = some ko) (hkd : ko.kind = .array cp (.array .int)) (hk2 : s.vm.classes[cp]? = some kc) (hkd2 : kc.kind = .array cc .int) (hn : ¬ n < 0) (h0 : ¬ k < 0) (hl1 : n.toNatClampNeg ≤ e.platform.arrayLengthLimit) (hh1 : n.toNatClampNeg * 4 ≤ e.platform.maxHeapBytes) (hl : k.toNatClampNeg ≤ e.platform.arrayLengthLimit) (hh : k.toNatClampNeg * 4 ≤ e.platform.maxHeapBytes)
    (h1 : s.heap.size + 1 + n.toNatClampNeg ≤ e.platform.maxCells) (h2 : s.slotsUsed + n.toNatClampNeg + n.toNatClampNeg * k.toNatClampNeg ≤ e.platform.maxSlots) {Q : Addr → Pre} (hq : ∀ d' acts', Q s.heap.size d' acts' (zm_s s co cp n.toNatClampNeg k.toNatClampNeg n.toNatClampNeg)) : wp (multianewarray.make co [n, k]) Q E e d acts s := by
  generalize hN : n.toNatClampNeg = N at *
  generalize hM : k.toNatClampNeg = M at *
  have hf : ([k].find? (· < 0)) = none := by simp [h0]
  rw [multianewarray.make]
  simp only [wp_bind', W.ite, hn, if_false, wp_pure', W.theClass, hk, hkd, Option.some.injEq, exists_eq_left', hN]
  refine zm_na hk hkd hl1 hh1 rfl rfl (by omega) (by have := Nat.zero_le (N * M); omega) ?_
  simp only [hf]
  rw [ite_self, wp_bind', Std.Legacy.Range.forIn_eq_forIn_range']
  have hsz : ([:N] : Std.Legacy.Range).size = N := by simp [Std.Legacy.Range.size]
  rw [hsz]
  show wp (forIn (List.range' 0 N 1) PUnit.unit _) _ E e d acts _
  have z0 : s.pushCell (arrV co N fun _ => .null) = zm_s s co cp N M 0 := by
    show _ = s.pushCell (arrV co N _)
    congr 2
  refine wp_forIn_inv (fun rest s' => ∃ i, i ≤ N ∧ rest = List.range' i (N - i) ∧ s' = zm_s s co cp N M i) _ _ ⟨0, Nat.zero_le _, rfl, z0⟩ ?_ ?_
  · rintro x rest s' d' acts' Q' ⟨i, hi, hl9, rfl⟩ hnext
    have hlt : i < N := by
      rcases Nat.lt_or_ge i N with h | h
      · exact h
      · rw [show N - i = 0 from by omega] at hl9
        simp at hl9
    have hl8 := hl9
    rw [show N - i = (N - (i + 1)) + 1 from by omega, List.range'_succ] at hl8
    obtain ⟨rfl, hrest⟩ := List.cons.inj hl8
    obtain ⟨f1, f2, f3, f4⟩ := zm_s.facts s co cp N M x
    have hmul : x * M + M ≤ N * M := by
      have := Nat.mul_le_mul_right M (show x + 1 ≤ N from hlt)
      rw [Nat.succ_mul] at this
      exact this
    simp only [wp_bind']
    refine zm_m1 (by rw [f3]; exact hk2) hkd2 h0 (by rw [hM]; exact hl) (by rw [hM]; exact hh) (by rw [f1]; omega) (by rw [f4, hM]; omega) ?_
    rw [hM]
    have hlt0 : s.heap.size < (zm_s s co cp N M x).heap.size := by rw [f1]; omega
    simp only [wp_bind', W.writeLoc, wp_pure']
    refine ⟨zm_o co N s.heap.size x, by rw [State.heap_pushCell_of_lt (h := hlt0)]; exact f2, (fun h => by cases h), by rw [zm_o, arrV_size]; exact hlt, ?_, hnext _ _ _ ⟨x + 1, hlt, hrest, ?_⟩⟩
    · show State.fitsSlot _ co .none x _ = true
      simp [State.fitsSlot, State.slotType?, f3, hk, hkd, fits]
    · rw [f1, zm_o.set]
      rfl
  · rintro s' d' acts' ⟨i, hi, hl9, rfl⟩
    have hiN : i = N := by
      rcases Nat.lt_or_ge i N with h | h
      · rw [show N - i = (N - (i + 1)) + 1 from by omega, List.range'_succ] at hl9
        cases hl9
      · omega
    subst hiN
    simp only [wp_pure']
    exact hq _ _
end ZMW
section ZMS
variable {p : Program} {l : Launch} {e : Env} {R : Room} {s : State} {m : MethodId} {args : Array Value} {below : List Frame} {meth : Method} {c : Code} {T : State} {locs : List Loc} {cells slots : Nat}
theorem zm_stand (X : Stand p l e R s m args below meth c T locs cells slots) (co cp : ClassId) (n k : Nat) : ∀ i, Stand p l e R s m args below meth c (zm_s T co cp n k i) (locs ++ (List.range i).map fun j => ⟨T.heap.size, j⟩) (cells + 1 + i) (slots + n + i * k)
  | 0 => by
    have h := X.pushed (zm_o co n T.heap.size 0)
    rw [show (zm_o co n T.heap.size 0).slots.size = n from arrV_size _ _ _] at h
    simpa [zm_s] using h
  | i + 1 => by
    have h0 := zm_stand X co cp n k i
    obtain ⟨f1, f2, f3, f4⟩ := zm_s.facts T co cp n k i
    have hlt : T.heap.size < (zm_s T co cp n k i).heap.size := by rw [f1]; omega
    have hc : ((zm_s T co cp n k i).pushCell (zm_i cp k)).heap[T.heap.size]? = some (zm_o co n T.heap.size i) := by
      rw [State.heap_pushCell_of_lt (h := hlt)]
      exact f2
    have h := (h0.pushed (zm_i cp k)).stored hc i (.ref (T.heap.size + 1 + i))
    rw [show (zm_i cp k).slots.size = k from arrV_size _ _ _, zm_o.set] at h
    rw [List.range_succ, List.map_append, ← List.append_assoc, show slots + n + (i + 1) * k = slots + n + i * k + k by rw [Nat.succ_mul]; omega]
    exact h
end ZMS
/-- the word that int[][] is the row of int[] -/
def zm_w : Cond := Cond.arrayOver (.array .int)
theorem zm_w.of {args : Array Value} {s : State} (h : zm_w.before args s = true) : ∃ cp co ko, s.vm.findClass (FieldType.array .int).toString = some cp ∧ (s.vm.classes.findIdx? fun (x : Class) => match x.kind with | .array component _ => component == cp | _ => false) = some co ∧ s.vm.classes[co]? = some ko ∧ ko.kind = .array cp (.array .int) ∧ s.vm.findClass ("[" ++ (FieldType.array .int).toString) = some co := by
  unfold zm_w at h
  simp only [Cond.before, Cond.holds, Cond.value, beq_iff_eq] at h
  cases hc : s.vm.findClass (FieldType.array .int).toString with
  | none => simp [hc] at h
  | some cp =>
    simp only [hc, Option.bind_some, Option.bind_eq_some_iff, Option.map_eq_some_iff] at h
    obtain ⟨co, hi, ko, hk, hb⟩ := h
    obtain ⟨hlt, hp, -⟩ := Array.findIdx?_eq_some_iff_getElem.mp hi
    rw [(Array.getElem?_eq_some_iff.mp hk).2] at hp
    cases hkd : ko.kind with
    | array c2 ty =>
      rw [hkd] at hb hp
      simp at hb hp
      exact ⟨cp, co, ko, rfl, hi, hk, by rw [hkd, hp, hb.1], hb.2⟩
    | _ => rw [hkd] at hb; simp at hb
theorem zm_w.moved {args a' : Array Value} {u U : State} (hvm : u.vm.Alike U.vm) (h : zm_w.before args u = true) : zm_w.before a' U = true := by
  obtain ⟨cp, co, ko, h1, h2, h3, h4, h5⟩ := zm_w.of h
  obtain ⟨k', hk', he⟩ := hvm.2.2 _ _ h3
  have hi : (U.vm.classes.findIdx? fun (x : Class) => match x.kind with | .array component _ => component == cp | _ => false) = some co := by
    refine (va_idx_bare U.vm cp).symm.trans ?_
    first | rw [hvm.bare_eq] | rw [← hvm.bare_eq]
    exact (va_idx_bare u.vm cp).trans h2
  have hkind : k'.kind = .array cp (.array .int) := by rw [he]; exact h4
  have f1 : U.vm.findClass (FieldType.array .int).toString = some cp := by rw [hvm.findClass]; exact h1
  have f2 : U.vm.findClass ("[" ++ (FieldType.array .int).toString) = some co := by rw [hvm.findClass]; exact h5
  unfold zm_w Cond.before Cond.holds
  simp only [Cond.value]
  rw [f1, Option.bind_some]
  refine (congrArg (fun o : Option Nat => (o.bind (fun c => (U.vm.classes[c]?).map fun (k : Class) => match k.kind with | .array _ ty => decide (ty = FieldType.array .int) && decide (U.vm.findClass ("[" ++ (FieldType.array .int).toString) = some c) | _ => false) == some true)) hi).trans ?_
  simp [hk', hkind, f2]
section ZMT
variable {p : Program} {l : Launch} {e : Env} {R : Room} {s : State} {m : MethodId} {args : Array Value} {below : List Frame} {meth : Method} {c : Code} {T : State} {locs : List Loc} {cells slots : Nat}
theorem zm_step (X : Stand p l e R s m args below meth c T locs cells slots) (hexec : p.tables.exec = Jvm.exec) {own : String} {j : Nat} (hown : s.vm.findClass own = some m.cls) (hlink : (Cond.classLink own j ("[" ++ (FieldType.array .int).toString)).before args s = true) (hw : zm_w.before args s = true) (harr : (Cond.arrayClass .int).before args s = true)
    {g : JFrame} (hg : g.method = m) (hdg : decode c.code g.pc = .ok (.multianewarray j 2, 4)) {n k : Int32} {rest : List Value} (hst : g.stack = .int k :: .int n :: rest) (hn : ¬ n < 0) (hk : ¬ k < 0) (hb1 : n.toNatClampNeg ≤ 60000000) (hb2 : k.toNatClampNeg ≤ 60000000) (hcells : cells + (1 + n.toNatClampNeg) ≤ R.cells) (hslots : slots + (n.toNatClampNeg + n.toNatClampNeg * k.toNatClampNeg) ≤ R.slots) :
    ∃ (vm₁ : Vm) (co cp : ClassId), s.vm.findClass ("[" ++ (FieldType.array .int).toString) = some co ∧ s.vm.findClass (FieldType.array .int).toString = some cp ∧
      Stand p l e R s m args below meth c (zm_s (T.setVm vm₁) co cp n.toNatClampNeg k.toNatClampNeg n.toNatClampNeg) locs (cells + 1 + n.toNatClampNeg) (slots + n.toNatClampNeg + n.toNatClampNeg * k.toNatClampNeg) ∧
      ∀ target, Steps p.tables e below ((zm_s (T.setVm vm₁) co cp n.toNatClampNeg k.toNatClampNeg n.toNatClampNeg).setTop { g with pc := g.pc + 4, stack := .ref T.heap.size :: rest }) target → Steps p.tables e below (T.setTop g) target := by
  subst hg
  have hpl : e.platform.magicAccessors = ({} : Platform).magicAccessors := by rw [X.admits.platform]
  obtain ⟨cp, co, ko, w1, -, w3, w4, w5⟩ := zm_w.of hw
  obtain ⟨cp2, kc, cc, a1, a2, a3⟩ := Cond.arrayClass_spec harr
  obtain rfl : cp2 = cp := Option.some.inj (a1.symm.trans w1)
  obtain ⟨c0, hc0, hcl⟩ := Cond.classLink_spec hown hlink e.platform hpl
  cases w5.symm.trans hc0
  obtain ⟨g1, g2, g3⟩ := State.classEntry (e := e) X.warmed hcl
  generalize T.vm.noted g.method.cls j (.cls co) = vm₁ at g1 g2 g3
  obtain ⟨ko1, k1, k2⟩ := g2.alike.2.2 _ _ w3
  obtain ⟨kc1, k3, k4⟩ := g2.alike.2.2 _ _ a2
  have k5 : ko1.kind = .array cp2 (.array .int) := by rw [k2]; exact w4
  have k6 : kc1.kind = .array cc .int := by rw [k4]; exact a3
  have X1 := X.noted g2
  obtain ⟨r1, r2⟩ := X.roomAbove hcells hslots
  have XF := zm_stand X1 co cp2 n.toNatClampNeg k.toNatClampNeg n.toNatClampNeg
  refine ⟨vm₁, co, cp2, w5, w1, XF.dropFresh (fun x hx => ?_), fun target hrest => ?_⟩
  · obtain ⟨i, -, rfl⟩ := List.mem_map.mp hx
    exact X.heapGrown
  have q1 : n.toNatClampNeg ≤ e.platform.arrayLengthLimit := by rw [Launch.admits_arrayLengthLimit X.admits]; omega
  have q2 : n.toNatClampNeg * 4 ≤ e.platform.maxHeapBytes := by rw [Launch.admits_maxHeapBytes X.admits]; omega
  have q3 : k.toNatClampNeg ≤ e.platform.arrayLengthLimit := by rw [Launch.admits_arrayLengthLimit X.admits]; omega
  have q4 : k.toNatClampNeg * 4 ≤ e.platform.maxHeapBytes := by rw [Launch.admits_maxHeapBytes X.admits]; omega
  jvm_step X.here [hexec, hdg]
  simp only [multianewarray.sem, wp_bind', W.resolveClassAt_links (State.method?_setTop g X.here.top) g1]
  rw [W.popN, if_neg (by decide)]
  refine ⟨g, State.topJava?_setTop' (s := T.setVm vm₁) g X.here.top, [.int n, .int k], rest, rfl, hst, ?_⟩
  simp only [List.mapM_cons, List.mapM_nil, wp_bind', wp_pure']
  refine zm_m2 (ko := ko1) (kc := kc1) (cp := cp2) (cc := cc) k1 k5 k3 k6 hn hk q1 q2 q3 q4 (by show T.heap.size + 1 + _ ≤ _; omega) (by show T.slotsUsed + _ + _ ≤ _; omega) (fun d' acts' => ?_)
  have eS : ((T.setTop g).setVm vm₁).setTop { g with stack := rest } = (T.setVm vm₁).setTop { g with stack := rest } := by
    show ((T.setVm vm₁).setTop g).setTop _ = _
    rw [State.setTop_setTop]
  rw [eS, zm_s.top]
  simp only [wp_bind', W.mark, W.pushRef, State.topJava?_setTop' _ XF.here.top, Option.some.injEq, exists_eq_left', State.setTop_setTop, State.heap_setTop]
  intro acts
  simp [jvm, XF.here.top]
  exact hrest
end ZMT
