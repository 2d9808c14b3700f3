/-! FROM THE ABSTRACT MACHINE TO THE MACHINE, 2: one step. -/
/-- what holds all through a method: the machine, the code, the tables -/
def za_F (me : Nat) (D : va_G) (cA : Nat → ClassId) (p : Program) (R : Room) (s : State) (m : MethodId) (args : Array Value) (meth : Method) (c : Code) (w0 wz : za_W) (A : Nat → Prop) : Prop :=
  p.tables.exec = Jvm.exec ∧ c.code = za_cc me ∧ c.maxLocals = za_mx me ∧ s.vm.findClass (za_rn (za_ow me)) = some m.cls ∧ (∀ w ∈ za_tg, w.before args s = true) ∧ meth.sig.returnType = za_re me ∧ meth.locks = false ∧ va_K D vwCl (za_t cA) s ∧ (∀ w ∈ za_nl, va_Nw w s) ∧ c.exceptionTable.toList.map (fun h => (h.startPc, h.endPc, h.handlerPc, h.catchType)) = za_xt me ∧ (za_im me = true → meth.name = "<init>") ∧ R.frames = za_fr me ∧ R.locals = za_lo me ∧ R.cells = wz.1 - w0.1 ∧ R.slots = wz.2.1 - w0.2.1 ∧ zb_Z A s
theorem za_xt.no {me : Nat} {c : Code} (hex : c.exceptionTable.toList.map (fun h => (h.startPc, h.endPc, h.handlerPc, h.catchType)) = za_xt me) (h : me ≤ 186) : c.exceptionTable.toList = [] := by
  unfold za_xt at hex
  rw [if_neg (by omega), if_neg (by omega)] at hex
  exact List.map_eq_nil_iff.mp hex
theorem za_xt.plain {me : Nat} (h : me < zt_mp0.length) : za_xt me = [] := by
  have h : me < 187 := h
  unfold za_xt
  rw [if_neg (by omega), if_neg (by omega)]
theorem za_xt.one {me pc : Nat} {c : Code} (hex : c.exceptionTable.toList.map (fun h => (h.startPc, h.endPc, h.handlerPc, h.catchType)) = za_xt me) (hme : 186 < me) (p1 : (za_hr me).1 + 3 ≤ pc + 3) (p2 : pc + 3 < (za_hr me).2.1 + 3) : ∃ x : ExceptionTableEntry, c.exceptionTable.toList = [x] ∧ covers x pc = true ∧ x.catchType = 13 ∧ Cond.classLink (za_rn (za_ow me)) 13 "SortPacksModel$Broken" ∈ za_tg ∧ x.handlerPc = (za_hr me).2.2.1 := by
  have key : ∀ a b d : Nat, za_xt me = [(a, b, d, 13)] → za_ow me = 14 → ∃ x : ExceptionTableEntry, c.exceptionTable.toList = [x] ∧ covers x pc = true ∧ x.catchType = 13 ∧ Cond.classLink (za_rn (za_ow me)) 13 "SortPacksModel$Broken" ∈ za_tg ∧ x.handlerPc = (za_hr me).2.2.1 := by
    intro a b d h1 h2
    unfold za_hr at p1 p2
    unfold za_hr
    rw [h1] at hex p1 p2
    rw [h1, h2]
    have p1 : a + 3 ≤ pc + 3 := p1
    have p2 : pc + 3 < b + 3 := p2
    cases hl : c.exceptionTable.toList with
    | nil => rw [hl] at hex; cases hex
    | cons x t =>
      rw [hl] at hex
      obtain ⟨h3, h4⟩ := List.cons.inj hex
      obtain rfl := List.map_eq_nil_iff.mp h4
      have h5 : x.startPc = a ∧ x.endPc = b ∧ x.handlerPc = d ∧ x.catchType = 13 := by
        simpa using h3
      obtain ⟨h6, h7, h8, h9⟩ := h5
      refine ⟨x, rfl, ?_, h9, zw_lb, h8⟩
      unfold covers
      rw [h6, h7]
      simp
      omega
  by_cases c1 : me = 187
  · subst c1
    exact key 78 119 120 rfl rfl
  · by_cases c2 : me = 188
    · subst c2
      exact key 44 100 101 rfl rfl
    · exfalso
      unfold za_hr za_xt at p2
      rw [if_neg c1, if_neg c2] at p2
      have p2 : pc + 3 < 0 + 3 := p2
      omega
/-- the machine's heap and locals are those of the state -/
def za_I (D : va_G) (cA : Nat → ClassId) (A : Nat → Prop) (H0 H : Heap) (locs : List Loc) (ls : Array Slot) (nL : Nat) (ad : Nat → Nat) (l : za_L) (st : List Value) (w : za_W) : Prop :=
  va_P D vwCl (za_l ad cA w) H ∧ va_D A (za_l ad cA w) ∧ va_S A H0 H locs ∧ (∀ q, H0.size ≤ q → A q) ∧ za_kw w ∧ (∀ q ∈ l, za_k w.1 q.2) ∧ (∀ v ∈ st, za_k w.1 v) ∧ lv_has ls nL (l.map fun q => (q.1, za_v ad q.2))
/-- an outcome of the machine; the frame of a method's end; the end -/
def za_oc (ad : Nat → Nat) : za_O → Outcome
  | .inl v => .returned (v.map (za_v ad))
  | .inr a => .threw (ad a)
def za_FE (first : State) (t : State) (L : List Loc) (k n : Nat) : Prop := first.WarmedH t.vm ∧ first.sameButNew ({ t with vm := first.vm } : State) L k n
def za_MQ (below : List Frame) (Qc : Array Value → State → Outcome → State → Prop) (a : Array Value) (s : State) (mc ms : Nat) (free : Addr → Prop) : State → Prop := fun t =>
  ∃ o, t.status = .running ∧ Ended t below o ∧ Qc a s o t ∧ ∃ L, za_FE s t L mc ms ∧ ∀ q ∈ L, free q.base
theorem za_MQ.of {below : List Frame} {Qc : Array Value → State → Outcome → State → Prop} {a : Array Value} {s : State} {mc ms : Nat} {free : Addr → Prop} (t : State) (h : MQ below Qc a s mc ms free t) : za_MQ below Qc a s mc ms free t := by
  obtain ⟨o, h1, h2, h3, L, h4, h5⟩ := h
  exact ⟨o, h1, h2, h3, L, ⟨h4.2.1, h4.2.2⟩, h5⟩
theorem za_Wm {p : Program} {l : Launch} {e : Env} {R : Room} {s : State} {m : MethodId} {args : Array Value} {below : List Frame} {meth : Method} {c : Code} {H : Heap} {locs : List Loc} {cells slots : Nat} {Q Q' : State → Prop} {g : JFrame} (h : W p l e R s m args below meth c H locs cells slots Q g) (hq : ∀ t, Q t → Q' t) : W p l e R s m args below meth c H locs cells slots Q' g := by
  intro T hT X
  obtain ⟨t, h1, h2⟩ := h T hT X
  exact ⟨t, h1, hq t h2⟩
/-- the end of a method: it answers, or throws, as v says, in the world wz -/
def za_Q (D : va_G) (cA : Nat → ClassId) (A : Nat → Prop) (ad0 : Nat → Nat) (w0 : za_W) (v : za_O) (wz : za_W) : Array Value → State → Outcome → State → Prop := fun _ st oc t =>
  (∃ ad : Nat → Nat, (∀ k, k < w0.1 → ad k = ad0 k) ∧ oc = za_oc ad v ∧ va_P D vwCl (za_l ad cA wz) t.heap ∧ va_D A (za_l ad cA wz) ∧ za_kw wz ∧ (∀ x, v = .inl (some x) → za_k wz.1 x) ∧ ∀ a, v = .inr a → a < wz.1) ∧ va_F A st t

section ZS
variable {p : Program} {L : Launch} {e : Env} {R : Room} {s : State} {m : MethodId} {args : Array Value} {below : List Frame} {meth : Method} {c : Code} {me : Nat} {D : va_G} {cA : Nat → ClassId} {A : Nat → Prop} {ad0 : Nat → Nat} {w0 wz : za_W} {v : za_O} {X : za_S → Prop} {Y : za_Y}
/-- the goal at a state: the machine comes to the method's end -/
def za_Z (p : Program) (L : Launch) (e : Env) (R : Room) (s : State) (m : MethodId) (args : Array Value) (below : List Frame) (meth : Method) (c : Code) (me : Nat) (D : va_G) (cA : Nat → ClassId) (A : Nat → Prop) (ad0 : Nat → Nat) (w0 wz : za_W) (v : za_O) (pc : Nat) (l : za_L) (st : List Value) (w : za_W) : Prop :=
  (w.1 ≤ wz.1 ∧ w.2.1 ≤ wz.2.1) ∧ ∀ (ad : Nat → Nat) (H : Heap) (locs : List Loc) (ls : Array Slot) (cells slots : Nat), za_I D cA A s.heap H locs ls (za_mx me) ad l st w → (∀ k, k < w0.1 → ad k = ad0 k) → cells + w0.1 = w.1 → slots + w0.2.1 = w.2.1 →
    W p L e R s m args below meth c H locs cells slots (za_MQ below (za_Q D cA A ad0 w0 v wz) args s (wz.1 - w0.1) (wz.2.1 - w0.2.1) A) (F0 m pc ls (st.map (za_v ad)))
/-- a step that turns the stack alone -/
theorem za_Z.st {pc pc' : Nat} {l : za_L} {st st' : List Value} {w : za_W} (hz : za_Z p L e R s m args below meth c me D cA A ad0 w0 wz v pc' l st' w) (hk : za_kw w → (∀ q ∈ l, za_k w.1 q.2) → (∀ v ∈ st, za_k w.1 v) → ∀ v ∈ st', za_k w.1 v)
    (kk : ∀ (ad : Nat → Nat) (H : Heap) (locs : List Loc) (ls : Array Slot) (cells slots : Nat), za_I D cA A s.heap H locs ls (za_mx me) ad l st w → W p L e R s m args below meth c H locs cells slots (za_MQ below (za_Q D cA A ad0 w0 v wz) args s (wz.1 - w0.1) (wz.2.1 - w0.2.1) A) (F0 m pc' ls (st'.map (za_v ad))) → W p L e R s m args below meth c H locs cells slots (za_MQ below (za_Q D cA A ad0 w0 v wz) args s (wz.1 - w0.1) (wz.2.1 - w0.2.1) A) (F0 m pc ls (st.map (za_v ad)))) :
    za_Z p L e R s m args below meth c me D cA A ad0 w0 wz v pc l st w := by
  refine ⟨hz.1, fun ad H locs ls cells slots I hag hc hs => ?_⟩
  have I' := I
  obtain ⟨h1, h2, h3, h4, h5, h6, h7, h8⟩ := I'
  exact kk ad H locs ls cells slots I (hz.2 ad H locs ls cells slots ⟨h1, h2, h3, h4, h5, h6, hk h5 h6 h7, h8⟩ hag hc hs)
/-- a step that turns stack and locals -/
theorem za_Z.lo {pc pc' : Nat} {l l' : za_L} {st st' : List Value} {w : za_W} (hz : za_Z p L e R s m args below meth c me D cA A ad0 w0 wz v pc' l' st' w) (hk : (∀ q ∈ l, za_k w.1 q.2) → (∀ v ∈ st, za_k w.1 v) → (∀ v ∈ st', za_k w.1 v) ∧ ∀ q ∈ l', za_k w.1 q.2)
    (kk : ∀ (ad : Nat → Nat) (H : Heap) (locs : List Loc) (ls : Array Slot) (cells slots : Nat), za_I D cA A s.heap H locs ls (za_mx me) ad l st w → (∀ ls' : Array Slot, lv_has ls' (za_mx me) (l'.map fun q => (q.1, za_v ad q.2)) → W p L e R s m args below meth c H locs cells slots (za_MQ below (za_Q D cA A ad0 w0 v wz) args s (wz.1 - w0.1) (wz.2.1 - w0.2.1) A) (F0 m pc' ls' (st'.map (za_v ad)))) → W p L e R s m args below meth c H locs cells slots (za_MQ below (za_Q D cA A ad0 w0 v wz) args s (wz.1 - w0.1) (wz.2.1 - w0.2.1) A) (F0 m pc ls (st.map (za_v ad)))) :
    za_Z p L e R s m args below meth c me D cA A ad0 w0 wz v pc l st w := by
  refine ⟨hz.1, fun ad H locs ls cells slots I hag hc hs => ?_⟩
  have I' := I
  obtain ⟨h1, h2, h3, h4, h5, h6, h7, h8⟩ := I'
  obtain ⟨g1, g2⟩ := hk h6 h7
  exact kk ad H locs ls cells slots I (fun ls' hl => hz.2 ad H locs ls' cells slots ⟨h1, h2, h3, h4, h5, g2, g1, hl⟩ hag hc hs)
/-- a step that changes a cell -/
theorem za_Z.ch {pc pc' : Nat} {l : za_L} {st st' : List Value} {w : za_W} {k : Nat} {ce : za_C} (hz : za_Z p L e R s m args below meth c me D cA A ad0 w0 wz v pc' l st' (za_up w k ce)) (hk : za_kw w → (∀ v ∈ st, za_k w.1 v) → (∀ v ∈ st', za_k w.1 v) ∧ k < w.1 ∧ za_kc w.1 ce)
    (kk : ∀ (ad : Nat → Nat) (H : Heap) (locs : List Loc) (ls : Array Slot) (cells slots : Nat), za_I D cA A s.heap H locs ls (za_mx me) ad l st w → (∀ (H1 : Heap) (locs1 : List Loc), va_P D vwCl ((za_l ad cA w).set k (ad k, za_e ad cA ce)) H1 → va_D A ((za_l ad cA w).set k (ad k, za_e ad cA ce)) → va_S A s.heap H1 locs1 → W p L e R s m args below meth c H1 locs1 cells slots (za_MQ below (za_Q D cA A ad0 w0 v wz) args s (wz.1 - w0.1) (wz.2.1 - w0.2.1) A) (F0 m pc' ls (st'.map (za_v ad)))) → W p L e R s m args below meth c H locs cells slots (za_MQ below (za_Q D cA A ad0 w0 v wz) args s (wz.1 - w0.1) (wz.2.1 - w0.2.1) A) (F0 m pc ls (st.map (za_v ad)))) :
    za_Z p L e R s m args below meth c me D cA A ad0 w0 wz v pc l st w := by
  refine ⟨hz.1, fun ad H locs ls cells slots I hag hc hs => ?_⟩
  have I' := I
  obtain ⟨h1, h2, h3, h4, h5, h6, h7, h8⟩ := I'
  obtain ⟨g1, g2, g3⟩ := hk h5 h7
  refine kk ad H locs ls cells slots I (fun H1 locs1 hP hD hS => ?_)
  rw [za_l.set g2] at hP hD
  exact hz.2 ad H1 locs1 ls cells slots ⟨hP, hD, hS, h4, h5.up g2 g3, h6, g1, h8⟩ hag hc hs
/-- a step that makes a cell -/
theorem za_Z.mk {pc pc' : Nat} {l : za_L} {st r : List Value} {w : za_W} {n : Nat} {ce : za_C} (hRc : R.cells = wz.1 - w0.1) (hRs : R.slots = wz.2.1 - w0.2.1) (hz : za_Z p L e R s m args below meth c me D cA A ad0 w0 wz v pc' l (.ref w.1 :: r) (za_pu w n ce)) (hk : (∀ v ∈ st, za_k w.1 v) → ∀ v ∈ r, za_k w.1 v) (hc0 : ∀ k, za_kc k ce)
    (kk : ∀ (ad : Nat → Nat) (H : Heap) (locs : List Loc) (ls : Array Slot) (cells slots : Nat), za_I D cA A s.heap H locs ls (za_mx me) ad l st w → cells + 1 ≤ R.cells → slots + n ≤ R.slots → (∀ (q : Nat) (H1 : Heap), va_P D vwCl (za_l ad cA w ++ [(q, za_e ad cA ce)]) H1 → va_D A (za_l ad cA w ++ [(q, za_e ad cA ce)]) → va_S A s.heap H1 locs → W p L e R s m args below meth c H1 locs (cells + 1) (slots + n) (za_MQ below (za_Q D cA A ad0 w0 v wz) args s (wz.1 - w0.1) (wz.2.1 - w0.2.1) A) (F0 m pc' ls (.ref q :: r.map (za_v ad)))) → W p L e R s m args below meth c H locs cells slots (za_MQ below (za_Q D cA A ad0 w0 v wz) args s (wz.1 - w0.1) (wz.2.1 - w0.2.1) A) (F0 m pc ls (st.map (za_v ad)))) :
    za_Z p L e R s m args below meth c me D cA A ad0 w0 wz v pc l st w := by
  have hz1 : w.1 + 1 ≤ wz.1 := hz.1.1
  have hz2 : w.2.1 + n ≤ wz.2.1 := hz.1.2
  refine ⟨⟨by omega, by omega⟩, fun ad H locs ls cells slots I hag hc hs => ?_⟩
  have I' := I
  obtain ⟨h1, h2, h3, h4, h5, h6, h7, h8⟩ := I'
  refine kk ad H locs ls cells slots I (by omega) (by omega) (fun q H1 hP hD hS => ?_)
  have he : za_e (za_ad ad w.1 q) cA ce = za_e ad cA ce := za_e.agree (n := w.1) za_ad.old (hc0 w.1)
  rw [za_l.push (n := n) h5 he] at hP hD
  have h9 := hz.2 (za_ad ad w.1 q) H1 locs ls (cells + 1) (slots + n) ⟨hP, hD, hS, h4, h5.pu (hc0 _), fun q hq => (h6 q hq).mono (Nat.le_succ _), zk_mk (Nat.lt_succ_self _) (fun x hx => (hk h7 x hx).mono (Nat.le_succ _)), by rw [za_ls.agree za_ad.old h6]; exact h8⟩ (fun k hk9 => by rw [za_ad.old k (by omega)]; exact hag k hk9) (by show cells + 1 + w0.1 = w.1 + 1; omega) (by show slots + n + w0.2.1 = w.2.1 + n; omega)
  have e1 : ((Value.ref w.1 :: r).map (za_v (za_ad ad w.1 q))) = .ref q :: r.map (za_v ad) := by
    show Value.ref (za_ad ad w.1 q w.1) :: r.map (za_v (za_ad ad w.1 q)) = _
    rw [za_vs.agree za_ad.old (hk h7)]
    simp [za_ad]
  rw [e1] at h9
  exact h9
end ZS
