/-! FROM THE ABSTRACT MACHINE TO THE MACHINE, 7: every run of a method is a contract. -/
theorem za_lva (ad : Nat → Nat) : ∀ (i : Nat) (as : List Value), lv_args i (as.map (za_v ad)) = (lv_args i as).map (fun q => (q.1, za_v ad q.2))
  | _, [] => rfl
  | i, x :: as => by
    show (i, za_v ad x) :: lv_args (if (za_v ad x).category = 2 then i + 2 else i + 1) (as.map (za_v ad)) = (i, za_v ad x) :: (lv_args (if x.category = 2 then i + 2 else i + 1) as).map _
    rw [za_v.cat, za_lva ad]
theorem za_lvk {n : Nat} : ∀ (i : Nat) (as : List Value), (∀ x ∈ as, za_k n x) → ∀ q ∈ lv_args i as, za_k n q.2
  | _, [], _, q, hq => by cases hq
  | i, x :: as, h, q, hq => by
    rcases List.mem_cons.mp hq with rfl | hq
    · exact h x List.mem_cons_self
    · exact za_lvk _ as (zk_tl h) q hq
theorem za_aw.len (ad : Nat → Nat) : ∀ as : List Value, (lg_sl (as.map (za_v ad))).length = za_aw as
  | [] => rfl
  | x :: as => by
    have h := za_aw.len ad as
    have e : lg_sl ((x :: as).map (za_v ad)) = (if (za_v ad x).category = 2 then [.val (za_v ad x), .second] else [.val (za_v ad x)]) ++ lg_sl (as.map (za_v ad)) := rfl
    rw [e, List.length_append, h]
    show _ = x.category + za_aw as
    rw [za_v.cat]
    rcases lv_cat x with h | h <;> rw [h] <;> rfl
/-! worlds only grow -/
section ZP
variable {P : za_A → Prop}
theorem za_p1i.pm (h0 : P none) {st : List Value} {f : Int32 → List Value → za_A} (h : ∀ x0 x1, P (f x0 x1)) : P (za_p1i st f) := by
  unfold za_p1i
  split
  · exact h _ _
  · exact h0
theorem za_p2i.pm (h0 : P none) {st : List Value} {f : Int32 → Int32 → List Value → za_A} (h : ∀ x0 x1 x2, P (f x0 x1 x2)) : P (za_p2i st f) := by
  unfold za_p2i
  split
  · exact h _ _ _
  · exact h0
theorem za_p1l.pm (h0 : P none) {st : List Value} {f : Int64 → List Value → za_A} (h : ∀ x0 x1, P (f x0 x1)) : P (za_p1l st f) := by
  unfold za_p1l
  split
  · exact h _ _
  · exact h0
theorem za_p2l.pm (h0 : P none) {st : List Value} {f : Int64 → Int64 → List Value → za_A} (h : ∀ x0 x1 x2, P (f x0 x1 x2)) : P (za_p2l st f) := by
  unfold za_p2l
  split
  · exact h _ _ _
  · exact h0
theorem za_pil.pm (h0 : P none) {st : List Value} {f : Int64 → Int32 → List Value → za_A} (h : ∀ x0 x1 x2, P (f x0 x1 x2)) : P (za_pil st f) := by
  unfold za_pil
  split
  · exact h _ _ _
  · exact h0
theorem za_p1r.pm (h0 : P none) {st : List Value} {f : Nat → List Value → za_A} (h : ∀ x0 x1, P (f x0 x1)) : P (za_p1r st f) := by
  unfold za_p1r
  split
  · exact h _ _
  · exact h0
theorem za_pvr.pm (h0 : P none) {st : List Value} {f : Nat → Value → List Value → za_A} (h : ∀ x0 x1 x2, P (f x0 x1 x2)) : P (za_pvr st f) := by
  unfold za_pvr
  split
  · exact h _ _ _
  · exact h0
theorem za_p1.pm (h0 : P none) {st : List Value} {f : Value → List Value → za_A} (h : ∀ x0 x1, P (f x0 x1)) : P (za_p1 st f) := by
  unfold za_p1
  split
  · exact h _ _
  · exact h0
theorem za_p2.pm (h0 : P none) {st : List Value} {f : Value → Value → List Value → za_A} (h : ∀ x0 x1 x2, P (f x0 x1 x2)) : P (za_p2 st f) := by
  unfold za_p2
  split
  · exact h _ _ _
  · exact h0
theorem za_pir.pm (h0 : P none) {st : List Value} {f : Nat → Int32 → List Value → za_A} (h : ∀ x0 x1 x2, P (f x0 x1 x2)) : P (za_pir st f) := by
  unfold za_pir
  split
  · exact h _ _ _
  · exact h0
theorem za_piir.pm (h0 : P none) {st : List Value} {f : Nat → Int32 → Int32 → List Value → za_A} (h : ∀ x0 x1 x2 x3, P (f x0 x1 x2 x3)) : P (za_piir st f) := by
  unfold za_piir
  split
  · exact h _ _ _ _
  · exact h0
theorem za_plir.pm (h0 : P none) {st : List Value} {f : Nat → Int32 → Int64 → List Value → za_A} (h : ∀ x0 x1 x2 x3, P (f x0 x1 x2 x3)) : P (za_plir st f) := by
  unfold za_plir
  split
  · exact h _ _ _ _
  · exact h0
theorem za_prir.pm (h0 : P none) {st : List Value} {f : Nat → Int32 → Nat → List Value → za_A} (h : ∀ x0 x1 x2 x3, P (f x0 x1 x2 x3)) : P (za_prir st f) := by
  unfold za_prir
  split
  · exact h _ _ _ _
  · exact h0
theorem za_pcp.pm (h0 : P none) {st : List Value} {f : Nat → Int32 → Nat → Int32 → Int32 → List Value → za_A} (h : ∀ x0 x1 x2 x3 x4 x5, P (f x0 x1 x2 x3 x4 x5)) : P (za_pcp st f) := by
  unfold za_pcp
  split
  · exact h _ _ _ _ _ _
  · exact h0
theorem za_p5.pm (h0 : P none) {st : List Value} {f : Nat → List Value → za_A} (h : ∀ x0 x1, P (f x0 x1)) : P (za_p5 st f) := by
  unfold za_p5
  split
  · split
    · exact h _ _
    · exact h0
  · exact h0
theorem za_oi.pm (h0 : P none) {c : Option Value} {f : Int32 → za_A} (h : ∀ x0, P (f x0)) : P (za_oi c f) := by
  unfold za_oi
  split
  · exact h _
  · exact h0
theorem za_ol.pm (h0 : P none) {c : Option Value} {f : Int64 → za_A} (h : ∀ x0, P (f x0)) : P (za_ol c f) := by
  unfold za_ol
  split
  · exact h _
  · exact h0
theorem za_or.pm (h0 : P none) {c : Option Value} {f : Nat → za_A} (h : ∀ x0, P (f x0)) : P (za_or c f) := by
  unfold za_or
  split
  · exact h _
  · exact h0
theorem za_ov.pm (h0 : P none) {α : Type} {c : Option α} {f : α → za_A} (h : ∀ x0, P (f x0)) : P (za_ov c f) := by
  unfold za_ov
  split
  · exact h _
  · exact h0
theorem za_ai.pm (h0 : P none) {c : Option za_C} {f : Nat → Nat → (Nat → Int32) → za_A} (h : ∀ x0 x1 x2, P (f x0 x1 x2)) : P (za_ai c f) := by
  unfold za_ai
  split
  · exact h _ _ _
  · exact h0
theorem za_al.pm (h0 : P none) {c : Option za_C} {f : Nat → Nat → (Nat → Int64) → za_A} (h : ∀ x0 x1 x2, P (f x0 x1 x2)) : P (za_al c f) := by
  unfold za_al
  split
  · exact h _ _ _
  · exact h0
theorem za_aq.pm (h0 : P none) {c : Option za_C} {f : Nat → Nat → (Nat → Option Nat) → za_A} (h : ∀ x0 x1 x2, P (f x0 x1 x2)) : P (za_aq c f) := by
  unfold za_aq
  split
  · exact h _ _ _
  · exact h0
theorem za_ar.pm (h0 : P none) {c : Option za_C} {f : Nat → Nat → za_A} (h : ∀ x0 x1, P (f x0 x1)) : P (za_ar c f) := by
  unfold za_ar
  split
  · exact h _ _
  · exact h0
theorem za_ob.pm (h0 : P none) {c : Option za_C} {f : Nat → List Value → za_A} (h : ∀ x0 x1, P (f x0 x1)) : P (za_ob c f) := by
  unfold za_ob
  split
  · exact h _ _
  · exact h0
theorem za_if.pm (h0 : P none) {c : Prop} [Decidable c] {a : za_A} (h : c → P a) : P (za_if c a) := by
  unfold za_if
  split
  · rename_i hc
    exact h hc
  · exact h0
theorem za_ix.pm (h0 : P none) {i : Int32} {n : Nat} {f : Nat → za_A} (h : ∀ k, P (f k)) : P (za_ix i n f) := by
  unfold za_ix
  split
  · exact h0
  · exact h _
end ZP
def za_pm (w : za_W) : za_A → Prop
  | some (.inl s) => w.1 ≤ s.2.2.2.1 ∧ w.2.1 ≤ s.2.2.2.2.1
  | some (.inr (.inl q)) => q.1 < zt_mp0.length ∧ za_aw q.2.1 ≤ za_mx q.1 ∧ q.2.2.2.2.2 = w
  | some (.inr (.inr q)) => q.2 = w
  | none => True
set_option maxRecDepth 100000 in
theorem za_cv.pm {me mj pc : Nat} {l : za_L} {st : List Value} {w : za_W} : za_pm w (za_cv me mj pc l st w) := by
  unfold za_cv
  exact za_if.pm (P := za_pm w) trivial fun h1 => za_p1r.pm (P := za_pm w) trivial fun a r => za_if.pm (P := za_pm w) trivial fun _ => za_ob.pm (P := za_pm w) trivial fun _ _ => za_if.pm (P := za_pm w) trivial fun h2 => ⟨(za_rm.of h1).1, h2.2, rfl⟩
set_option maxRecDepth 100000 in
theorem za_cs.pm {me mj pc : Nat} {l : za_L} {st : List Value} {w : za_W} : za_pm w (za_cs me mj pc l st w) := by
  unfold za_cs
  exact za_if.pm (P := za_pm w) trivial fun h1 => za_if.pm (P := za_pm w) trivial fun _ => za_if.pm (P := za_pm w) trivial fun h2 => ⟨(za_rm.of h1).1, h2.2, rfl⟩
set_option maxRecDepth 100000 in
theorem za_ci.pm {me mj pc : Nat} {l : za_L} {st : List Value} {w : za_W} : za_pm w (za_ci me mj pc l st w) := by
  unfold za_ci
  exact za_if.pm (P := za_pm w) trivial fun h1 => za_p1r.pm (P := za_pm w) trivial fun a r => za_if.pm (P := za_pm w) trivial fun h2 => ⟨(za_rm.of h1).1, h2.2, rfl⟩
theorem za_br.pm {b : Prop} [Decidable b] {pc : Nat} {off : Int} {l : za_L} {st : List Value} {w : za_W} : za_pm w (za_br b pc off l st w) := by
  unfold za_br
  exact za_if.pm trivial fun _ => by split <;> exact ⟨Nat.le_refl _, Nat.le_refl _⟩
set_option maxRecDepth 100000 in
set_option maxHeartbeats 4000000 in
theorem za_x.pm {me : Nat} {i : Instr} {pc : Nat} {l : za_L} {st : List Value} {w : za_W} : za_pm w (za_x me i pc l st w) := by
  cases i
  all_goals first
    | exact trivial
    | exact ⟨Nat.le_refl _, Nat.le_refl _⟩
    | (dsimp only [za_x]
       repeat' first
         | exact trivial
         | exact ⟨Nat.le_refl _, Nat.le_refl _⟩
         | exact ⟨Nat.le_succ _, Nat.le_add_right _ _⟩
         | exact ⟨Nat.le_trans (Nat.le_succ _) (Nat.le_add_right _ _), Nat.le_trans (Nat.le_add_right _ _) (Nat.le_add_right _ _)⟩
         | exact rfl
         | exact za_cv.pm
         | exact za_cs.pm
         | exact za_ci.pm
         | exact za_br.pm
         | (apply za_if.pm trivial; intro _)
         | (apply za_ix.pm trivial; intro _)
         | (apply za_p1i.pm trivial; intro _ _)
         | (apply za_p2i.pm trivial; intro _ _ _)
         | (apply za_p1l.pm trivial; intro _ _)
         | (apply za_p2l.pm trivial; intro _ _ _)
         | (apply za_pil.pm trivial; intro _ _ _)
         | (apply za_p1r.pm trivial; intro _ _)
         | (apply za_pvr.pm trivial; intro _ _ _)
         | (apply za_p1.pm trivial; intro _ _)
         | (apply za_p2.pm trivial; intro _ _ _)
         | (apply za_pir.pm trivial; intro _ _ _)
         | (apply za_piir.pm trivial; intro _ _ _ _)
         | (apply za_plir.pm trivial; intro _ _ _ _)
         | (apply za_prir.pm trivial; intro _ _ _ _)
         | (apply za_pcp.pm trivial; intro _ _ _ _ _ _)
         | (apply za_oi.pm trivial; intro _)
         | (apply za_p5.pm trivial; intro _ _)
         | (apply za_ol.pm trivial; intro _)
         | (apply za_or.pm trivial; intro _)
         | (apply za_ov.pm trivial; intro _)
         | (apply za_ai.pm trivial; intro _ _ _)
         | (apply za_al.pm trivial; intro _ _ _)
         | (apply za_aq.pm trivial; intro _ _ _)
         | (apply za_ar.pm trivial; intro _ _)
         | (apply za_ob.pm trivial; intro _ _)
         | (unfold za_jp)
         | (unfold za_c1; split)
         | (unfold za_c2; split)
         | split)
set_option maxHeartbeats 4000000 in
/-- a run takes the machine from its state to the method's end -/
theorem za_key {L : Launch} {me : Nat} {wz : za_W} {v : za_O} {s' : za_S} (hB : za_B (za_M L) me v wz s') : (s'.2.2.2.1 ≤ wz.1 ∧ s'.2.2.2.2.1 ≤ wz.2.1) ∧ ∀ (p : Program) (e : Env) (R : Room) (s : State) (m : MethodId) (args : Array Value) (below : List Frame) (meth : Method) (c : Code) (D : va_G) (cA : Nat → ClassId) (A : Nat → Prop) (ad0 : Nat → Nat) (w : za_W), za_F me D cA p R s m args meth c w wz A → za_Z p L e R s m args below meth c me D cA A ad0 w wz v s'.1 s'.2.1 s'.2.2.1 s'.2.2.2 := by
  refine hB (fun s' => (s'.2.2.2.1 ≤ wz.1 ∧ s'.2.2.2.2.1 ≤ wz.2.1) ∧ ∀ (p : Program) (e : Env) (R : Room) (s : State) (m : MethodId) (args : Array Value) (below : List Frame) (meth : Method) (c : Code) (D : va_G) (cA : Nat → ClassId) (A : Nat → Prop) (ad0 : Nat → Nat) (w : za_W), za_F me D cA p R s m args meth c w wz A → za_Z p L e R s m args below meth c me D cA A ad0 w wz v s'.1 s'.2.1 s'.2.2.1 s'.2.2.2) ?_
  clear hB s'
  intro s' h
  obtain ⟨pc, l, st, w'⟩ := s'
  have step : ∀ (p : Program) (e : Env) (R : Room) (s : State) (m : MethodId) (args : Array Value) (below : List Frame) (meth : Method) (c : Code) (D : va_G) (cA : Nat → ClassId) (A : Nat → Prop) (ad0 : Nat → Nat) (w : za_W), za_F me D cA p R s m args meth c w wz A → za_Z p L e R s m args below meth c me D cA A ad0 w wz v pc l st w' := by
    intro p e R s m args below meth c D cA A ad0 w F
    unfold za_n at h
    cases hd : decode (za_cc me) pc with
    | error x => rw [hd] at h; exact h.elim
    | ok q =>
      obtain ⟨i, n⟩ := q
      rw [hd] at h
      dsimp only at h
      by_cases hn : za_lk1 i n = true
      · rw [if_pos hn] at h
        exact za_step F (fun s'' hs => hs.2 p e R s m args below meth c D cA A ad0 w F) hd hn h (fun hi => za_stepC F (fun s'' hs => hs.2 p e R s m args below meth c D cA A ad0 w F) hd hn h hi)
      · rw [if_neg hn] at h
        exact h.elim
  refine ⟨?_, step⟩
  have hpm : za_pm w' (za_n me (pc, l, st, w')) := by
    unfold za_n
    split
    · split
      · exact za_x.pm
      · exact trivial
    · exact trivial
  show w'.1 ≤ wz.1 ∧ w'.2.1 ≤ wz.2.1
  cases ha : za_n me (pc, l, st, w') with
  | none => rw [ha] at h; exact h.elim
  | some a =>
    rw [ha] at h hpm
    rcases a with s'' | q | q
    · exact ⟨Nat.le_trans hpm.1 h.1.1, Nat.le_trans hpm.2 h.1.2⟩
    · obtain ⟨o, w1, hY, hX⟩ := h
      obtain ⟨p1, p2, p3⟩ := hpm
      obtain ⟨y1, y2, -⟩ := hY p1 p2
      rw [p3] at y1 y2
      cases o with
      | inr x =>
        obtain ⟨-, hX⟩ := hX
        unfold za_tk at hX
        split at hX
        · exact ⟨Nat.le_trans y1 hX.2.2.2.1.1, Nat.le_trans y2 hX.2.2.2.1.2⟩
        · obtain ⟨-, rfl⟩ := hX
          exact ⟨y1, y2⟩
      | inl v1 => exact ⟨Nat.le_trans y1 hX.1.1, Nat.le_trans y2 hX.1.2⟩
    · obtain ⟨-, h2⟩ := h
      have h3 : q.2 = w' := hpm
      rw [← h3, h2]
      exact ⟨Nat.le_refl _, Nat.le_refl _⟩
set_option maxHeartbeats 4000000 in
/-- a run that ends in an answer is the method's contract, if the arguments have room among its locals -/
theorem za_close {L : Launch} {me : Nat} {as : List Value} {w wz : za_W} {v : za_O} (hm : me < zt_mp0.length) (haw : za_aw as ≤ za_mx me) (hB : za_B (za_M L) me v wz (0, lv_args 0 as, [], w)) : w.1 ≤ wz.1 ∧ w.2.1 ≤ wz.2.1 ∧ (za_kw w → (∀ x ∈ as, za_k w.1 x) → ∀ (D : va_G) (cA : Nat → ClassId) (ad : Nat → Nat) (sz : Nat),
    za_Mt L me as w v wz D cA ad sz) := by
  have key := za_key hB
  refine ⟨key.1.1, key.1.2, fun kw ka D cA ad sz => ?_⟩
  obtain ⟨k1, k2, k3, k4, k5, k6, k7⟩ := zt_w_of hm
  refine MetFree.of_bodyS (code := za_cc me) (maxLocals := za_mx me) (ret := za_re me) k4 ?_ ?_
  · intro args s m h hn
    obtain ⟨meth, c, h1, h2, h3, h4, h5, h6, -, -⟩ := Cond.code_spec hn (atoms_spec (ws := za_wq me) h _ List.mem_cons_self)
    exact ⟨meth, c, h1, h2, h3, h4, h5, h6⟩
  intro p e s m args below meth c s₁ B hml hv _
  have hh0 : s₁.heap = s.heap := by rw [B.state]; rfl
  suffices hW : W p L e (headSpec (za_wq me) (za_room me w wz)).room s m args below meth c s.heap [] 0 0 (za_MQ below (za_Q D cA (va_A (za_l ad cA w) sz) ad w v wz) args s (wz.1 - w.1) (wz.2.1 - w.2.1) (va_A (za_l ad cA w) sz)) (entryFrame m args (za_mx me)) by
    obtain ⟨t, a1, o, b1, b2, b3⟩ := hW s₁ hh0 (Stand.of_body B)
    exact ⟨t, o, a1, b1, b2, ⟨b3.1, b3.2⟩⟩
  have hex : c.exceptionTable.toList = [] := by
    obtain ⟨meth', c', hm', hc', -, -, -, -, ht', -⟩ := Cond.code_spec B.named (atoms_spec (ws := za_wq me) B.pre _ List.mem_cons_self)
    cases B.method.symm.trans hm'
    cases (Stand.of_body B).code.symm.trans hc'
    simpa using ht'
  obtain ⟨rfl, hsz, hP, hK, hD0, hnw, hZ⟩ := hv
  have hts := atoms_spec (ws := za_wq me) B.pre
  have hown : s.vm.findClass (za_y me).cls = some m.cls := findClass_of_methodNamed B.named
  have him := (name_of_methodNamed B.named B.method).1
  subst hsz
  have hD := hD0.self (sz := s.heap.size)
  have hl := lv_entry (as.map (za_v ad)) (n := za_mx me) (by rw [za_aw.len]; exact haw)
  rw [lg_entry_eq]
  generalize (lg_sl (as.map (za_v ad)) ++ List.replicate (za_mx me - (lg_sl (as.map (za_v ad))).length) Slot.unset).toArray = ls at hl ⊢
  rw [za_lva] at hl
  have F : za_F me D cA p (za_room me w wz) s m (as.map (za_v ad)).toArray meth c w wz (va_A (za_l ad cA w) s.heap.size) := ⟨B.exec, B.bytes, hml, by rw [k2]; exact hown, fun u hu => hts u (List.mem_cons_of_mem _ hu), B.returns, B.notSynchronized, hK, hnw, by rw [hex, za_xt.plain hm]; rfl, fun h => him.trans (k3 h), rfl, rfl, rfl, rfl, hZ⟩
  have hz := key.2 p e (za_room me w wz) s m (as.map (za_v ad)).toArray below meth c D cA (va_A (za_l ad cA w) s.heap.size) ad w F
  exact hz.2 ad s.heap [] ls 0 0 ⟨hP, hD, va_S.rf, fun q h => Or.inr h, kw, za_lvk 0 as ka, (fun _ h => by cases h), hl⟩ (fun _ _ => rfl) (Nat.zero_add _) (Nat.zero_add _)
/-- EVERY RUN IS A CONTRACT: what a method does in the abstract machine it does in the machine -/
theorem za_E.met {L : Launch} {me : Nat} {as : List Value} {w : za_W} {o : za_O} {w' : za_W} (h : za_E me as w o w') : za_M L me as w o w' := h (za_M L) (fun me as w o w' hB hm haw => za_close hm haw hB)
