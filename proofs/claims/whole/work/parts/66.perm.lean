/-! LOCALS IN ANY ORDER: a run that comes to an end does so too when its locals stand in another order, or there are more of them. -/
def Lk (l : za_L) : Prop := (l.map (·.1)).Nodup
def Lq (l l' : za_L) : Prop := Lk l ∧ Lk l' ∧ ∀ i v, za_ld l i = some v → za_ld l' i = some v
theorem ld_nil (i : Nat) : za_ld [] i = none := (rfl)
theorem ld_cons (q : Nat × Value) (l : za_L) (i : Nat) : za_ld (q :: l) i = if q.1 = i then some q.2 else za_ld l i := by
  unfold za_ld
  rw [List.find?_cons]
  by_cases h : q.1 = i
  · simp [h]
  · have : (q.1 == i) = false := by simpa using h
    rw [this, if_neg h]
theorem ld_no {l : za_L} {i : Nat} (h : i ∉ l.map (·.1)) : za_ld l i = none := by
  induction l with
  | nil => rfl
  | cons q l ih =>
    rw [List.map_cons, List.mem_cons] at h
    rw [ld_cons, if_neg (fun e => h (Or.inl e.symm)), ih (fun e => h (Or.inr e))]
theorem ld_filter {l : za_L} (hl : Lk l) (p : Nat × Value → Bool) (i : Nat) : za_ld (l.filter p) i = (za_ld l i).bind (fun v => if p (i, v) = true then some v else none) := by
  induction l with
  | nil => rfl
  | cons q l ih =>
    have hq : q.1 ∉ l.map (·.1) ∧ Lk l := by
      have := hl
      unfold Lk at this
      rw [List.map_cons, List.nodup_cons] at this
      exact this
    rw [List.filter_cons]
    by_cases hp : p q = true
    · rw [if_pos hp, ld_cons, ld_cons]
      by_cases e : q.1 = i
      · subst e
        rw [if_pos rfl, if_pos rfl]
        show some q.2 = if p (q.1, q.2) = true then some q.2 else none
        rw [if_pos hp]
      · rw [if_neg e, if_neg e, ih hq.2]
    · rw [if_neg hp, ih hq.2, ld_cons]
      by_cases e : q.1 = i
      · subst e
        rw [if_pos rfl, ld_no hq.1]
        show none = if p (q.1, q.2) = true then some q.2 else none
        rw [if_neg hp]
      · rw [if_neg e]
theorem lk_filter {l : za_L} (hl : Lk l) (p : Nat × Value → Bool) : Lk (l.filter p) := by
  unfold Lk at *
  exact List.Nodup.sublist (List.Sublist.map _ List.filter_sublist) hl
theorem lk_cons {l : za_L} {i : Nat} {v : Value} (hl : Lk l) (h : ∀ q ∈ l, ¬ q.1 = i) : Lk ((i, v) :: l) := by
  unfold Lk at *
  rw [List.map_cons, List.nodup_cons]
  refine ⟨fun hc => ?_, hl⟩
  obtain ⟨q, hq, e⟩ := List.mem_map.mp hc
  exact h q hq e
theorem Lq.s1 {l l' : za_L} (h : Lq l l') (i : Nat) (v : Value) : Lq (za_s1 l i v) (za_s1 l' i v) := by
  obtain ⟨h1, h2, h3⟩ := h
  unfold za_s1
  refine ⟨lk_cons (lk_filter h1 _) ?_, lk_cons (lk_filter h2 _) ?_, fun j v hv => ?_⟩
  · intro q hq e
    have := (List.mem_filter.mp hq).2
    simp [e] at this
  · intro q hq e
    have := (List.mem_filter.mp hq).2
    simp [e] at this
  · rw [ld_cons, ld_filter h1] at hv
    rw [ld_cons, ld_filter h2]
    split at hv
    · rename_i c
      rw [if_pos c]
      exact hv
    · rename_i c
      rw [if_neg c]
      cases hz : za_ld l j with
      | none => rw [hz] at hv; cases hv
      | some u =>
        rw [hz] at hv
        rw [h3 j u hz]
        exact hv
theorem Lq.s2 {l l' : za_L} (h : Lq l l') (i : Nat) (v : Value) : Lq (za_s2 l i v) (za_s2 l' i v) := by
  obtain ⟨h1, h2, h3⟩ := h
  unfold za_s2
  refine ⟨lk_cons (lk_filter h1 _) ?_, lk_cons (lk_filter h2 _) ?_, fun j v hv => ?_⟩
  · intro q hq e
    have := (List.mem_filter.mp hq).2
    simp [e] at this
  · intro q hq e
    have := (List.mem_filter.mp hq).2
    simp [e] at this
  · rw [ld_cons, ld_filter h1] at hv
    rw [ld_cons, ld_filter h2]
    split at hv
    · rename_i c
      rw [if_pos c]
      exact hv
    · rename_i c
      rw [if_neg c]
      cases hz : za_ld l j with
      | none => rw [hz] at hv; cases hv
      | some u =>
        rw [hz] at hv
        rw [h3 j u hz]
        exact hv
def zq : za_A → za_A → Prop
  | none, _ => True
  | some (.inl s), some (.inl s') => s.1 = s'.1 ∧ Lq s.2.1 s'.2.1 ∧ s.2.2 = s'.2.2
  | some (.inr (.inl q)), some (.inr (.inl q')) => q.1 = q'.1 ∧ q.2.1 = q'.2.1 ∧ q.2.2.1 = q'.2.2.1 ∧ Lq q.2.2.2.1 q'.2.2.2.1 ∧ q.2.2.2.2 = q'.2.2.2.2
  | some (.inr (.inr q)), some (.inr (.inr q')) => q = q'
  | _, _ => False
section ZQ
variable {l l' : za_L} {st : List Value} {w : za_W}
theorem zq.no {a : za_A} : zq none a := trivial
theorem zq.go (h : Lq l l') (pc : Nat) : zq (za_go pc l st w) (za_go pc l' st w) := ⟨rfl, h, rfl⟩
theorem zq.rt (o : za_O) : zq (za_rt o w) (za_rt o w) := (rfl : (o, w) = (o, w))
theorem zq.if {c : Prop} [Decidable c] {a b : za_A} (h : zq a b) : zq (za_if c a) (za_if c b) := by
  unfold za_if
  split
  · exact h
  · trivial
theorem zq.ite {c : Prop} [Decidable c] {a b a' b' : za_A} (h : zq a b) (h' : zq a' b') : zq (if c then a else a') (if c then b else b') := by
  split
  · exact h
  · exact h'
theorem zq.p1i {f g : Int32 → List Value → za_A} (h : ∀ a r, zq (f a r) (g a r)) : zq (za_p1i st f) (za_p1i st g) := by unfold za_p1i; split <;> first | exact h _ _ | trivial
theorem zq.p2i {f g : Int32 → Int32 → List Value → za_A} (h : ∀ a b r, zq (f a b r) (g a b r)) : zq (za_p2i st f) (za_p2i st g) := by unfold za_p2i; split <;> first | exact h _ _ _ | trivial
theorem zq.p1l {f g : Int64 → List Value → za_A} (h : ∀ a r, zq (f a r) (g a r)) : zq (za_p1l st f) (za_p1l st g) := by unfold za_p1l; split <;> first | exact h _ _ | trivial
theorem zq.p2l {f g : Int64 → Int64 → List Value → za_A} (h : ∀ a b r, zq (f a b r) (g a b r)) : zq (za_p2l st f) (za_p2l st g) := by unfold za_p2l; split <;> first | exact h _ _ _ | trivial
theorem zq.pil {f g : Int64 → Int32 → List Value → za_A} (h : ∀ a b r, zq (f a b r) (g a b r)) : zq (za_pil st f) (za_pil st g) := by unfold za_pil; split <;> first | exact h _ _ _ | trivial
theorem zq.p1r {f g : Nat → List Value → za_A} (h : ∀ a r, zq (f a r) (g a r)) : zq (za_p1r st f) (za_p1r st g) := by unfold za_p1r; split <;> first | exact h _ _ | trivial
theorem zq.pvr {f g : Nat → Value → List Value → za_A} (h : ∀ a b r, zq (f a b r) (g a b r)) : zq (za_pvr st f) (za_pvr st g) := by unfold za_pvr; split <;> first | exact h _ _ _ | trivial
theorem zq.p1 {f g : Value → List Value → za_A} (h : ∀ a r, zq (f a r) (g a r)) : zq (za_p1 st f) (za_p1 st g) := by unfold za_p1; split <;> first | exact h _ _ | trivial
theorem zq.p2 {f g : Value → Value → List Value → za_A} (h : ∀ a b r, zq (f a b r) (g a b r)) : zq (za_p2 st f) (za_p2 st g) := by unfold za_p2; split <;> first | exact h _ _ _ | trivial
theorem zq.pir {f g : Nat → Int32 → List Value → za_A} (h : ∀ a b r, zq (f a b r) (g a b r)) : zq (za_pir st f) (za_pir st g) := by unfold za_pir; split <;> first | exact h _ _ _ | trivial
theorem zq.piir {f g : Nat → Int32 → Int32 → List Value → za_A} (h : ∀ a b c r, zq (f a b c r) (g a b c r)) : zq (za_piir st f) (za_piir st g) := by unfold za_piir; split <;> first | exact h _ _ _ _ | trivial
theorem zq.plir {f g : Nat → Int32 → Int64 → List Value → za_A} (h : ∀ a b c r, zq (f a b c r) (g a b c r)) : zq (za_plir st f) (za_plir st g) := by unfold za_plir; split <;> first | exact h _ _ _ _ | trivial
theorem zq.prir {f g : Nat → Int32 → Nat → List Value → za_A} (h : ∀ a b c r, zq (f a b c r) (g a b c r)) : zq (za_prir st f) (za_prir st g) := by unfold za_prir; split <;> first | exact h _ _ _ _ | trivial
theorem zq.pcp {f g : Nat → Int32 → Nat → Int32 → Int32 → List Value → za_A} (h : ∀ a b c d e r, zq (f a b c d e r) (g a b c d e r)) : zq (za_pcp st f) (za_pcp st g) := by unfold za_pcp; split <;> first | exact h _ _ _ _ _ _ | trivial
theorem zq.p5 {f g : Nat → List Value → za_A} (h : ∀ a r, zq (f a r) (g a r)) : zq (za_p5 st f) (za_p5 st g) := by
  unfold za_p5
  split
  · exact zq.ite (h _ _) trivial
  · trivial
theorem zq.ldi (h : Lq l l') (k : Nat) {f g : Int32 → za_A} (hf : ∀ a, zq (f a) (g a)) : zq (za_oi (za_ld l k) f) (za_oi (za_ld l' k) g) := by
  cases e : za_ld l k with
  | none => trivial
  | some v =>
    rw [h.2.2 k v e]
    cases v <;> first | exact hf _ | trivial
theorem zq.ldl (h : Lq l l') (k : Nat) {f g : Int64 → za_A} (hf : ∀ a, zq (f a) (g a)) : zq (za_ol (za_ld l k) f) (za_ol (za_ld l' k) g) := by
  cases e : za_ld l k with
  | none => trivial
  | some v =>
    rw [h.2.2 k v e]
    cases v <;> first | exact hf _ | trivial
theorem zq.ldr (h : Lq l l') (k : Nat) {f g : Nat → za_A} (hf : ∀ a, zq (f a) (g a)) : zq (za_or (za_ld l k) f) (za_or (za_ld l' k) g) := by
  cases e : za_ld l k with
  | none => trivial
  | some v =>
    rw [h.2.2 k v e]
    cases v <;> first | exact hf _ | trivial
theorem zq.oi {c : Option Value} {f g : Int32 → za_A} (h : ∀ a, zq (f a) (g a)) : zq (za_oi c f) (za_oi c g) := by unfold za_oi; split <;> first | exact h _ | trivial
theorem zq.ol {c : Option Value} {f g : Int64 → za_A} (h : ∀ a, zq (f a) (g a)) : zq (za_ol c f) (za_ol c g) := by unfold za_ol; split <;> first | exact h _ | trivial
theorem zq.or {c : Option Value} {f g : Nat → za_A} (h : ∀ a, zq (f a) (g a)) : zq (za_or c f) (za_or c g) := by unfold za_or; split <;> first | exact h _ | trivial
theorem zq.ov {α : Type} {c : Option α} {f g : α → za_A} (h : ∀ a, zq (f a) (g a)) : zq (za_ov c f) (za_ov c g) := by unfold za_ov; split <;> first | exact h _ | trivial
theorem zq.ai {c : Option za_C} {f g : Nat → Nat → (Nat → Int32) → za_A} (h : ∀ a b d, zq (f a b d) (g a b d)) : zq (za_ai c f) (za_ai c g) := by unfold za_ai; split <;> first | exact h _ _ _ | trivial
theorem zq.al {c : Option za_C} {f g : Nat → Nat → (Nat → Int64) → za_A} (h : ∀ a b d, zq (f a b d) (g a b d)) : zq (za_al c f) (za_al c g) := by unfold za_al; split <;> first | exact h _ _ _ | trivial
theorem zq.aq {c : Option za_C} {f g : Nat → Nat → (Nat → Option Nat) → za_A} (h : ∀ a b d, zq (f a b d) (g a b d)) : zq (za_aq c f) (za_aq c g) := by unfold za_aq; split <;> first | exact h _ _ _ | trivial
theorem zq.ar {c : Option za_C} {f g : Nat → Nat → za_A} (h : ∀ a b, zq (f a b) (g a b)) : zq (za_ar c f) (za_ar c g) := by unfold za_ar; split <;> first | exact h _ _ | trivial
theorem zq.ob {c : Option za_C} {f g : Nat → List Value → za_A} (h : ∀ a b, zq (f a b) (g a b)) : zq (za_ob c f) (za_ob c g) := by unfold za_ob; split <;> first | exact h _ _ | trivial
theorem zq.ix {i : Int32} {n : Nat} {f g : Nat → za_A} (h : ∀ a, zq (f a) (g a)) : zq (za_ix i n f) (za_ix i n g) := by
  unfold za_ix
  split
  · trivial
  · exact h _
theorem zq.jp (h : Lq l l') (pc : Nat) (off : Int) : zq (za_jp pc off l st w) (za_jp pc off l' st w) := zq.if (zq.go h _)
theorem zq.br (h : Lq l l') {c : Prop} [Decidable c] (pc : Nat) (off : Int) : zq (za_br c pc off l st w) (za_br c pc off l' st w) := zq.if (zq.ite (zq.go h _) (zq.go h _))
theorem zq.c1 (h : Lq l l') (k : ClassFile.Cond) (pc : Nat) (off : Int) (x : Int32) : zq (za_c1 k pc off l x st w) (za_c1 k pc off l' x st w) := by cases k <;> exact zq.br h _ _
theorem zq.c2 (h : Lq l l') (k : ClassFile.Cond) (pc : Nat) (off : Int) (x y : Int32) : zq (za_c2 k pc off l x y st w) (za_c2 k pc off l' x y st w) := by cases k <;> exact zq.br h _ _
theorem zq.cl (h : Lq l l') (mj pc : Nat) (as st : List Value) : zq (some (.inr (.inl (mj, as, pc, l, st, w)))) (some (.inr (.inl (mj, as, pc, l', st, w)))) := ⟨rfl, rfl, rfl, h, rfl⟩
theorem zq.cv (h : Lq l l') (me mj pc : Nat) : zq (za_cv me mj pc l st w) (za_cv me mj pc l' st w) := by
  unfold za_cv
  with_reducible exact zq.if (zq.p1r fun _ _ => zq.if (zq.ob fun _ _ => zq.if (zq.cl h _ _ _ _)))
theorem zq.cs (h : Lq l l') (me mj pc : Nat) : zq (za_cs me mj pc l st w) (za_cs me mj pc l' st w) := by
  unfold za_cs
  with_reducible exact zq.if (zq.if (zq.if (zq.cl h _ _ _ _)))
theorem zq.ci (h : Lq l l') (me mj pc : Nat) : zq (za_ci me mj pc l st w) (za_ci me mj pc l' st w) := by
  unfold za_ci
  with_reducible exact zq.if (zq.p1r fun _ _ => zq.if (zq.cl h _ _ _ _))
set_option maxRecDepth 100000 in
set_option maxHeartbeats 4000000 in
theorem zq.x (h : Lq l l') (me : Nat) (i : Instr) (pc : Nat) : zq (za_x me i pc l st w) (za_x me i pc l' st w) := by
  cases i <;> unfold za_x <;> dsimp only <;>
  (repeat (first
    | with_reducible exact zq.no
    | with_reducible exact zq.go h _
    | with_reducible exact zq.go (h.s1 _ _) _
    | with_reducible exact zq.go (h.s2 _ _) _
    | with_reducible exact zq.rt _
    | with_reducible exact zq.jp h _ _
    | with_reducible exact zq.c1 h _ _ _ _
    | with_reducible exact zq.c2 h _ _ _ _ _
    | with_reducible exact zq.cv h _ _ _
    | with_reducible exact zq.cs h _ _ _
    | with_reducible exact zq.ci h _ _ _
    | with_reducible refine zq.if ?_
    | with_reducible refine zq.ite ?_ ?_
    | with_reducible refine zq.p1i fun _ _ => ?_
    | with_reducible refine zq.p2i fun _ _ _ => ?_
    | with_reducible refine zq.p1l fun _ _ => ?_
    | with_reducible refine zq.p2l fun _ _ _ => ?_
    | with_reducible refine zq.pil fun _ _ _ => ?_
    | with_reducible refine zq.p1r fun _ _ => ?_
    | with_reducible refine zq.pvr fun _ _ _ => ?_
    | with_reducible refine zq.p1 fun _ _ => ?_
    | with_reducible refine zq.p2 fun _ _ _ => ?_
    | with_reducible refine zq.pir fun _ _ _ => ?_
    | with_reducible refine zq.piir fun _ _ _ _ => ?_
    | with_reducible refine zq.plir fun _ _ _ _ => ?_
    | with_reducible refine zq.prir fun _ _ _ _ => ?_
    | with_reducible refine zq.pcp fun _ _ _ _ _ _ => ?_
    | with_reducible refine zq.p5 fun _ _ => ?_
    | with_reducible refine zq.ldi h _ fun _ => ?_
    | with_reducible refine zq.ldl h _ fun _ => ?_
    | with_reducible refine zq.ldr h _ fun _ => ?_
    | with_reducible refine zq.ov fun _ => ?_
    | with_reducible refine zq.ai fun _ _ _ => ?_
    | with_reducible refine zq.al fun _ _ _ => ?_
    | with_reducible refine zq.aq fun _ _ _ => ?_
    | with_reducible refine zq.ar fun _ _ => ?_
    | with_reducible refine zq.ob fun _ _ => ?_
    | with_reducible refine zq.ix fun _ => ?_
    | (split <;> first | trivial | exact zq.if (zq.rt _))))
end ZQ
theorem zq.n {l l' : za_L} (h : Lq l l') (me pc : Nat) (st : List Value) (w : za_W) : zq (za_n me (pc, l, st, w)) (za_n me (pc, l', st, w)) := by
  unfold za_n
  dsimp only
  split
  · exact zq.ite (zq.x h _ _ _) trivial
  · trivial
theorem za_B.pm {Y : za_Y} {me : Nat} {o : za_O} {w : za_W} {s : za_S} (h : za_B Y me o w s) : ∀ l', Lq s.2.1 l' → za_B Y me o w (s.1, l', s.2.2) := by
  refine h (fun s => ∀ l', Lq s.2.1 l' → za_B Y me o w (s.1, l', s.2.2)) ?_
  rintro ⟨pc, l, st, w0⟩ hs l' hl
  refine za_B.step ?_
  have hq := zq.n hl me pc st w0
  show za_d me Y _ _ (za_n me (pc, l', st, w0))
  generalize za_n me (pc, l, st, w0) = a at hs hq
  generalize za_n me (pc, l', st, w0) = b at hq
  match a, b, hq, hs with
  | none, _, _, hs => exact False.elim hs
  | some (.inl s), some (.inl s'), ⟨e1, e2, e3⟩, hs =>
    have := hs s'.2.1 e2
    rw [e1, e3] at this
    exact this
  | some (.inr (.inr q)), some (.inr (.inr q')), e, hs =>
    have e : q = q' := e
    subst e
    exact hs
  | some (.inr (.inl q)), some (.inr (.inl q')), ⟨e1, e2, e3, e4, e5⟩, hs =>
    obtain ⟨mj, as, pc1, l1, st1, w1⟩ := q
    obtain ⟨mj2, as2, pc2, l2, st2, w2⟩ := q'
    dsimp only at e1 e2 e3 e4 e5
    subst e1 e2 e3
    cases e5
    obtain ⟨o2, w2, h1, h2⟩ := hs
    refine ⟨o2, w2, h1, ?_⟩
    match o2, h2 with
    | .inl v, h2 => exact h2 l2 e4
    | .inr x, h2 =>
      refine ⟨h2.1, ?_⟩
      have h3 := h2.2
      unfold za_tk at h3 ⊢
      split at h3
      · rename_i c
        rw [if_pos c]
        exact ⟨h3.1, h3.2.1, h3.2.2.1, h3.2.2.2 l2 e4⟩
      · rename_i c
        rw [if_neg c]
        exact h3
theorem za_R.pm {me pc : Nat} {l l' : za_L} {st : List Value} {w : za_W} {G : za_O → za_W → Prop} (hq : Lq l' l) (h : za_R me (pc, l', st, w) G) : za_R me (pc, l, st, w) G := by
  obtain ⟨o, w', h1, h2⟩ := h
  exact ⟨o, w', h1.pm l hq, h2⟩
def lk_b : za_L → Bool
  | [] => true
  | q :: r => !(r.any (fun p => p.1 == q.1)) && lk_b r
def lk_a (l : za_L) : za_L → Prop
  | [] => True
  | q :: r => za_ld l q.1 = some q.2 ∧ lk_a l r
theorem lk_b.k : ∀ {l : za_L}, lk_b l = true → Lk l
  | [], _ => List.nodup_nil
  | q :: r, h => by
    have h : (!(r.any (fun p => p.1 == q.1)) && lk_b r) = true := h
    rw [Bool.and_eq_true, Bool.not_eq_true'] at h
    refine lk_cons (i := q.1) (v := q.2) (lk_b.k h.2) (fun p hp e => ?_)
    have h1 := List.any_eq_false.mp h.1 p hp
    simp [e] at h1
theorem lk_a.k {l : za_L} : ∀ {r : za_L}, lk_a l r → ∀ i v, za_ld r i = some v → za_ld l i = some v
  | [], _, i, v, h => by cases h
  | q :: r, h, i, v, hv => by
    rw [ld_cons] at hv
    split at hv
    · rename_i c
      cases hv
      rw [← c]
      exact h.1
    · exact lk_a.k h.2 i v hv
/-- fewer locals, in another order -/
theorem Lq.ok {l l' : za_L} (h1 : lk_b l = true) (h2 : lk_b l' = true) (h : lk_a l l') : Lq l' l := ⟨lk_b.k h2, lk_b.k h1, lk_a.k h⟩
