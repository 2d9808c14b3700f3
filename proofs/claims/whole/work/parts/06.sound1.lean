/-! FROM THE ABSTRACT MACHINE TO THE MACHINE, 1: worlds as lists of cells, what is kept, the readers of za_x's branches. -/
def za_v (ad : Nat → Nat) : Value → Value
  | .ref k => .ref (ad k)
  | v => v
def za_e (ad : Nat → Nat) (cA : Nat → ClassId) : za_C → va_E
  | .inl (t, n, .inl f) => .inl (cA t, n, .inl f)
  | .inl (t, n, .inr (.inl f)) => .inl (cA t, n, .inr (.inl f))
  | .inl (t, n, .inr (.inr (.inl f))) => .inl (cA t, n, .inr (.inr (.inl f)))
  | .inl (t, n, .inr (.inr (.inr (.inl f)))) => .inl (cA t, n, .inr (.inr (.inr (.inl f))))
  | .inl (t, n, .inr (.inr (.inr (.inr f)))) => .inl (cA t, n, .inr (.inr (.inr (.inr fun j => (f j).map ad))))
  | .inr (c, fs) => .inr (c, fs.map (za_v ad))
def za_l (ad : Nat → Nat) (cA : Nat → ClassId) (w : za_W) : va_W := (List.range w.1).map fun k => (ad k, za_e ad cA ((w.2.2 k).getD (.inr (0, []))))
def za_t (cA : Nat → ClassId) : List (ClassId × FieldType) := zt_ty.mapIdx fun t ty => (cA t, ty)
def za_k (n : Nat) : Value → Prop
  | .ref k => k < n
  | _ => True
def za_kc (n : Nat) : za_C → Prop
  | .inl (_, _, .inr (.inr (.inr (.inr f)))) => ∀ j k, f j = some k → k < n
  | .inr (_, fs) => ∀ v ∈ fs, za_k n v
  | _ => True
def za_kw (w : za_W) : Prop := ∀ k c, w.2.2 k = some c → k < w.1 ∧ za_kc w.1 c
theorem za_v.cat (ad : Nat → Nat) (v : Value) : (za_v ad v).category = v.category := by cases v <;> rfl
theorem za_v.cats (ad : Nat → Nat) (st : List Value) : ((st.map (za_v ad)).map fun v => v.category) = st.map fun v => v.category := by
  rw [List.map_map]
  exact List.map_congr_left (fun v _ => za_v.cat ad v)
theorem za_k.mono {n m : Nat} (h : n ≤ m) {v : Value} (hv : za_k n v) : za_k m v := by
  cases v <;> first | trivial | exact Nat.lt_of_lt_of_le hv h
theorem za_kc.mono {n m : Nat} (h : n ≤ m) : ∀ {c : za_C}, za_kc n c → za_kc m c
  | .inl (_, _, .inl _), _ => trivial
  | .inl (_, _, .inr (.inl _)), _ => trivial
  | .inl (_, _, .inr (.inr (.inl _))), _ => trivial
  | .inl (_, _, .inr (.inr (.inr (.inl _)))), _ => trivial
  | .inl (_, _, .inr (.inr (.inr (.inr _)))), hc => fun j k hj => Nat.lt_of_lt_of_le (hc j k hj) h
  | .inr (_, _), hc => fun v hv => (hc v hv).mono h
theorem za_v.agree {ad ad' : Nat → Nat} {n : Nat} (h : ∀ k, k < n → ad' k = ad k) {v : Value} (hv : za_k n v) : za_v ad' v = za_v ad v := by
  cases v <;> first | rfl | exact congrArg Value.ref (h _ hv)
theorem za_vs.agree {ad ad' : Nat → Nat} {n : Nat} (h : ∀ k, k < n → ad' k = ad k) {st : List Value} (hv : ∀ v ∈ st, za_k n v) : st.map (za_v ad') = st.map (za_v ad) := List.map_congr_left (fun v m => za_v.agree h (hv v m))
theorem za_ls.agree {ad ad' : Nat → Nat} {n : Nat} (h : ∀ k, k < n → ad' k = ad k) {l : za_L} (hv : ∀ q ∈ l, za_k n q.2) : l.map (fun q => (q.1, za_v ad' q.2)) = l.map (fun q => (q.1, za_v ad q.2)) := List.map_congr_left (fun q m => by rw [za_v.agree h (hv q m)])
theorem za_e.agree {ad ad' : Nat → Nat} {cA : Nat → ClassId} {n : Nat} (h : ∀ k, k < n → ad' k = ad k) : ∀ {c : za_C}, za_kc n c → za_e ad' cA c = za_e ad cA c
  | .inl (_, _, .inl _), _ => rfl
  | .inl (_, _, .inr (.inl _)), _ => rfl
  | .inl (_, _, .inr (.inr (.inl _))), _ => rfl
  | .inl (_, _, .inr (.inr (.inr (.inl _)))), _ => rfl
  | .inl (t, m, .inr (.inr (.inr (.inr f)))), hc => by
    have e : (fun j => (f j).map ad') = fun j => (f j).map ad := by
      funext j
      cases hj : f j with
      | none => rfl
      | some k => exact congrArg some (h k (hc j k hj))
    show (Sum.inl (cA t, m, .inr (.inr (.inr (.inr fun j => (f j).map ad')))) : va_E) = _
    rw [e]
    rfl
  | .inr (c, fs), hc => by
    show (Sum.inr (c, fs.map (za_v ad')) : va_E) = .inr (c, fs.map (za_v ad))
    rw [za_vs.agree h hc]
theorem za_l.len (ad : Nat → Nat) (cA : Nat → ClassId) (w : za_W) : (za_l ad cA w).length = w.1 := by simp [za_l]
theorem za_l.get (ad : Nat → Nat) (cA : Nat → ClassId) (w : za_W) {k : Nat} (hk : k < w.1) : (za_l ad cA w)[k]? = some (ad k, za_e ad cA ((w.2.2 k).getD (.inr (0, [])))) := by
  unfold za_l
  rw [List.getElem?_map, List.getElem?_range hk]
  rfl
theorem za_l.at {ad : Nat → Nat} {cA : Nat → ClassId} {w : za_W} (kw : za_kw w) {k : Nat} {c : za_C} (h : w.2.2 k = some c) : (za_l ad cA w)[k]? = some (ad k, za_e ad cA c) := by
  rw [za_l.get ad cA w (kw k c h).1, h]
  rfl
theorem za_l.set {ad : Nat → Nat} {cA : Nat → ClassId} {w : za_W} {k : Nat} {c : za_C} (hk : k < w.1) : (za_l ad cA w).set k (ad k, za_e ad cA c) = za_l ad cA (za_up w k c) := by
  apply List.ext_getElem?
  intro j
  by_cases hj : j < w.1
  · have hj' : j < (za_up w k c).1 := hj
    rw [za_l.get ad cA (za_up w k c) hj']
    by_cases e : j = k
    · subst e
      rw [List.getElem?_set_self (by rw [za_l.len]; exact hj)]
      simp [za_up]
    · rw [List.getElem?_set_ne (Ne.symm e), za_l.get ad cA w hj]
      simp [za_up, e]
  · rw [List.getElem?_eq_none (by rw [List.length_set, za_l.len]; omega), List.getElem?_eq_none (by rw [za_l.len]; exact Nat.not_lt.mp hj)]
theorem za_l.agree {ad ad' : Nat → Nat} {cA : Nat → ClassId} {w : za_W} (kw : za_kw w) (h : ∀ k, k < w.1 → ad' k = ad k) : za_l ad' cA w = za_l ad cA w := by
  unfold za_l
  apply List.map_congr_left
  intro k hk
  have hk : k < w.1 := List.mem_range.mp hk
  rw [h k hk]
  cases hc : w.2.2 k with
  | none => rfl
  | some c => exact congrArg (fun x => (ad k, x)) (za_e.agree (cA := cA) h (kw k c hc).2)
def za_ad (ad : Nat → Nat) (n q : Nat) : Nat → Nat := fun j => if j = n then q else ad j
theorem za_ad.old {ad : Nat → Nat} {n q : Nat} : ∀ k, k < n → za_ad ad n q k = ad k := fun k hk => by
  unfold za_ad
  rw [if_neg (by omega)]
theorem za_l.push {ad : Nat → Nat} {cA : Nat → ClassId} {w : za_W} (kw : za_kw w) {q n : Nat} {c : za_C} {e : va_E} (he : za_e (za_ad ad w.1 q) cA c = e) : za_l ad cA w ++ [(q, e)] = za_l (za_ad ad w.1 q) cA (za_pu w n c) := by
  unfold za_l
  show _ = (List.range (w.1 + 1)).map _
  rw [List.range_succ, List.map_append]
  congr 1
  · apply List.map_congr_left
    intro k hk
    have hk : k < w.1 := List.mem_range.mp hk
    rw [za_ad.old k hk]
    have e1 : (za_pu w n c).2.2 k = w.2.2 k := by
      show (if k = w.1 then some c else w.2.2 k) = _
      rw [if_neg (by omega)]
    rw [e1]
    cases hc : w.2.2 k with
    | none => rfl
    | some d => exact congrArg (fun x => (ad k, x)) (za_e.agree (cA := cA) za_ad.old (kw k d hc).2).symm
  · have e1 : (za_pu w n c).2.2 w.1 = some c := by
      show (if w.1 = w.1 then some c else w.2.2 w.1) = _
      rw [if_pos rfl]
    show [(q, e)] = [(za_ad ad w.1 q w.1, za_e (za_ad ad w.1 q) cA (((za_pu w n c).2.2 w.1).getD (.inr (0, []))))]
    rw [e1, ← he]
    simp [za_ad]
theorem za_kw.up {w : za_W} (kw : za_kw w) {k : Nat} {c : za_C} (hk : k < w.1) (hc : za_kc w.1 c) : za_kw (za_up w k c) := by
  intro j d hj
  have hj : (if j = k then some c else w.2.2 j) = some d := hj
  by_cases e : j = k
  · rw [if_pos e] at hj
    cases hj
    exact ⟨by rw [e]; exact hk, hc⟩
  · rw [if_neg e] at hj
    exact kw j d hj
theorem za_kw.pu {w : za_W} (kw : za_kw w) {n : Nat} {c : za_C} (hc : za_kc (w.1 + 1) c) : za_kw (za_pu w n c) := by
  intro j d hj
  have hj : (if j = w.1 then some c else w.2.2 j) = some d := hj
  by_cases e : j = w.1
  · rw [if_pos e] at hj
    cases hj
    exact ⟨by show j < w.1 + 1; omega, hc⟩
  · rw [if_neg e] at hj
    obtain ⟨h1, h2⟩ := kw j d hj
    exact ⟨Nat.lt_succ_of_lt h1, h2.mono (Nat.le_succ _)⟩
theorem za_t.at (cA : Nat → ClassId) {t : Nat} {ty : FieldType} (h : zt_ty[t]? = some ty) : (za_t cA)[t]? = some (cA t, ty) := by
  unfold za_t
  rw [List.getElem?_mapIdx, h]
  rfl
theorem za_ld.mem {l : za_L} {i : Nat} {v : Value} (h : za_ld l i = some v) : (i, v) ∈ l := by
  obtain ⟨e, he, hp, hv⟩ := za_fnd h
  have hi : e.1 = i := by simpa using hp
  have h2 : e.2 = v := hv
  rw [← hi, ← h2]
  exact he
theorem za_s1.map (ad : Nat → Nat) (l : za_L) (i : Nat) (v : Value) : (i, za_v ad v) :: (l.map (fun q => (q.1, za_v ad q.2))).filter (fun q => !(q.1 == i) && !(q.1 + 1 == i && q.2.category == 2)) = (za_s1 l i v).map (fun q => (q.1, za_v ad q.2)) := by
  unfold za_s1
  rw [List.map_cons, List.filter_map]
  congr 2
  apply List.filter_congr
  intro q _
  simp only [Function.comp, za_v.cat]
theorem za_s2.map (ad : Nat → Nat) (l : za_L) (i : Nat) (v : Value) : (i, za_v ad v) :: (l.map (fun q => (q.1, za_v ad q.2))).filter (fun q => !(q.1 == i) && (!(q.1 == i + 1) && !(q.1 + 1 == i && q.2.category == 2))) = (za_s2 l i v).map (fun q => (q.1, za_v ad q.2)) := by
  unfold za_s2
  rw [List.map_cons, List.filter_map]
  congr 2
  apply List.filter_congr
  intro q _
  simp only [Function.comp, za_v.cat]
theorem za_s1.k {n : Nat} {l : za_L} {i : Nat} {v : Value} (hl : ∀ q ∈ l, za_k n q.2) (hv : za_k n v) : ∀ q ∈ za_s1 l i v, za_k n q.2 := by
  intro q hq
  rcases List.mem_cons.mp hq with rfl | hq
  · exact hv
  · exact hl q (List.mem_filter.mp hq).1
theorem za_s2.k {n : Nat} {l : za_L} {i : Nat} {v : Value} (hl : ∀ q ∈ l, za_k n q.2) (hv : za_k n v) : ∀ q ∈ za_s2 l i v, za_k n q.2 := by
  intro q hq
  rcases List.mem_cons.mp hq with rfl | hq
  · exact hv
  · exact hl q (List.mem_filter.mp hq).1
theorem zk_tl {α : Type} {P : α → Prop} {a : α} {r : List α} (h : ∀ v ∈ a :: r, P v) : ∀ v ∈ r, P v := fun v hv => h v (List.mem_cons_of_mem _ hv)
theorem zk_hd {α : Type} {P : α → Prop} {a : α} {r : List α} (h : ∀ v ∈ a :: r, P v) : P a := h a List.mem_cons_self
theorem zk_mk {α : Type} {P : α → Prop} {a : α} {r : List α} (h : P a) (k : ∀ v ∈ r, P v) : ∀ v ∈ a :: r, P v := List.forall_mem_cons.mpr ⟨h, k⟩
/-! what a branch of za_x has found, where it is not stuck -/
section ZV
variable {P : za_A → Prop}
theorem za_p1i.iv (h0 : P none → False) {st : List Value} {f : Int32 → List Value → za_A} (h : P (za_p1i st f)) : ∃ x r, st = .int x :: r ∧ P (f x r) := by
  unfold za_p1i at h
  split at h
  · exact ⟨_, _, rfl, h⟩
  · exact (h0 h).elim
theorem za_p2i.iv (h0 : P none → False) {st : List Value} {f : Int32 → Int32 → List Value → za_A} (h : P (za_p2i st f)) : ∃ x y r, st = .int y :: .int x :: r ∧ P (f x y r) := by
  unfold za_p2i at h
  split at h
  · exact ⟨_, _, _, rfl, h⟩
  · exact (h0 h).elim
theorem za_p1l.iv (h0 : P none → False) {st : List Value} {f : Int64 → List Value → za_A} (h : P (za_p1l st f)) : ∃ x r, st = .long x :: r ∧ P (f x r) := by
  unfold za_p1l at h
  split at h
  · exact ⟨_, _, rfl, h⟩
  · exact (h0 h).elim
theorem za_p2l.iv (h0 : P none → False) {st : List Value} {f : Int64 → Int64 → List Value → za_A} (h : P (za_p2l st f)) : ∃ x y r, st = .long y :: .long x :: r ∧ P (f x y r) := by
  unfold za_p2l at h
  split at h
  · exact ⟨_, _, _, rfl, h⟩
  · exact (h0 h).elim
theorem za_pil.iv (h0 : P none → False) {st : List Value} {f : Int64 → Int32 → List Value → za_A} (h : P (za_pil st f)) : ∃ x y r, st = .int y :: .long x :: r ∧ P (f x y r) := by
  unfold za_pil at h
  split at h
  · exact ⟨_, _, _, rfl, h⟩
  · exact (h0 h).elim
theorem za_p1r.iv (h0 : P none → False) {st : List Value} {f : Nat → List Value → za_A} (h : P (za_p1r st f)) : ∃ x r, st = .ref x :: r ∧ P (f x r) := by
  unfold za_p1r at h
  split at h
  · exact ⟨_, _, rfl, h⟩
  · exact (h0 h).elim
theorem za_pvr.iv (h0 : P none → False) {st : List Value} {f : Nat → Value → List Value → za_A} (h : P (za_pvr st f)) : ∃ a v r, st = v :: .ref a :: r ∧ P (f a v r) := by
  unfold za_pvr at h
  split at h
  · exact ⟨_, _, _, rfl, h⟩
  · exact (h0 h).elim
theorem za_p1.iv (h0 : P none → False) {st : List Value} {f : Value → List Value → za_A} (h : P (za_p1 st f)) : ∃ a r, st = a :: r ∧ P (f a r) := by
  unfold za_p1 at h
  split at h
  · exact ⟨_, _, rfl, h⟩
  · exact (h0 h).elim
theorem za_p2.iv (h0 : P none → False) {st : List Value} {f : Value → Value → List Value → za_A} (h : P (za_p2 st f)) : ∃ a b r, st = b :: a :: r ∧ P (f a b r) := by
  unfold za_p2 at h
  split at h
  · exact ⟨_, _, _, rfl, h⟩
  · exact (h0 h).elim
theorem za_pir.iv (h0 : P none → False) {st : List Value} {f : Nat → Int32 → List Value → za_A} (h : P (za_pir st f)) : ∃ a i r, st = .int i :: .ref a :: r ∧ P (f a i r) := by
  unfold za_pir at h
  split at h
  · exact ⟨_, _, _, rfl, h⟩
  · exact (h0 h).elim
theorem za_piir.iv (h0 : P none → False) {st : List Value} {f : Nat → Int32 → Int32 → List Value → za_A} (h : P (za_piir st f)) : ∃ a i x r, st = .int x :: .int i :: .ref a :: r ∧ P (f a i x r) := by
  unfold za_piir at h
  split at h
  · exact ⟨_, _, _, _, rfl, h⟩
  · exact (h0 h).elim
theorem za_plir.iv (h0 : P none → False) {st : List Value} {f : Nat → Int32 → Int64 → List Value → za_A} (h : P (za_plir st f)) : ∃ a i x r, st = .long x :: .int i :: .ref a :: r ∧ P (f a i x r) := by
  unfold za_plir at h
  split at h
  · exact ⟨_, _, _, _, rfl, h⟩
  · exact (h0 h).elim
theorem za_prir.iv (h0 : P none → False) {st : List Value} {f : Nat → Int32 → Nat → List Value → za_A} (h : P (za_prir st f)) : ∃ a i x r, st = .ref x :: .int i :: .ref a :: r ∧ P (f a i x r) := by
  unfold za_prir at h
  split at h
  · exact ⟨_, _, _, _, rfl, h⟩
  · exact (h0 h).elim
theorem za_pcp.iv (h0 : P none → False) {st : List Value} {f : Nat → Int32 → Nat → Int32 → Int32 → List Value → za_A} (h : P (za_pcp st f)) : ∃ a sp d dp n r, st = .int n :: .int dp :: .ref d :: .int sp :: .ref a :: r ∧ P (f a sp d dp n r) := by
  unfold za_pcp at h
  split at h
  · exact ⟨_, _, _, _, _, _, rfl, h⟩
  · exact (h0 h).elim
theorem za_p5.iv (h0 : P none → False) {st : List Value} {f : Nat → List Value → za_A} (h : P (za_p5 st f)) : ∃ a r, st = .int 0 :: .int 0 :: .null :: .null :: .ref a :: r ∧ P (f a r) := by
  unfold za_p5 at h
  split at h
  · split at h
    · rename_i hc
      obtain ⟨rfl, rfl⟩ := hc
      exact ⟨_, _, rfl, h⟩
    · exact (h0 h).elim
  · exact (h0 h).elim
theorem za_oi.iv (h0 : P none → False) {c : Option Value} {f : Int32 → za_A} (h : P (za_oi c f)) : ∃ x, c = some (.int x) ∧ P (f x) := by
  unfold za_oi at h
  split at h
  · exact ⟨_, rfl, h⟩
  · exact (h0 h).elim
theorem za_ol.iv (h0 : P none → False) {c : Option Value} {f : Int64 → za_A} (h : P (za_ol c f)) : ∃ x, c = some (.long x) ∧ P (f x) := by
  unfold za_ol at h
  split at h
  · exact ⟨_, rfl, h⟩
  · exact (h0 h).elim
theorem za_or.iv (h0 : P none → False) {c : Option Value} {f : Nat → za_A} (h : P (za_or c f)) : ∃ x, c = some (.ref x) ∧ P (f x) := by
  unfold za_or at h
  split at h
  · exact ⟨_, rfl, h⟩
  · exact (h0 h).elim
theorem za_ov.iv (h0 : P none → False) {α : Type} {c : Option α} {f : α → za_A} (h : P (za_ov c f)) : ∃ x, c = some x ∧ P (f x) := by
  unfold za_ov at h
  split at h
  · exact ⟨_, rfl, h⟩
  · exact (h0 h).elim
theorem za_ai.iv (h0 : P none → False) {c : Option za_C} {f : Nat → Nat → (Nat → Int32) → za_A} (h : P (za_ai c f)) : ∃ t n g, c = some (.inl (t, n, .inl g)) ∧ P (f t n g) := by
  unfold za_ai at h
  split at h
  · exact ⟨_, _, _, rfl, h⟩
  · exact (h0 h).elim
theorem za_al.iv (h0 : P none → False) {c : Option za_C} {f : Nat → Nat → (Nat → Int64) → za_A} (h : P (za_al c f)) : ∃ t n g, c = some (.inl (t, n, .inr (.inl g))) ∧ P (f t n g) := by
  unfold za_al at h
  split at h
  · exact ⟨_, _, _, rfl, h⟩
  · exact (h0 h).elim
theorem za_aq.iv (h0 : P none → False) {c : Option za_C} {f : Nat → Nat → (Nat → Option Nat) → za_A} (h : P (za_aq c f)) : ∃ t n g, c = some (.inl (t, n, .inr (.inr (.inr (.inr g))))) ∧ P (f t n g) := by
  unfold za_aq at h
  split at h
  · exact ⟨_, _, _, rfl, h⟩
  · exact (h0 h).elim
theorem za_ar.iv (h0 : P none → False) {c : Option za_C} {f : Nat → Nat → za_A} (h : P (za_ar c f)) : ∃ t a, c = some (.inl (t, a)) ∧ P (f t a.1) := by
  unfold za_ar at h
  split at h
  · exact ⟨_, _, rfl, h⟩
  · exact (h0 h).elim
theorem za_ob.iv (h0 : P none → False) {c : Option za_C} {f : Nat → List Value → za_A} (h : P (za_ob c f)) : ∃ ci fs, c = some (.inr (ci, fs)) ∧ P (f ci fs) := by
  unfold za_ob at h
  split at h
  · exact ⟨_, _, rfl, h⟩
  · exact (h0 h).elim
theorem za_if.iv (h0 : P none → False) {c : Prop} [Decidable c] {a : za_A} (h : P (za_if c a)) : c ∧ P a := by
  unfold za_if at h
  by_cases hc : c
  · rw [if_pos hc] at h
    exact ⟨hc, h⟩
  · rw [if_neg hc] at h
    exact (h0 h).elim
theorem za_ix.iv (h0 : P none → False) {i : Int32} {n : Nat} {f : Nat → za_A} (h : P (za_ix i n f)) : vp_in i n ∧ P (f i.toNatClampNeg) := by
  unfold za_ix at h
  by_cases hc : i < 0 ∨ n ≤ i.toNatClampNeg
  · rw [if_pos hc] at h
    exact (h0 h).elim
  · rw [if_neg hc] at h
    exact ⟨hc, h⟩
end ZV
