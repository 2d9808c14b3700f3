/-! THE BOND, 1: what every world of the law's loop looks like: the cells of the start, their numbers apart. -/
/-- the model's cells, by their numbers -/
def md_k (x : Int32) : List za_C := [.inr (14, [.int 0, .ref 139, .int (zi_mx 1 (zi_mn 9 x)), .ref 140, .int 0, .ref 141, .int 0, .ref 142, .int 0, .int 0, .int 0, .ref 143, .ref 144, .ref 145, .int 0, .ref 146, .int 0, .int 0, .int 0, .int 0, .ref 147, .int 0, .ref 148, .ref 149, .ref 150, .int 0, .ref 151, .ref 152, .int 0, .ref 153, .ref 154, .ref 155, .ref 156, .int 0, .int 0, .ref 157, .ref 158, .ref 159, .ref 160, .ref 161, .ref 162, .ref 163, .int 0, .ref 164, .ref 165, .ref 166, .int 0]),
  .inr (13, [.null, .null, .null, .null, .null, .int 0, .int 0]),
  .inl (0, 1500, .inl fun _ => 0),
  .inl (0, 4100, .inl fun _ => 0),
  .inl (0, 1500, .inl fun _ => 0),
  .inl (1, 540, .inl fun _ => 0),
  .inl (1, 60, .inl fun _ => 0),
  .inl (1, 32768, .inl fun _ => 0),
  .inl (1, 1560, .inl fun _ => 0),
  .inl (0, 1900, .inl fun _ => 0),
  .inl (1, 1900, .inl fun _ => 0),
  .inl (1, 1900, .inl fun _ => 0),
  .inl (1, 2000, .inl fun _ => 0),
  .inl (1, 256, .inl fun _ => 0),
  .inl (3, 256, .inl fun _ => 0),
  .inl (1, 1560, .inl fun _ => 0),
  .inl (1, 1560, .inl fun _ => 0),
  .inl (1, 1560, .inl fun _ => 0),
  .inl (1, 32768, .inl fun _ => 0),
  .inl (2, 600, .inr (.inl fun _ => 0)),
  .inl (1, 600, .inl fun _ => 0),
  .inl (2, 300, .inr (.inl fun _ => 0)),
  .inl (1, 1560, .inl fun _ => 0),
  .inl (1, 132, .inl fun _ => 0),
  .inl (1, 132, .inl fun _ => 0),
  .inl (1, 6, .inl fun _ => 0),
  .inl (1, 257, .inl fun _ => 0),
  .inl (0, 1900, .inl fun _ => 0),
  .inl (0, 3000, .inl fun _ => 0)]
theorem md_k.eq (x : Int32) : md_l x (sp_l x) = md_k x := by
  unfold md_l md_k
  simp only [sp_l.len, Nat.reduceAdd]
/-- the model's fields at the start -/
def md_fs : List Value := [.int 0, .ref 139, .int (zi_mx 1 (zi_mn 9 0)), .ref 140, .int 0, .ref 141, .int 0, .ref 142, .int 0, .int 0, .int 0, .ref 143, .ref 144, .ref 145, .int 0, .ref 146, .int 0, .int 0, .int 0, .int 0, .ref 147, .int 0, .ref 148, .ref 149, .ref 150, .int 0, .ref 151, .ref 152, .int 0, .ref 153, .ref 154, .ref 155, .ref 156, .int 0, .int 0, .ref 157, .ref 158, .ref 159, .ref 160, .ref 161, .ref 162, .ref 163, .int 0, .ref 164, .ref 165, .ref 166, .int 0]
def zl_c (x : Int32) : List za_C := sp_l x ++ (md_k x ++ [.inl (2, 1, .inr (.inl fun _ => 0))])
theorem zl_w.at (x : Int32) (k : Nat) : (zl_w x).2.2 k = (zl_c x)[k]? := by
  unfold zl_w zl_c
  rw [md_k.eq]
  rfl
def lk_v : Value → Value → Prop
  | .int _, .int _ => True
  | .ref a, .ref b => a = b
  | .null, .null => True
  | _, _ => False
def lk_l : List Value → List Value → Prop
  | [], [] => True
  | a :: l, b :: r => lk_v a b ∧ lk_l l r
  | _, _ => False
/-- two cells of one shape: numbers may differ -/
def lk_c : za_C → za_C → Prop
  | .inl (t, n, .inl _), .inl (t', n', .inl _) => t = t' ∧ n = n'
  | .inl (t, n, .inr (.inl _)), .inl (t', n', .inr (.inl _)) => t = t' ∧ n = n'
  | .inl (t, n, .inr (.inr (.inr (.inr f)))), .inl (t', n', .inr (.inr (.inr (.inr f')))) => t = t' ∧ n = n' ∧ f = f'
  | .inr (c, fs), .inr (c', fs') => c = c' ∧ lk_l fs fs'
  | _, _ => False
/-- the fields of l with the numbers V -/
def lk_f (V : Nat → Int32) : Nat → List Value → List Value
  | _, [] => []
  | i, .int _ :: r => .int (V i) :: lk_f V (i + 1) r
  | i, v :: r => v :: lk_f V (i + 1) r
theorem lk_l.of : ∀ {l fs : List Value} (i : Nat), lk_l l fs → ∃ V : Nat → Int32, fs = lk_f V i l
  | [], [], _, _ => ⟨fun _ => 0, rfl⟩
  | [], _ :: _, _, h => h.elim
  | _ :: _, [], _, h => h.elim
  | a :: l, b :: r, i, ⟨h1, h2⟩ => by
    obtain ⟨V, hV⟩ := lk_l.of (i + 1) h2
    have key : ∀ (V' : Nat → Int32) (l : List Value) (j : Nat), (∀ k, j ≤ k → V' k = V k) → lk_f V' j l = lk_f V j l := by
      intro V' l
      induction l with
      | nil => intro j _; rfl
      | cons a l ih =>
        intro j h
        cases a <;> simp only [lk_f, h j (Nat.le_refl _), ih (j + 1) (fun k hk => h k (by omega))]
    match a, b, h1 with
    | .int _, .int y, _ =>
      refine ⟨fun k => if k = i then y else V k, ?_⟩
      show .int y :: r = .int (if i = i then y else V i) :: lk_f _ (i + 1) l
      rw [if_pos rfl, key _ l (i + 1) (fun k hk => by rw [if_neg (by omega)]), hV]
    | .ref x, .ref y, h1 => exact ⟨V, by show .ref y :: r = .ref x :: lk_f V (i + 1) l; rw [hV, show x = y from h1]⟩
    | .null, .null, _ => exact ⟨V, by show .null :: r = .null :: lk_f V (i + 1) l; rw [hV]⟩
theorem lk_f.lk (V : Nat → Int32) : ∀ (i : Nat) (l : List Value), (∀ v ∈ l, lk_v v v) → lk_l l (lk_f V i l)
  | _, [], _ => trivial
  | i, a :: l, h => by
    have h2 := lk_f.lk V (i + 1) l (fun v hv => h v (List.mem_cons_of_mem _ hv))
    have h1 := h a List.mem_cons_self
    cases a <;> exact ⟨h1, h2⟩
/-- the shape of the world (Told apart, whose two Codings change places) -/
def Sh (w : za_W) : Prop := w.1 = 168 ∧ w.2.1 = 156884 ∧ ∀ (k : Nat) (c : za_C), (zl_c 0)[k]? = some c → k ≠ 7 → ∃ d, w.2.2 k = some d ∧ lk_c c d
theorem Sh.up {w : za_W} (h : Sh w) {j : Nat} {d : za_C} (hd : ∀ c, (zl_c 0)[j]? = some c → j ≠ 7 → lk_c c d) : Sh (za_up w j d) := by
  refine ⟨h.1, h.2.1, fun k c hk h7 => ?_⟩
  by_cases e : k = j
  · subst e
    exact ⟨d, za_up.on w k d, hd c hk h7⟩
  · obtain ⟨d', h1, h2⟩ := h.2.2 k c hk h7
    exact ⟨d', by rw [za_up.off e]; exact h1, h2⟩
theorem Sh.ai {w : za_W} (h : Sh w) {k t n : Nat} {f : Nat → Int32} (hk : (zl_c 0)[k]? = some (.inl (t, n, .inl f))) (h7 : k ≠ 7) : ∃ g : Nat → Int32, w.2.2 k = some (.inl (t, n, .inl g)) := by
  obtain ⟨d, h1, h2⟩ := h.2.2 k _ hk h7
  match d, h1, h2 with
  | .inl (t', n', .inl g), h1, h2 => obtain ⟨rfl, rfl⟩ := h2; exact ⟨g, h1⟩
theorem Sh.al {w : za_W} (h : Sh w) {k t n : Nat} {f : Nat → Int64} (hk : (zl_c 0)[k]? = some (.inl (t, n, .inr (.inl f)))) (h7 : k ≠ 7) : ∃ g : Nat → Int64, w.2.2 k = some (.inl (t, n, .inr (.inl g))) := by
  obtain ⟨d, h1, h2⟩ := h.2.2 k _ hk h7
  match d, h1, h2 with
  | .inl (t', n', .inr (.inl g)), h1, h2 => obtain ⟨rfl, rfl⟩ := h2; exact ⟨g, h1⟩
theorem Sh.aq {w : za_W} (h : Sh w) {k t n : Nat} {f : Nat → Option Nat} (hk : (zl_c 0)[k]? = some (.inl (t, n, .inr (.inr (.inr (.inr f)))))) (h7 : k ≠ 7) : w.2.2 k = some (.inl (t, n, .inr (.inr (.inr (.inr f))))) := by
  obtain ⟨d, h1, h2⟩ := h.2.2 k _ hk h7
  match d, h1, h2 with
  | .inl (t', n', .inr (.inr (.inr (.inr g)))), h1, h2 => obtain ⟨rfl, rfl, rfl⟩ := h2; exact h1
theorem Sh.ob {w : za_W} (h : Sh w) {k c : Nat} {fs : List Value} (hk : (zl_c 0)[k]? = some (.inr (c, fs))) (h7 : k ≠ 7) : ∃ V : Nat → Int32, w.2.2 k = some (.inr (c, lk_f V 0 fs)) := by
  obtain ⟨d, h1, h2⟩ := h.2.2 k _ hk h7
  match d, h1, h2 with
  | .inr (c', fs'), h1, h2 =>
    obtain ⟨rfl, h2⟩ := h2
    obtain ⟨V, rfl⟩ := lk_l.of 0 h2
    exact ⟨V, h1⟩
theorem lk_v.rf {v : Value} (h : v.isRef = true ∨ ∃ x, v = .int x) : lk_v v v := by
  cases v <;> first | exact trivial | exact rfl | (exfalso; rcases h with h | ⟨x, h⟩ <;> cases h)
def lk_ok (v : Value) : Bool := match v with
  | .int _ | .ref _ | .null => true
  | _ => false
theorem lk_l.rf : ∀ {l : List Value}, l.all lk_ok = true → lk_l l l
  | [], _ => trivial
  | a :: l, h => by
    rw [List.all_cons, Bool.and_eq_true] at h
    refine ⟨?_, lk_l.rf h.2⟩
    cases a <;> first | exact trivial | exact rfl | cases h.1
def lk_okc (c : za_C) : Bool := match c with
  | .inl (_, _, .inl _) => true
  | .inl (_, _, .inr (.inl _)) => true
  | .inl (_, _, .inr (.inr (.inr (.inr _)))) => true
  | .inr (_, fs) => fs.all lk_ok
  | _ => false
theorem lk_c.rf : ∀ {c : za_C}, lk_okc c = true → lk_c c c
  | .inl (_, _, .inl _), _ => ⟨rfl, rfl⟩
  | .inl (_, _, .inr (.inl _)), _ => ⟨rfl, rfl⟩
  | .inl (_, _, .inr (.inr (.inr (.inr _)))), _ => ⟨rfl, rfl, rfl⟩
  | .inr (_, fs), h => ⟨rfl, lk_l.rf h⟩
  | .inl (_, _, .inr (.inr (.inl _))), h => by cases h
  | .inl (_, _, .inr (.inr (.inr (.inl _)))), h => by cases h
theorem lk_md : ∀ v ∈ md_fs, lk_v v v := by
  intro v hv
  have h : md_fs.all lk_ok = true := by rfl
  have h := List.all_eq_true.mp h v hv
  cases v <;> first | exact trivial | exact rfl | cases h
set_option maxRecDepth 100000 in
theorem zl_c.ok : (zl_c 0).all lk_okc = true := by rfl
set_option maxRecDepth 100000 in
theorem zl_c.len (x : Int32) : (zl_c x).length = 168 := by rfl
set_option maxRecDepth 100000 in
theorem zl_c.eq (x : Int32) : zl_c x = ((zl_c 0).set 0 (.inr (12, [.int (zi_mx 1 (zi_mn 9 x)), .ref 1, .ref 3, .ref 5, .ref 7, .ref 34, .ref 93]))).set 138 (.inr (14, lk_f (fun k => if k = 2 then zi_mx 1 (zi_mn 9 x) else 0) 0 md_fs)) := by rfl
theorem Sh.start (x : Int32) : Sh (zl_w x) := by
  refine ⟨zl_w.n x, rfl, fun k c hk h7 => ?_⟩
  rw [zl_w.at, zl_c.eq]
  have hok : lk_okc c = true := List.all_eq_true.mp zl_c.ok c (List.mem_of_getElem? hk)
  have hlt : k < (zl_c 0).length := (List.getElem?_eq_some_iff.mp hk).1
  by_cases e1 : k = 138
  · subst e1
    rw [List.getElem?_set_self (by rw [List.length_set]; exact hlt)]
    have hc : (zl_c 0)[138]? = some (.inr (14, md_fs)) := by rfl
    cases hc.symm.trans hk
    exact ⟨_, rfl, rfl, lk_f.lk _ 0 md_fs (fun v hv => lk_md v hv)⟩
  · rw [List.getElem?_set_ne (Ne.symm e1)]
    by_cases e0 : k = 0
    · subst e0
      rw [List.getElem?_set_self hlt]
      have hc : (zl_c 0)[0]? = some (.inr (12, [.int (zi_mx 1 (zi_mn 9 0)), .ref 1, .ref 3, .ref 5, .ref 7, .ref 34, .ref 93])) := by rfl
      cases hc.symm.trans hk
      exact ⟨_, rfl, rfl, trivial, rfl, rfl, rfl, rfl, rfl, rfl, trivial⟩
    · rw [List.getElem?_set_ne (Ne.symm e0)]
      exact ⟨c, hk, lk_c.rf hok⟩
