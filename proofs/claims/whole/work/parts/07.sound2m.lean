/-! FROM THE ABSTRACT MACHINE TO THE MACHINE, 2m: new int[n][k]. -/
def zm_ad (ad : Nat → Nat) (b n h : Nat) : Nat → Nat := fun j => if b ≤ j ∧ j ≤ b + n then h + (j - b) else ad j
theorem zm_ad.old {ad : Nat → Nat} {b n h : Nat} : ∀ k, k < b → zm_ad ad b n h k = ad k := fun k hk => by
  unfold zm_ad
  rw [if_neg (by omega)]
theorem zm_ad.new {ad : Nat → Nat} {b n h : Nat} (i : Nat) (hi : i ≤ n) : zm_ad ad b n h (b + i) = h + i := by
  unfold zm_ad
  rw [if_pos (by omega)]
  omega
theorem zm_l.get {ad : Nat → Nat} {cA : Nat → ClassId} {w : za_W} (kw : za_kw w) {n k h j : Nat} {x : Nat × va_E} (hj : (za_l (zm_ad ad w.1 n h) cA (za_mn w n k))[j]? = some x) :
    (j < w.1 ∧ (za_l ad cA w)[j]? = some x) ∨ (j = w.1 ∧ x = (h, .inl (cA 5, n, .inr (.inr (.inr (.inr fun i => if i < n then some (h + 1 + i) else none)))))) ∨ (w.1 < j ∧ j ≤ w.1 + n ∧ x = (h + (j - w.1), .inl (cA 1, k, .inl fun _ => 0))) := by
  have hlt : j < (za_mn w n k).1 := by
    have h1 := (List.getElem?_eq_some_iff.mp hj).1
    rw [za_l.len] at h1
    exact h1
  have hlt2 : j < w.1 + 1 + n := hlt
  rw [za_l.get _ _ _ hlt] at hj
  have hx := (Option.some.inj hj).symm
  by_cases c1 : j < w.1
  · left
    refine ⟨c1, ?_⟩
    rw [za_l.get _ _ _ c1, hx, zm_ad.old j c1]
    have e1 : (za_mn w n k).2.2 j = w.2.2 j := by
      show (if j = w.1 then _ else if w.1 < j ∧ j ≤ w.1 + n then _ else w.2.2 j) = _
      rw [if_neg (by omega), if_neg (by omega)]
    rw [e1]
    cases hc : w.2.2 j with
    | none => rfl
    | some d => exact congrArg (fun y => some (ad j, y)) (za_e.agree (cA := cA) zm_ad.old (kw j d hc).2).symm
  · right
    by_cases c2 : j = w.1
    · left
      refine ⟨c2, ?_⟩
      subst c2
      rw [hx]
      have e1 : (za_mn w n k).2.2 w.1 = some (.inl (5, n, .inr (.inr (.inr (.inr fun i => if i < n then some (w.1 + 1 + i) else none))))) := by
        show (if w.1 = w.1 then _ else _) = _
        rw [if_pos rfl]
      rw [e1]
      have e2 : zm_ad ad w.1 n h w.1 = h := zm_ad.new (ad := ad) (b := w.1) (n := n) (h := h) 0 (Nat.zero_le _)
      rw [e2]
      show (h, (Sum.inl (cA 5, n, .inr (.inr (.inr (.inr fun i => (if i < n then some (w.1 + 1 + i) else none).map (zm_ad ad w.1 n h))))) : va_E)) = _
      have e3 : (fun i => (if i < n then some (w.1 + 1 + i) else none).map (zm_ad ad w.1 n h)) = fun i => if i < n then some (h + 1 + i) else none := by
        funext i
        by_cases hi : i < n
        · rw [if_pos hi, if_pos hi]
          show some (zm_ad ad w.1 n h (w.1 + 1 + i)) = _
          rw [show w.1 + 1 + i = w.1 + (1 + i) by omega, zm_ad.new (1 + i) (by omega)]
          congr 1
          omega
        · rw [if_neg hi, if_neg hi]
          rfl
      rw [e3]
    · right
      refine ⟨by omega, by omega, ?_⟩
      rw [hx]
      have e1 : (za_mn w n k).2.2 j = some (.inl (1, k, .inl fun _ => 0)) := by
        show (if j = w.1 then _ else if w.1 < j ∧ j ≤ w.1 + n then _ else w.2.2 j) = _
        rw [if_neg c2, if_pos (by omega)]
      rw [e1]
      have e2 : zm_ad ad w.1 n h j = h + (j - w.1) := by
        unfold zm_ad
        rw [if_pos (by omega)]
      rw [e2]
      rfl
theorem zm_kw {w : za_W} (kw : za_kw w) {n k : Nat} : za_kw (za_mn w n k) := by
  intro j d hj
  have hj : (if j = w.1 then some (.inl (5, n, .inr (.inr (.inr (.inr fun i => if i < n then some (w.1 + 1 + i) else none))))) else if w.1 < j ∧ j ≤ w.1 + n then some (.inl (1, k, .inl fun _ => 0)) else w.2.2 j) = some d := hj
  by_cases c1 : j = w.1
  · rw [if_pos c1] at hj
    cases hj
    refine ⟨by show j < w.1 + 1 + n; omega, ?_⟩
    intro i x hx
    have hx : (if i < n then some (w.1 + 1 + i) else none) = some x := hx
    by_cases hi : i < n
    · rw [if_pos hi] at hx
      cases hx
      show w.1 + 1 + i < w.1 + 1 + n
      omega
    · rw [if_neg hi] at hx
      cases hx
  · rw [if_neg c1] at hj
    by_cases c2 : w.1 < j ∧ j ≤ w.1 + n
    · rw [if_pos c2] at hj
      cases hj
      exact ⟨by show j < w.1 + 1 + n; omega, trivial⟩
    · rw [if_neg c2] at hj
      obtain ⟨h1, h2⟩ := kw j d hj
      exact ⟨by show j < w.1 + 1 + n; omega, h2.mono (by show w.1 ≤ w.1 + 1 + n; omega)⟩
section ZMN
variable {p : Program} {L : Launch} {e : Env} {R : Room} {s : State} {m : MethodId} {args : Array Value} {below : List Frame} {meth : Method} {c : Code} {D : va_G} {cA : Nat → ClassId} {A : Nat → Prop}
variable {H : Heap} {locs : List Loc} {cells slots : Nat} {Q : State → Prop} {cc : ByteArray} {pc : Nat} {ls : Array Slot} {rest : List Value} {ad : Nat → Nat} {w : za_W} {H0 : Heap}
theorem za_newm {own : String} {j : Nat} {n k : Int32} (hx : p.tables.exec = Jvm.exec) (hb : c.code = cc) (hown : s.vm.findClass own = some m.cls) (hlink : (Cond.classLink own j ("[" ++ (FieldType.array .int).toString)).before args s = true) (hw : zm_w.before args s = true) (harr : (Cond.arrayClass .int).before args s = true) (hK : va_K D vwCl (za_t cA) s) (hP : va_P D vwCl (za_l ad cA w) H) (hD : va_D A (za_l ad cA w)) (hS : va_S A H0 H locs) (hA : ∀ q, H0.size ≤ q → A q) (kw : za_kw w)
    (hn : ¬ n < 0) (hk : ¬ k < 0) (hb1 : n.toNatClampNeg ≤ 60000000) (hb2 : k.toNatClampNeg ≤ 60000000) (hcells : cells + 1 + n.toNatClampNeg ≤ R.cells) (hslots : slots + n.toNatClampNeg + n.toNatClampNeg * k.toNatClampNeg ≤ R.slots) (hd : decode cc pc = .ok (.multianewarray j 2, 4))
    (kk : ∀ (h : Nat) (H1 : Heap), va_P D vwCl (za_l (zm_ad ad w.1 n.toNatClampNeg h) cA (za_mn w n.toNatClampNeg k.toNatClampNeg)) H1 → va_D A (za_l (zm_ad ad w.1 n.toNatClampNeg h) cA (za_mn w n.toNatClampNeg k.toNatClampNeg)) → va_S A H0 H1 locs → W p L e R s m args below meth c H1 locs (cells + 1 + n.toNatClampNeg) (slots + n.toNatClampNeg + n.toNatClampNeg * k.toNatClampNeg) Q (F0 m (pc + 4) ls (.ref h :: rest))) :
    W p L e R s m args below meth c H locs cells slots Q (F0 m pc ls (.int k :: .int n :: rest)) := by
  intro T hT X
  obtain ⟨vm₁, co, cp, c1, c2, X1, st⟩ := zm_step X hx hown hlink hw harr (g := F0 m pc ls (.int k :: .int n :: rest)) rfl (by rw [hb]; exact hd) (n := n) (k := k) (rest := rest) rfl hn hk hb1 hb2 (by omega) (by omega)
  generalize n.toNatClampNeg = N at *
  generalize k.toNatClampNeg = M at *
  obtain ⟨f1, f2, f3, f4⟩ := zm_s.facts (T.setVm vm₁) co cp N M N
  have e1 : co = cA 5 := by
    have g1 : s.vm.findClass ("[" ++ (FieldType.array .int).toString) = some (cA 5) := (hK.2 5 _ (za_t.at cA rfl)).2
    exact Option.some.inj (c1.symm.trans g1)
  have e2 : cp = cA 1 := by
    have g1 : s.vm.findClass ("[" ++ FieldType.int.toString) = some (cA 1) := (hK.2 1 _ (za_t.at cA rfl)).2
    exact Option.some.inj (c2.symm.trans g1)
  subst e1
  subst e2
  have hh : (T.setVm vm₁).heap = H := hT
  have old : ∀ a : Nat, a < H.size → (zm_s (T.setVm vm₁) (cA 5) (cA 1) N M N).heap[a]? = H[a]? := fun a ha => by
    rw [zm_s.old (T.setVm vm₁) (cA 5) (cA 1) N M (by rw [hh]; exact ha) N, hh]
  rw [hh] at f1 f2
  have inn : ∀ i, i < N → (zm_s (T.setVm vm₁) (cA 5) (cA 1) N M N).heap[H.size + 1 + i]? = some (zm_i (cA 1) M) := fun i hi => by
    have := zm_s.inner (T.setVm vm₁) (cA 5) (cA 1) N M N i hi
    rw [hh] at this
    exact this
  generalize hH1 : (zm_s (T.setVm vm₁) (cA 5) (cA 1) N M N).heap = H1 at *
  have hP1 : va_P D vwCl (za_l (zm_ad ad w.1 N H.size) cA (za_mn w N M)) H1 := by
    intro i x hi
    rcases zm_l.get kw hi with ⟨-, g⟩ | ⟨-, rfl⟩ | ⟨g1, g2, rfl⟩
    · exact (hP.kept (H1 := H1) (fun k' y hy => old y.1 ((hP k' y hy).lt))) i x g
    · show H1[H.size]? = some (vp_cell _ _)
      rw [f2, vp_cell_q]
      unfold zm_o arrV
      congr 2
      apply Array.ext
      · simp
      · intro i' h1 h2
        simp only [Array.getElem_ofFn]
        have h3 : i' < N := by simpa using h1
        rw [if_pos h3, if_pos h3]
        show _ = va_rf (some (H.size + 1 + i'))
        rfl
    · show H1[H.size + (i - w.1)]? = some (vp_cell _ _)
      have := inn (i - w.1 - 1) (by omega)
      rw [show H.size + 1 + (i - w.1 - 1) = H.size + (i - w.1) by omega] at this
      rw [this, vp_cell_i]
      rfl
  have hD1 : va_D A (za_l (zm_ad ad w.1 N H.size) cA (za_mn w N M)) := by
    constructor
    · intro i i' x x' hi hi' hxx
      rcases zm_l.get kw hi with ⟨b1, g⟩ | ⟨b1, rfl⟩ | ⟨b1, b2, rfl⟩ <;> rcases zm_l.get kw hi' with ⟨b1', g'⟩ | ⟨b1', rfl⟩ | ⟨b1', b2', rfl⟩
      · exact hD.1 i i' x x' g g' hxx
      · have := (hP i x g).lt
        rw [hxx] at this
        exact absurd this (Nat.lt_irrefl _)
      · have := (hP i x g).lt
        rw [hxx] at this
        have : H.size + (i' - w.1) < H.size := this
        omega
      · have := (hP i' x' g').lt
        rw [← hxx] at this
        exact absurd this (Nat.lt_irrefl _)
      · omega
      · have : H.size = H.size + (i' - w.1) := hxx
        omega
      · have := (hP i' x' g').lt
        rw [← hxx] at this
        have : H.size + (i - w.1) < H.size := this
        omega
      · have : H.size + (i - w.1) = H.size := hxx
        omega
      · have : H.size + (i - w.1) = H.size + (i' - w.1) := hxx
        omega
    · intro i x hi
      rcases zm_l.get kw hi with ⟨-, g⟩ | ⟨-, rfl⟩ | ⟨g1, g2, rfl⟩
      · exact hD.2 i x g
      · exact hA _ hS.1
      · exact hA _ (Nat.le_trans hS.1 (Nat.le_add_right _ _))
  have hS1 : va_S A H0 H1 locs := ⟨Nat.le_trans hS.1 (by omega), fun q h1 h2 => (old q (Nat.lt_of_lt_of_le h1 hS.1)).trans (hS.2.1 q h1 h2), hS.2.2⟩
  obtain ⟨t, a1, b1⟩ := kk H.size H1 hP1 hD1 hS1 _ hH1 X1
  refine ⟨t, st t ?_, b1⟩
  rw [hT]
  exact a1
end ZMN
section ZMZ
variable {p : Program} {L : Launch} {e : Env} {R : Room} {s : State} {m : MethodId} {args : Array Value} {below : List Frame} {meth : Method} {c : Code} {me : Nat} {D : va_G} {cA : Nat → ClassId} {A : Nat → Prop} {ad0 : Nat → Nat} {w0 wz : za_W} {v : za_O}
/-- a step that makes a row of rows -/
theorem za_Z.mn {pc pc' : Nat} {l : za_L} {st r : List Value} {w : za_W} {n k : Nat} (hRc : R.cells = wz.1 - w0.1) (hRs : R.slots = wz.2.1 - w0.2.1) (hz : za_Z p L e R s m args below meth c me D cA A ad0 w0 wz v pc' l (.ref w.1 :: r) (za_mn w n k)) (hk : (∀ v ∈ st, za_k w.1 v) → ∀ v ∈ r, za_k w.1 v)
    (kk : ∀ (ad : Nat → Nat) (H : Heap) (locs : List Loc) (ls : Array Slot) (cells slots : Nat), za_I D cA A s.heap H locs ls (za_mx me) ad l st w → cells + 1 + n ≤ R.cells → slots + n + n * k ≤ R.slots → (∀ (h : Nat) (H1 : Heap), va_P D vwCl (za_l (zm_ad ad w.1 n h) cA (za_mn w n k)) H1 → va_D A (za_l (zm_ad ad w.1 n h) cA (za_mn w n k)) → va_S A s.heap H1 locs → W p L e R s m args below meth c H1 locs (cells + 1 + n) (slots + n + n * k) (za_MQ below (za_Q D cA A ad0 w0 v wz) args s (wz.1 - w0.1) (wz.2.1 - w0.2.1) A) (F0 m pc' ls (.ref h :: r.map (za_v ad)))) → W p L e R s m args below meth c H locs cells slots (za_MQ below (za_Q D cA A ad0 w0 v wz) args s (wz.1 - w0.1) (wz.2.1 - w0.2.1) A) (F0 m pc ls (st.map (za_v ad)))) :
    za_Z p L e R s m args below meth c me D cA A ad0 w0 wz v pc l st w := by
  have hz1 : w.1 + 1 + n ≤ wz.1 := hz.1.1
  have hz2 : w.2.1 + n + n * k ≤ wz.2.1 := hz.1.2
  refine ⟨⟨by omega, by omega⟩, fun ad H locs ls cells slots I hag hc hs => ?_⟩
  have I' := I
  obtain ⟨h1, h2, h3, h4, h5, h6, h7, h8⟩ := I'
  refine kk ad H locs ls cells slots I (by omega) (by omega) (fun h H1 hP hD hS => ?_)
  have hle : w.1 ≤ w.1 + 1 + n := by omega
  have h9 := hz.2 (zm_ad ad w.1 n h) H1 locs ls (cells + 1 + n) (slots + n + n * k) ⟨hP, hD, hS, h4, zm_kw h5, fun q hq => (h6 q hq).mono hle, zk_mk (by show w.1 < w.1 + 1 + n; omega) (fun x hx => (hk h7 x hx).mono hle), by rw [za_ls.agree zm_ad.old h6]; exact h8⟩ (fun k hk9 => by rw [zm_ad.old k (by omega)]; exact hag k hk9) (by show cells + 1 + n + w0.1 = w.1 + 1 + n; omega) (by show slots + n + n * k + w0.2.1 = w.2.1 + n + n * k; omega)
  have e1 : ((Value.ref w.1 :: r).map (za_v (zm_ad ad w.1 n h))) = .ref h :: r.map (za_v ad) := by
    show Value.ref (zm_ad ad w.1 n h w.1) :: r.map (za_v (zm_ad ad w.1 n h)) = _
    rw [za_vs.agree zm_ad.old (hk h7)]
    have e2 : zm_ad ad w.1 n h w.1 = h := zm_ad.new (ad := ad) (b := w.1) (n := n) (h := h) 0 (Nat.zero_le _)
    rw [e2]
  rw [e1] at h9
  exact h9
end ZMZ
