/-! THE LAW, 5: from its entry to the head of its loop. -/
/-- the world at the loop's first head -/
def zl_w (x : Int32) : za_W := zv (sp_l x) (md_l x (sp_l x) ++ [.inl (2, 1, .inr (.inl fun _ => 0))]) 156884
set_option maxRecDepth 1000000 in
theorem sp_l.len (x : Int32) : (sp_l x).length = 138 := by rfl
set_option maxRecDepth 1000000 in
theorem md_l.len (x : Int32) (l : List za_C) : (md_l x l).length = 29 := by rfl
theorem zl_w.n (x : Int32) : (zl_w x).1 = 168 := by
  unfold zl_w
  rw [zv.n, List.length_append, sp_l.len, md_l.len]
  rfl
theorem za_T.eq {me : Nat} {as : List Value} {w w' : za_W} {o : za_O} (h : ∀ G : za_O → za_W → Prop, G o w' → za_T me as w G) : za_E me as w o w' := by
  obtain ⟨o2, w2, hE, rfl, rfl⟩ := h (fun o2 w2 => o2 = o ∧ w2 = w') ⟨rfl, rfl⟩
  exact hE
section ZLB
variable {p : Program} {l : Launch} {e : Env} {s : State} {m : MethodId} {below : List Frame} {meth : Method} {c : Code} {D : va_G} {cA : Nat → ClassId} {b L : Nat} {xs : Nat → Int32} {Q : State → Prop}
set_option maxRecDepth 1000000 in
set_option maxHeartbeats 4000000 in
theorem zl_begin (F : zl_F D cA p s m c b L xs) (hL : L ≤ 3073)
    (kk : ∀ (H : Heap) (locs : List Loc) (ls : Array Slot) (ad : Nat → Nat), zl_J D cA s.heap H locs ad (zl_w (if 0 < L then xs 0 else 0)) → lv_has ls 7 (zl_lv b 138 167 ad (Int32.ofNat (1 + 6 * 0))) → W p l e room_1 s m #[Value.ref b] below meth c H locs (168 + 0) (156884 + 6 * 0) Q (F0 m 33 ls [])) :
    W p l e room_1 s m #[Value.ref b] below meth c s.heap [] 0 0 Q (entryFrame m ([Value.ref b] : List Value).toArray 7) := by
  have hx := F.1
  have hb := F.2.1
  have hl := lv_entry ([.ref b]) (n := 7) (Nat.le_of_ble_eq_true rfl)
  rw [lg_entry_eq]
  generalize (lg_sl ([.ref b]) ++ List.replicate (7 - (lg_sl ([.ref b])).length) Slot.unset).toArray = ls at hl ⊢
  have hl : lv_has ls 7 [(0, .ref b)] := hl
  have J0 : zl_J D cA s.heap s.heap [] (fun _ => 0) (zw [] 0) := ⟨(fun k q h => by cases h), ⟨(fun i j p q h => by cases h), (fun k q h => by cases h)⟩, va_S.rf, (fun k c h => by cases h)⟩
  refine zl_new (ci := 12) F (by decide +kernel) (by decide) (by decide +kernel) J0 dL_law_0 (fun q0 H1 J1 => ?_)
  rw [zdf_12, zw.pu] at J1
  rw [zdf_12]
  refine lv_dup hx hb dL_law_3 rfl ?_
  refine lv_aload_n hx hb dL_law_4 rfl (lv_at hl 0 rfl) ?_
  refine lv_iconst (v := 0) hx hb dL_law_5 (by decide) ?_
  refine zl_callCell F hL (by decide) (by decide) (by simp [Value.category]) J1 hl.1 dL_law_6 (fun H2 locs2 J2 => ?_)
  obtain ⟨x, hx9⟩ : ∃ x : Int32, x = if 0 < L then xs 0 else 0 := ⟨_, rfl⟩
  rw [← hx9] at kk ⊢
  have hE1 : za_E 107 [.ref 0, .int x] (zw [.inr (12, [.int 0, .null, .null, .null, .null, .null, .null])] 7) (.inl none) (zw (sp_l x) 60654) := za_T.eq fun G hG => sp_init hG
  have q0e : za_ad (fun _ => 0) (zw [] 0).1 q0 0 = q0 := rfl
  have n1 : (zw (sp_l x) 60654).1 = 138 := sp_l.len x
  refine zl_callI (fs := []) (a := 0) (as := [.int x]) (rest := [.ref q0]) F (by decide +kernel) (by decide +kernel) (by decide +kernel) (by decide +kernel) hE1 (Nat.le_of_ble_eq_true rfl) (by show 0 < 1; decide) rfl rfl (by simp [za_k]) (by rw [n1]; exact Nat.le_of_ble_eq_true rfl) (Nat.le_of_ble_eq_true rfl) (by simp [Value.category]) J2 hl.1 dL_law_9 (fun ad3 H3 locs3 ha3 J3 => ?_)
  have a0 : ad3 0 = q0 := ha3 0 (by show 0 < 1; decide)
  refine W.widen (k := 138) (n := 60654) (by rw [n1]; exact Nat.le_of_ble_eq_true rfl) (Nat.le_of_ble_eq_true rfl) ?_
  refine lv_astore_n (i := 1) hx hb dL_law_12 rfl hl (by decide) rfl (fun ls hl => ?_)
  refine zl_new (ci := 14) F (by decide +kernel) (by decide) (by rw [zdf_14]; exact Nat.le_of_ble_eq_true rfl) J3 dL_law_13 (fun q4 H4 J4 => ?_)
  rw [zdf_14, n1] at J4
  have e4 : za_pu (zw (sp_l x) 60654) 47 (.inr (14, [.int 0, .null, .int 0, .null, .int 0, .null, .int 0, .null, .int 0, .int 0, .int 0, .null, .null, .null, .int 0, .null, .int 0, .int 0, .int 0, .int 0, .null, .int 0, .null, .null, .null, .int 0, .null, .null, .int 0, .null, .null, .null, .null, .int 0, .int 0, .null, .null, .null, .null, .null, .null, .null, .int 0, .null, .null, .null, .int 0])) = zv (sp_l x) [.inr (14, [.int 0, .null, .int 0, .null, .int 0, .null, .int 0, .null, .int 0, .int 0, .int 0, .null, .null, .null, .int 0, .null, .int 0, .int 0, .int 0, .int 0, .null, .int 0, .null, .null, .null, .int 0, .null, .null, .int 0, .null, .null, .null, .null, .int 0, .int 0, .null, .null, .null, .null, .null, .null, .null, .int 0, .null, .null, .null, .int 0])] 60701 := zw.pu _ _ _ _
  have J4 : zl_J D cA s.heap H4 locs3 (za_ad ad3 138 q4) (za_pu (zw (sp_l x) 60654) 47 (.inr (14, [.int 0, .null, .int 0, .null, .int 0, .null, .int 0, .null, .int 0, .int 0, .int 0, .null, .null, .null, .int 0, .null, .int 0, .int 0, .int 0, .int 0, .null, .int 0, .null, .null, .null, .int 0, .null, .null, .int 0, .null, .null, .null, .null, .int 0, .int 0, .null, .null, .null, .null, .null, .null, .null, .int 0, .null, .null, .null, .int 0]))) := J4
  rw [e4] at J4
  refine W.widen (k := 139) (n := 60701) (Nat.le_refl _) (by rw [zdf_14]; exact Nat.le_of_ble_eq_true rfl) ?_
  refine lv_dup hx hb dL_law_16 rfl ?_
  refine lv_aload_n hx hb dL_law_17 rfl (lv_at hl 1 rfl) ?_
  refine lv_iconst (v := 0) hx hb dL_law_18 (by decide) ?_
  refine zl_callCell F hL (by decide) (by decide) (by simp [Value.category]) J4 hl.1 dL_law_19 (fun H5 locs5 J5 => ?_)
  rw [← hx9]
  have hE2 : za_E 131 [.ref 138, .int x] (zv (sp_l x) [.inr (14, [.int 0, .null, .int 0, .null, .int 0, .null, .int 0, .null, .int 0, .int 0, .int 0, .null, .null, .null, .int 0, .null, .int 0, .int 0, .int 0, .int 0, .null, .int 0, .null, .null, .null, .int 0, .null, .null, .int 0, .null, .null, .null, .null, .int 0, .int 0, .null, .null, .null, .null, .null, .null, .null, .int 0, .null, .null, .null, .int 0])] 60701) (.inl none) (zv (sp_l x) (md_l x (sp_l x)) 156883) := za_T.eq fun G hG => md_init (sp_l.len x).symm hG
  have n4 : (zv (sp_l x) [.inr (14, [.int 0, .null, .int 0, .null, .int 0, .null, .int 0, .null, .int 0, .int 0, .int 0, .null, .null, .null, .int 0, .null, .int 0, .int 0, .int 0, .int 0, .null, .int 0, .null, .null, .null, .int 0, .null, .null, .int 0, .null, .null, .null, .null, .int 0, .int 0, .null, .null, .null, .null, .null, .null, .null, .int 0, .null, .null, .null, .int 0])] 60701).1 = 139 := by rw [zv.n, sp_l.len]; rfl
  have n5 : (zv (sp_l x) (md_l x (sp_l x)) 156883).1 = 167 := by rw [zv.n, sp_l.len, md_l.len]
  have q4e : za_ad ad3 138 q4 138 = q4 := by unfold za_ad; rw [if_pos rfl]
  have q4o : za_ad ad3 138 q4 0 = q0 := by unfold za_ad; rw [if_neg (by decide)]; exact a0
  have hc := zl_callI (fs := []) (p := p) (l := l) (e := e) (s := s) (m := m) (below := below) (meth := meth) (c := c) (D := D) (cA := cA) (b := b) (L := L) (xs := xs) (H := H5) (locs := locs5) (Q := Q) (pc := 22) (ls := ls) (a := 138) (as := [.int x]) (rest := [.ref q4]) (ad := za_ad ad3 138 q4) (cells := 139) (slots := 60701) (j := 26) (mj := 131) F (by decide +kernel) (by decide +kernel) (by decide +kernel) (by decide +kernel) hE2 (Nat.le_of_ble_eq_true rfl) (by rw [n4]; decide) rfl rfl (by simp [za_k]) (by rw [n4, n5]; decide) (Nat.le_of_ble_eq_true rfl) (by simp [Value.category]) J5 hl.1 dL_law_22
  rw [q4e] at hc
  refine W.eq (g2 := F0 m 22 ls ([Value.int x].reverse ++ [.ref q4, .ref q4])) rfl ?_
  refine hc (fun ad6 H6 locs6 ha6 J6 => ?_)
  rw [n4] at ha6
  have b0 : ad6 0 = q0 := (ha6 0 (by decide)).trans q4o
  have b1 : ad6 138 = q4 := (ha6 138 (by decide)).trans q4e
  refine W.widen (k := 167) (n := 156883) (by rw [n4, n5]; exact Nat.le_of_ble_eq_true rfl) (Nat.le_of_ble_eq_true rfl) ?_
  refine lv_astore_n (i := 2) hx hb dL_law_25 rfl hl (by decide) rfl (fun ls hl => ?_)
  refine lv_iconst (v := 1) hx hb dL_law_26 (by decide) ?_
  refine zl_newa (t := 2) (x := 1) F rfl (by decide) (by decide) (by decide) (by decide) J6 dL_law_27 (fun q7 H7 J7 => ?_)
  rw [n5] at J7
  have e7 : za_pu (zv (sp_l x) (md_l x (sp_l x)) 156883) (1 : Int32).toNatClampNeg (za_na 2 (1 : Int32).toNatClampNeg) = zl_w x := zv.pu _ _ _ _ _
  rw [e7] at J7
  refine lv_astore_n (i := 3) hx hb dL_law_29 rfl hl (by decide) rfl (fun ls hl => ?_)
  refine lv_iconst (v := 1) hx hb dL_law_30 (by decide) ?_
  refine lv_istore (i := 4) hx hb dL_law_31 hl (by decide) rfl (fun ls hl => ?_)
  have hl9 : lv_has ls 7 (zl_lv b 138 167 (za_ad ad6 167 q7) (Int32.ofNat (1 + 6 * 0))) := by
    have e1 : za_ad ad6 167 q7 0 = q0 := by unfold za_ad; rw [if_neg (by decide)]; exact b0
    have e2 : za_ad ad6 167 q7 138 = q4 := by unfold za_ad; rw [if_neg (by decide)]; exact b1
    have e3 : za_ad ad6 167 q7 167 = q7 := by unfold za_ad; rw [if_pos rfl]
    unfold zl_lv
    rw [e1, e2, e3]
    exact lv_sub hl [4, 3, 2, 1, 0] rfl
  exact kk H7 locs6 ls (za_ad ad6 167 q7) J7 hl9
end ZLB
