/-! THE LAW, 4: cell, the making of its objects, its beginning and its end. -/
def zl_cellQ (L : Nat) (xs : Nat → Int32) : Array Value → State → Outcome → State → Prop := va_Qi (fun (v : Int32) (_ : Unit) => v = if 0 < L then xs 0 else 0) (fun _ _ => True) (fun _ => False)
def zl_cellP (b L : Nat) (xs : Nat → Int32) : Array Value → State → Prop := va_Pc [.ref b, .int 0] (fun U => va_X b L xs U U.heap ∧ b < U.heap.size)
set_option maxHeartbeats 4000000 in
set_option maxRecDepth 100000 in
theorem zl_cell (l : Launch) {b L : Nat} (xs : Nat → Int32) (hL : L ≤ 3073) : Met l (za_y 186) (za_wq 186) { frames := 0, cells := 0, slots := 0, locals := 0 } (zl_cellP b L xs) (zl_cellQ L xs) 0 0 (fun _ => False) := by
  have hm : 186 < zt_mp0.length := by decide +kernel
  refine Met.ofW (cc := cL_cell) (maxL := 2) (ret := some .int) (by decide +kernel) rfl ?_
  intro p e s m args below meth c s₁ B hml hv
  obtain ⟨rfl, hX, hbl⟩ := hv
  have hx := B.exec
  have hb := B.bytes
  have hr := B.returns
  have hl := lv_entry ([.ref b, .int 0]) (n := 2) (Nat.le_of_ble_eq_true rfl)
  rw [lg_entry_eq]
  generalize (lg_sl ([.ref b, .int 0]) ++ List.replicate (2 - (lg_sl ([.ref b, .int 0])).length) Slot.unset).toArray = ls at hl ⊢
  have hl : lv_has ls 2 [(0, .ref b), (1, .int 0)] := hl
  have hS : va_S (fun _ => False) s.heap s.heap [] := va_S.rf
  refine lv_iload_n hx hb dL_cell_0 rfl (lv_at hl 1 rfl) ?_
  refine lv_aload_n hx hb dL_cell_1 rfl (lv_at hl 0 rfl) ?_
  refine va_slen hx hb hX hbl (fun h => h) hS dL_cell_2 ?_
  refine lv_icmp_ge (tgt := 12) hx hb dL_cell_3 rfl (fun h => ?_) (fun h => ?_)
  · have h0 : ¬ 0 < L := fun h1 => by
      have h : Int32.ofNat L ≤ Int32.ofNat 0 := h
      rw [i3_le (by omega) (by omega)] at h
      omega
    refine lv_iconst (v := 0) hx hb dL_cell_12 (by decide) ?_
    exact W.iret hx hb hr (fun t ht hW => ⟨⟨0, (), rfl, by rw [if_neg h0], trivial⟩, hS.F ht⟩) hS.2.2 dL_cell_13
  · have h0 : 0 < L := by
      rcases Nat.eq_zero_or_pos L with h1 | h1
      · subst h1
        exact absurd (Int32.le_refl _) h
      · exact h1
    refine lv_aload_n hx hb dL_cell_6 rfl (lv_at hl 0 rfl) ?_
    refine lv_iload_n hx hb dL_cell_7 rfl (lv_at hl 1 rfl) ?_
    refine va_sld hx hb hX hbl (fun h => h) hS (zl_in (n := 0) (k := 0) (L := L) (by omega) hL) dL_cell_8 ?_
    refine lv_goto (tgt := 13) hx hb dL_cell_9 rfl ?_
    exact W.iret hx hb hr (fun t ht hW => ⟨⟨_, (), rfl, by rw [if_pos h0]; rfl, trivial⟩, hS.F ht⟩) hS.2.2 dL_cell_13
section ZLN
variable {p : Program} {l : Launch} {e : Env} {s : State} {m : MethodId} {below : List Frame} {meth : Method} {c : Code} {D : va_G} {cA : Nat → ClassId} {b L : Nat} {xs : Nat → Int32}
variable {H : Heap} {locs : List Loc} {cells slots : Nat} {Q : State → Prop} {pc : Nat} {ls : Array Slot} {rest : List Value} {ad : Nat → Nat} {w : za_W}
theorem zl_callCell (F : zl_F D cA p s m c b L xs) (hL : L ≤ 3073) (hcl : cells ≤ 601024) (hsl : slots ≤ 7293000) (hcat : (rest.map fun v => v.category).sum ≤ 8) (J : zl_J D cA s.heap H locs ad w) (hls : ls.size = 7) (hd : decode code pc = .ok (.invokestatic 15, 3))
    (kk : ∀ (H1 : Heap) (locs1 : List Loc), zl_J D cA s.heap H1 locs1 ad w → W p l e room_1 s m #[Value.ref b] below meth c H1 locs1 cells slots Q (F0 m (pc + 3) ls (.int (if 0 < L then xs 0 else 0) :: rest))) :
    W p l e room_1 s m #[Value.ref b] below meth c H locs cells slots Q (F0 m pc ls (.int 0 :: .ref b :: rest)) := by
  obtain ⟨hx, hb, hml, hown, hts, hK, hnw, hZ, hX, hbl⟩ := F
  have hm : 186 < zt_mp0.length := by decide +kernel
  obtain ⟨k1, k2, k3, k4, k5, k6, k7⟩ := zt_w_of hm
  have hq : za_cl 15 15 = some (2, 186) := by decide +kernel
  obtain ⟨l1, -, -, l3, -⟩ := zt_c_of hq hm (by show 2 < 6; decide)
  have l1 : Cond.methodLink "SortPacksLaw" 15 (za_y 186) ∈ za_tg := l1 (by show 2 % 2 = 0; decide)
  have l3 : Cond.static (za_y 186) ∈ za_tg := l3 (by show 2 / 2 = 1; decide)
  have cb : CallB room_1 s #[Value.ref b] "SortPacksLaw" 15 (za_y 186) (za_cc 186) (za_mx 186) (za_re 186) (za_wq 186) { frames := 0, cells := 0, slots := 0, locals := 0 } 0 0 2 := callB_of 2 hts (za_tg.gi (za_wq.in k1)) rfl rfl rfl (hts _ k7) (hts _ l1) ⟨k5.1, k5.2, k6⟩ ⟨by decide, by decide +kernel⟩
  have hb0 : H[b]? = s.heap[b]? := J.2.2.1.2.1 b hbl (fun h => Nat.lt_irrefl _ (Nat.lt_of_lt_of_le hbl h))
  refine va_calli (S := Unit) (va_runS (l := l) (e := e) (below := below) (meth := meth) (locs := locs) (cells := cells) (slots := slots) (As := [.ref b, .int 0]) (rest := rest) (g := F0 m pc ls (.int 0 :: .ref b :: rest)) ⟨hx, hb, hml, hown, hts⟩ (zl_cell l xs hL) ⟨cb, hts _ l3⟩ ⟨fun a U g mk h => ⟨h.1, va_X.moved (u := U) (U := U.calling g mk a) (Vm.Alike.refl U.vm) h.2.1, h.2.2⟩, fun U hU hW => ⟨rfl, by rw [hU]; exact va_X.moved hW.alike (va_X.kept hX hb0), by rw [hU]; exact Nat.lt_of_lt_of_le hbl J.2.2.1.1⟩⟩ rfl rfl hls rfl (lv_room hcat) hd ⟨hcl, hsl⟩) J.2.2.1 (fun q _ h => h.elim) (fun q h => h.elim) (fun r u t H1 locs1 e1 e2 e3 e4 e5 e6 e7 => ?_)
  rw [e3]
  refine kk H1 locs1 ⟨J.1.kept (fun k x hx => e6 x.1 (J.1 k x hx).lt (fun h => h)), J.2.1, e7, J.2.2.2⟩
theorem zl_new {j ci : Nat} (F : zl_F D cA p s m c b L xs) (hq : za_nw 15 j = some ci) (hcl : cells + 1 ≤ 601024) (hsl : slots + (zt_df.getD ci []).length ≤ 7293000) (J : zl_J D cA s.heap H locs ad w) (hd : decode code pc = .ok (.new j, 3))
    (kk : ∀ (q : Nat) (H1 : Heap), zl_J D cA s.heap H1 locs (za_ad ad w.1 q) (za_pu w (zt_df.getD ci []).length (.inr (ci, zt_df.getD ci []))) → W p l e room_1 s m #[Value.ref b] below meth c H1 locs (cells + 1) (slots + (zt_df.getD ci []).length) Q (F0 m (pc + 3) ls (.ref q :: rest))) :
    W p l e room_1 s m #[Value.ref b] below meth c H locs cells slots Q (F0 m pc ls rest) := by
  obtain ⟨hx, hb, hml, hown, hts, hK, hnw, hZ, hX, hbl⟩ := F
  obtain ⟨cl, h1, h2, h3, h4, h5⟩ := zt_nw_of hq
  have hc0 : ∀ k, za_kc k (.inr (ci, zt_df.getD ci [])) := fun k y hy => za_df.k ci y hy k
  rw [h5] at hsl
  refine va_new (C := cl.1) (T := cl.2.1) (N := cl.2.2) hx hb hts (zt_us h1) (za_ft ci) (fun k hk => (zt_tys h1 k hk).1) hown (hts _ h2) (hts _ h3) (hts _ h4) hK J.1 J.2.1 J.2.2.1 (fun q h => h) h1 (fun k hk => (zt_tys h1 k hk).2.1) hcl hsl hd (fun q H1 hP hD hS => ?_)
  have he : za_e (za_ad ad w.1 q) cA (.inr (ci, zt_df.getD ci [])) = .inr (ci, zt_df.getD ci []) := by
    show (Sum.inr (ci, (zt_df.getD ci []).map (za_v (za_ad ad w.1 q))) : va_E) = _
    rw [za_df.map ci]
  rw [za_l.push (n := (zt_df.getD ci []).length) J.2.2.2 he] at hP hD
  have := kk q H1 ⟨hP, hD, hS, J.2.2.2.pu (hc0 _)⟩
  rw [h5] at this
  exact this
theorem zl_newa {a : ArrayType} {t : Nat} {x : Int32} (F : zl_F D cA p s m c b L xs) (ht : za_nk a = some t) (hx0 : ¬ x < 0) (hx1 : x.toNatClampNeg ≤ 60000000) (hcl : cells + 1 ≤ 601024) (hsl : slots + x.toNatClampNeg ≤ 7293000) (J : zl_J D cA s.heap H locs ad w) (hd : decode code pc = .ok (.newarray a, 2))
    (kk : ∀ (q : Nat) (H1 : Heap), zl_J D cA s.heap H1 locs (za_ad ad w.1 q) (za_pu w x.toNatClampNeg (za_na t x.toNatClampNeg)) → W p l e room_1 s m #[Value.ref b] below meth c H1 locs (cells + 1) (slots + x.toNatClampNeg) Q (F0 m (pc + 2) ls (.ref q :: rest))) :
    W p l e room_1 s m #[Value.ref b] below meth c H locs cells slots Q (F0 m pc ls (.int x :: rest)) := by
  obtain ⟨hx, hb, hml, hown, hts, hK, hnw, hZ, hX, hbl⟩ := F
  refine za_newa ht hx hb hts hK J.1 J.2.1 J.2.2.1 (fun q h => h) hx0 hx1 hcl hsl hd (fun q H1 hP hD hS => ?_)
  have he : za_e (za_ad ad w.1 q) cA (za_na t x.toNatClampNeg) = za_e ad cA (za_na t x.toNatClampNeg) := za_e.agree (n := w.1) za_ad.old (za_na.k t _ _)
  rw [za_l.push (n := x.toNatClampNeg) J.2.2.2 he] at hP hD
  exact kk q H1 ⟨hP, hD, hS, J.2.2.2.pu (za_na.k t _ _)⟩
end ZLN
