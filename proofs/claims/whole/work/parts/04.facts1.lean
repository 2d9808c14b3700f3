/-! FACTS OF THE TABLES (written by wip/whole/mkfacts.py): each entry against its word of lw_tbl, by its place. -/
/-- the words that every method is given: those of lw_tbl that keep; and those of nest mates, which are carried apart -/
def za_tg : List Cond := lw_tbl.filter goodWord
def za_in (w : Cond) : Bool := match w with
  | .fieldLinkNest _ _ _ _ _ _ => true
  | .methodLinkNest _ _ _ _ => true
  | .arrayOver (.object _) => true
  | .arrayOver (.array .int) => true
  | _ => false
def za_nl : List Cond := lw_tbl.filter za_in
theorem za_tg.of {p : Nat} {w : Cond} (h : lw_tbl[p]? = some w) (hg : goodWord w = true) : w ∈ za_tg := List.mem_filter.mpr ⟨List.mem_of_getElem? h, hg⟩
theorem za_nl.of {p : Nat} {w : Cond} (h : lw_tbl[p]? = some w) (hg : za_in w = true) : w ∈ za_nl := List.mem_filter.mpr ⟨List.mem_of_getElem? h, hg⟩
theorem za_fnd {α : Type} {l : List α} {p : α → Bool} {β : Type} {f : α → β} {b : β} (h : (l.find? p).map f = some b) : ∃ e, e ∈ l ∧ p e = true ∧ f e = b := by
  cases hf : l.find? p with
  | none => rw [hf] at h; cases h
  | some e =>
    rw [hf] at h
    exact ⟨e, List.mem_of_find?_eq_some hf, List.find?_some hf, Option.some.inj h⟩
def zt_fk (e : Nat × Nat × Nat × Nat × String × Nat) : Bool := match vwCl[e.2.2.1]? with
  | some q => decide (e.2.2.2.1 < q.2.2) && decide ((q.2.1 e.2.2.2.1).1 = q.1) && (if e.2.2.2.2.1 = "" then decide (lw_tbl[e.2.2.2.2.2]? = some (.fieldLink (za_rn e.1) e.2.1 q.1 (q.2.1 e.2.2.2.1).2.1 (q.2.1 e.2.2.2.1).2.2.1)) else decide (lw_tbl[e.2.2.2.2.2]? = some (.fieldLinkNest (za_rn e.1) e.2.1 q.1 (q.2.1 e.2.2.2.1).2.1 (q.2.1 e.2.2.2.1).2.2.1 e.2.2.2.2.1)))
  | none => false
set_option maxRecDepth 100000 in
theorem zt_f_ok : zt_f.all zt_fk = true := by decide +kernel
theorem zt_f_of {o i : Nat} {q : Nat × Nat} (h : za_fd o i = some q) : ∃ c : vw_C, vwCl[q.1]? = some c ∧ q.2 < c.2.2 ∧ (c.2.1 q.2).1 = c.1 ∧ (Cond.fieldLink (za_rn o) i c.1 (c.2.1 q.2).2.1 (c.2.1 q.2).2.2.1 ∈ za_tg ∨ ∃ host, Cond.fieldLinkNest (za_rn o) i c.1 (c.2.1 q.2).2.1 (c.2.1 q.2).2.2.1 host ∈ za_nl) := by
  obtain ⟨e, he, hp, rfl⟩ := za_fnd h
  have h1 := List.all_eq_true.mp zt_f_ok e he
  simp only [Bool.and_eq_true, beq_iff_eq] at hp
  obtain ⟨rfl, rfl⟩ := hp
  unfold zt_fk at h1
  cases hc : vwCl[e.2.2.1]? with
  | none => rw [hc] at h1; cases h1
  | some c =>
    rw [hc] at h1
    simp only [Bool.and_eq_true, decide_eq_true_eq] at h1
    refine ⟨c, rfl, h1.1.1, h1.1.2, ?_⟩
    have h2 := h1.2
    by_cases hh : e.2.2.2.2.1 = ""
    · rw [if_pos hh] at h2
      exact Or.inl (za_tg.of (of_decide_eq_true h2) rfl)
    · rw [if_neg hh] at h2
      exact Or.inr ⟨_, za_nl.of (of_decide_eq_true h2) rfl⟩
set_option maxRecDepth 100000 in
theorem zt_ki_ok : zt_ki.all (fun e => decide (lw_tbl[e.2.2.2]? = some (.constant (za_rn e.1) e.2.1 e.2.2.1))) = true := by decide +kernel
theorem zt_ki_of {o i : Nat} {v : Int32} (h : za_ki o i = some v) : Cond.constant (za_rn o) i v ∈ za_tg := by
  obtain ⟨e, he, hp, rfl⟩ := za_fnd h
  have h1 := List.all_eq_true.mp zt_ki_ok e he
  simp only [Bool.and_eq_true, beq_iff_eq] at hp
  obtain ⟨rfl, rfl⟩ := hp
  exact za_tg.of (of_decide_eq_true h1) rfl
set_option maxRecDepth 100000 in
theorem zt_kl_ok : zt_kl.all (fun e => decide (lw_tbl[e.2.2.2]? = some (.constantLong (za_rn e.1) e.2.1 e.2.2.1))) = true := by decide +kernel
theorem zt_kl_of {o i : Nat} {v : Int64} (h : za_kl o i = some v) : Cond.constantLong (za_rn o) i v ∈ za_tg := by
  obtain ⟨e, he, hp, rfl⟩ := za_fnd h
  have h1 := List.all_eq_true.mp zt_kl_ok e he
  simp only [Bool.and_eq_true, beq_iff_eq] at hp
  obtain ⟨rfl, rfl⟩ := hp
  exact za_tg.of (of_decide_eq_true h1) rfl
/-- of a class of vwCl: the places of 'instantiable' and 'initialized' -/
def zt_in : List (Nat × Nat) := [(973, 102), (374, 93), (289, 90), (305, 91), (145, 85), (236, 88), (365, 92), (230, 87), (118, 83), (252, 89), (139, 84), (211, 86), (104, 81), (1054, 98), (1048, 94)]
def zt_nk (e : Nat × Nat × Nat × Nat) : Bool := match vwCl[e.2.2.1]? with
  | some q => decide (lw_tbl[e.2.2.2]? = some (.classLink (za_rn e.1) e.2.1 q.1)) && decide (lw_tbl[(zt_in.getD e.2.2.1 (0, 0)).1]? = some (.instantiable q.1 q.2.2)) && decide (lw_tbl[(zt_in.getD e.2.2.1 (0, 0)).2]? = some (.initialized q.1)) && decide ((zt_df.getD e.2.2.1 []).length = q.2.2)
  | none => false
set_option maxRecDepth 100000 in
theorem zt_nw_ok : zt_nw.all zt_nk = true := by decide +kernel
theorem zt_nw_of {o i c : Nat} (h : za_nw o i = some c) : ∃ q : vw_C, vwCl[c]? = some q ∧ Cond.classLink (za_rn o) i q.1 ∈ za_tg ∧ Cond.instantiable q.1 q.2.2 ∈ za_tg ∧ Cond.initialized q.1 ∈ za_tg ∧ (zt_df.getD c []).length = q.2.2 := by
  obtain ⟨e, he, hp, rfl⟩ := za_fnd h
  have h1 := List.all_eq_true.mp zt_nw_ok e he
  simp only [Bool.and_eq_true, beq_iff_eq] at hp
  obtain ⟨rfl, rfl⟩ := hp
  unfold zt_nk at h1
  cases hc : vwCl[e.2.2.1]? with
  | none => rw [hc] at h1; cases h1
  | some c =>
    rw [hc] at h1
    simp only [Bool.and_eq_true, decide_eq_true_eq] at h1
    exact ⟨c, rfl, za_tg.of h1.1.1.1 rfl, za_tg.of h1.1.1.2 rfl, za_tg.of h1.1.2 rfl, h1.2⟩
set_option maxRecDepth 100000 in
theorem zk_in0 : GoodIn lw_tbl (u_ws RJx00060 TJx00060 6) := goodIn_r _ [985, 987, 989, 991, 993, 1039] (by decide +kernel) (by decide +kernel)
set_option maxRecDepth 100000 in
theorem zk_in1 : GoodIn lw_tbl (u_ws RX0 TX0 2) := goodIn_r _ [382, 384] (by decide +kernel) (by decide +kernel)
set_option maxRecDepth 100000 in
theorem zk_in2 : GoodIn lw_tbl (u_ws RX1 TX1 3) := goodIn_r _ [298, 300, 302] (by decide +kernel) (by decide +kernel)
set_option maxRecDepth 100000 in
theorem zk_in3 : GoodIn lw_tbl (u_ws RX2 TX2 5) := goodIn_r _ [316, 318, 320, 322, 324] (by decide +kernel) (by decide +kernel)
set_option maxRecDepth 100000 in
theorem zk_in4 : GoodIn lw_tbl (u_ws RX3 TX3 5) := goodIn_r _ [170, 172, 174, 176, 178] (by decide +kernel) (by decide +kernel)
set_option maxRecDepth 100000 in
theorem zk_in5 : GoodIn lw_tbl (u_ws RX4 TX4 2) := goodIn_r _ [246, 248] (by decide +kernel) (by decide +kernel)
set_option maxRecDepth 100000 in
theorem zk_in6 : GoodIn lw_tbl (u_ws RX5 TX5 13) := goodIn_r _ [402, 404, 406, 408, 410, 412, 414, 416, 418, 420, 422, 424, 426] (by decide +kernel) (by decide +kernel)
set_option maxRecDepth 100000 in
theorem zk_in7 : GoodIn lw_tbl (u_ws RX6 TX6 12) := goodIn_r _ [339, 341, 343, 345, 347, 349, 351, 353, 355, 357, 359, 361] (by decide +kernel) (by decide +kernel)
set_option maxRecDepth 100000 in
theorem zk_in8 : GoodIn lw_tbl (u_ws RX7 TX7 2) := goodIn_r _ [132, 134] (by decide +kernel) (by decide +kernel)
set_option maxRecDepth 100000 in
theorem zk_in9 : GoodIn lw_tbl (u_ws RX8 TX8 9) := goodIn_r _ [267, 269, 271, 273, 275, 277, 279, 281, 283] (by decide +kernel) (by decide +kernel)
set_option maxRecDepth 100000 in
theorem zk_in10 : GoodIn lw_tbl (u_ws RX9 TX9 7) := goodIn_r _ [195, 197, 199, 201, 203, 205, 207] (by decide +kernel) (by decide +kernel)
set_option maxRecDepth 100000 in
theorem zk_in11 : GoodIn lw_tbl (u_ws RX10 TX10 4) := goodIn_r _ [220, 222, 224, 226] (by decide +kernel) (by decide +kernel)
set_option maxRecDepth 100000 in
theorem zk_in12 : GoodIn lw_tbl (u_ws RX11 TX11 7) := goodIn_r _ [436, 438, 440, 442, 444, 446, 448] (by decide +kernel) (by decide +kernel)
set_option maxRecDepth 100000 in
theorem zk_in13 : GoodIn lw_tbl (u_ws RX12 TX12 7) := goodIn_r _ [1057, 1058, 1059, 1060, 1061, 1077, 1075] (by decide +kernel) (by decide +kernel)
set_option maxRecDepth 100000 in
theorem zk_in14 : GoodIn lw_tbl (u_ws RX13 TX13 47) := goodIn_r _ [1127, 1129, 1131, 1133, 1135, 1137, 1139, 1141, 1143, 1145, 1147, 1149, 1151, 1153, 1155, 1157, 1159, 1161, 1163, 1165, 1167, 1169, 1171, 1173, 1175, 1177, 1179, 1181, 1183, 1185, 1187, 1189, 1191, 1193, 1195, 1197, 1199, 1201, 1203, 1205, 1207, 1209, 1211, 1213, 1215, 1217, 1219] (by decide +kernel) (by decide +kernel)
theorem zt_tgg {ws : List Cond} (h : GoodIn lw_tbl ws) (hg : ws.all goodWord = true) : ∀ w ∈ ws, w ∈ za_tg := fun w hw => List.mem_filter.mpr ⟨(h w hw).1, List.all_eq_true.mp hg w hw⟩
set_option maxRecDepth 100000 in
theorem zk_us0 : ∀ w ∈ u_ws RJx00060 TJx00060 6, w ∈ za_tg := zt_tgg zk_in0 (by decide +kernel)
set_option maxRecDepth 100000 in
theorem zk_ty0 : ∀ k, k < 6 → parseFieldDescriptor (TJx00060 k).2.2.1 = some (za_ft 0 k) ∧ defaultValue (za_ft 0 k) = vp_V (zt_df.getD 0 []) k ∧ za_ft 0 k ≠ .byte ∧ za_ft 0 k ≠ .char ∧ za_ft 0 k ≠ .short ∧ (TJx00060 k).2.2.2 = za_fi 0 k := by decide +kernel
set_option maxRecDepth 100000 in
theorem zk_us1 : ∀ w ∈ u_ws RX0 TX0 2, w ∈ za_tg := zt_tgg zk_in1 (by decide +kernel)
set_option maxRecDepth 100000 in
theorem zk_ty1 : ∀ k, k < 2 → parseFieldDescriptor (TX0 k).2.2.1 = some (za_ft 1 k) ∧ defaultValue (za_ft 1 k) = vp_V (zt_df.getD 1 []) k ∧ za_ft 1 k ≠ .byte ∧ za_ft 1 k ≠ .char ∧ za_ft 1 k ≠ .short ∧ (TX0 k).2.2.2 = za_fi 1 k := by decide +kernel
set_option maxRecDepth 100000 in
theorem zk_us2 : ∀ w ∈ u_ws RX1 TX1 3, w ∈ za_tg := zt_tgg zk_in2 (by decide +kernel)
set_option maxRecDepth 100000 in
theorem zk_ty2 : ∀ k, k < 3 → parseFieldDescriptor (TX1 k).2.2.1 = some (za_ft 2 k) ∧ defaultValue (za_ft 2 k) = vp_V (zt_df.getD 2 []) k ∧ za_ft 2 k ≠ .byte ∧ za_ft 2 k ≠ .char ∧ za_ft 2 k ≠ .short ∧ (TX1 k).2.2.2 = za_fi 2 k := by decide +kernel
set_option maxRecDepth 100000 in
theorem zk_us3 : ∀ w ∈ u_ws RX2 TX2 5, w ∈ za_tg := zt_tgg zk_in3 (by decide +kernel)
set_option maxRecDepth 100000 in
theorem zk_ty3 : ∀ k, k < 5 → parseFieldDescriptor (TX2 k).2.2.1 = some (za_ft 3 k) ∧ defaultValue (za_ft 3 k) = vp_V (zt_df.getD 3 []) k ∧ za_ft 3 k ≠ .byte ∧ za_ft 3 k ≠ .char ∧ za_ft 3 k ≠ .short ∧ (TX2 k).2.2.2 = za_fi 3 k := by decide +kernel
set_option maxRecDepth 100000 in
theorem zk_us4 : ∀ w ∈ u_ws RX3 TX3 5, w ∈ za_tg := zt_tgg zk_in4 (by decide +kernel)
set_option maxRecDepth 100000 in
theorem zk_ty4 : ∀ k, k < 5 → parseFieldDescriptor (TX3 k).2.2.1 = some (za_ft 4 k) ∧ defaultValue (za_ft 4 k) = vp_V (zt_df.getD 4 []) k ∧ za_ft 4 k ≠ .byte ∧ za_ft 4 k ≠ .char ∧ za_ft 4 k ≠ .short ∧ (TX3 k).2.2.2 = za_fi 4 k := by decide +kernel
set_option maxRecDepth 100000 in
theorem zk_us5 : ∀ w ∈ u_ws RX4 TX4 2, w ∈ za_tg := zt_tgg zk_in5 (by decide +kernel)
set_option maxRecDepth 100000 in
theorem zk_ty5 : ∀ k, k < 2 → parseFieldDescriptor (TX4 k).2.2.1 = some (za_ft 5 k) ∧ defaultValue (za_ft 5 k) = vp_V (zt_df.getD 5 []) k ∧ za_ft 5 k ≠ .byte ∧ za_ft 5 k ≠ .char ∧ za_ft 5 k ≠ .short ∧ (TX4 k).2.2.2 = za_fi 5 k := by decide +kernel
set_option maxRecDepth 100000 in
theorem zk_us6 : ∀ w ∈ u_ws RX5 TX5 13, w ∈ za_tg := zt_tgg zk_in6 (by decide +kernel)
set_option maxRecDepth 100000 in
theorem zk_ty6 : ∀ k, k < 13 → parseFieldDescriptor (TX5 k).2.2.1 = some (za_ft 6 k) ∧ defaultValue (za_ft 6 k) = vp_V (zt_df.getD 6 []) k ∧ za_ft 6 k ≠ .byte ∧ za_ft 6 k ≠ .char ∧ za_ft 6 k ≠ .short ∧ (TX5 k).2.2.2 = za_fi 6 k := by decide +kernel
set_option maxRecDepth 100000 in
theorem zk_us7 : ∀ w ∈ u_ws RX6 TX6 12, w ∈ za_tg := zt_tgg zk_in7 (by decide +kernel)
set_option maxRecDepth 100000 in
theorem zk_ty7 : ∀ k, k < 12 → parseFieldDescriptor (TX6 k).2.2.1 = some (za_ft 7 k) ∧ defaultValue (za_ft 7 k) = vp_V (zt_df.getD 7 []) k ∧ za_ft 7 k ≠ .byte ∧ za_ft 7 k ≠ .char ∧ za_ft 7 k ≠ .short ∧ (TX6 k).2.2.2 = za_fi 7 k := by decide +kernel
set_option maxRecDepth 100000 in
theorem zk_us8 : ∀ w ∈ u_ws RX7 TX7 2, w ∈ za_tg := zt_tgg zk_in8 (by decide +kernel)
set_option maxRecDepth 100000 in
theorem zk_ty8 : ∀ k, k < 2 → parseFieldDescriptor (TX7 k).2.2.1 = some (za_ft 8 k) ∧ defaultValue (za_ft 8 k) = vp_V (zt_df.getD 8 []) k ∧ za_ft 8 k ≠ .byte ∧ za_ft 8 k ≠ .char ∧ za_ft 8 k ≠ .short ∧ (TX7 k).2.2.2 = za_fi 8 k := by decide +kernel
set_option maxRecDepth 100000 in
theorem zk_us9 : ∀ w ∈ u_ws RX8 TX8 9, w ∈ za_tg := zt_tgg zk_in9 (by decide +kernel)
set_option maxRecDepth 100000 in
theorem zk_ty9 : ∀ k, k < 9 → parseFieldDescriptor (TX8 k).2.2.1 = some (za_ft 9 k) ∧ defaultValue (za_ft 9 k) = vp_V (zt_df.getD 9 []) k ∧ za_ft 9 k ≠ .byte ∧ za_ft 9 k ≠ .char ∧ za_ft 9 k ≠ .short ∧ (TX8 k).2.2.2 = za_fi 9 k := by decide +kernel
set_option maxRecDepth 100000 in
theorem zk_us10 : ∀ w ∈ u_ws RX9 TX9 7, w ∈ za_tg := zt_tgg zk_in10 (by decide +kernel)
set_option maxRecDepth 100000 in
theorem zk_ty10 : ∀ k, k < 7 → parseFieldDescriptor (TX9 k).2.2.1 = some (za_ft 10 k) ∧ defaultValue (za_ft 10 k) = vp_V (zt_df.getD 10 []) k ∧ za_ft 10 k ≠ .byte ∧ za_ft 10 k ≠ .char ∧ za_ft 10 k ≠ .short ∧ (TX9 k).2.2.2 = za_fi 10 k := by decide +kernel
set_option maxRecDepth 100000 in
theorem zk_us11 : ∀ w ∈ u_ws RX10 TX10 4, w ∈ za_tg := zt_tgg zk_in11 (by decide +kernel)
set_option maxRecDepth 100000 in
theorem zk_ty11 : ∀ k, k < 4 → parseFieldDescriptor (TX10 k).2.2.1 = some (za_ft 11 k) ∧ defaultValue (za_ft 11 k) = vp_V (zt_df.getD 11 []) k ∧ za_ft 11 k ≠ .byte ∧ za_ft 11 k ≠ .char ∧ za_ft 11 k ≠ .short ∧ (TX10 k).2.2.2 = za_fi 11 k := by decide +kernel
set_option maxRecDepth 100000 in
theorem zk_us12 : ∀ w ∈ u_ws RX11 TX11 7, w ∈ za_tg := zt_tgg zk_in12 (by decide +kernel)
set_option maxRecDepth 100000 in
theorem zk_ty12 : ∀ k, k < 7 → parseFieldDescriptor (TX11 k).2.2.1 = some (za_ft 12 k) ∧ defaultValue (za_ft 12 k) = vp_V (zt_df.getD 12 []) k ∧ za_ft 12 k ≠ .byte ∧ za_ft 12 k ≠ .char ∧ za_ft 12 k ≠ .short ∧ (TX11 k).2.2.2 = za_fi 12 k := by decide +kernel
set_option maxRecDepth 100000 in
theorem zk_us13 : ∀ w ∈ u_ws RX12 TX12 7, w ∈ za_tg := zt_tgg zk_in13 (by decide +kernel)
set_option maxRecDepth 100000 in
theorem zk_ty13 : ∀ k, k < 7 → parseFieldDescriptor (TX12 k).2.2.1 = some (za_ft 13 k) ∧ defaultValue (za_ft 13 k) = vp_V (zt_df.getD 13 []) k ∧ za_ft 13 k ≠ .byte ∧ za_ft 13 k ≠ .char ∧ za_ft 13 k ≠ .short ∧ (TX12 k).2.2.2 = za_fi 13 k := by decide +kernel
set_option maxRecDepth 100000 in
theorem zk_us14 : ∀ w ∈ u_ws RX13 TX13 47, w ∈ za_tg := zt_tgg zk_in14 (by decide +kernel)
set_option maxRecDepth 100000 in
theorem zk_ty14 : ∀ k, k < 47 → parseFieldDescriptor (TX13 k).2.2.1 = some (za_ft 14 k) ∧ defaultValue (za_ft 14 k) = vp_V (zt_df.getD 14 []) k ∧ za_ft 14 k ≠ .byte ∧ za_ft 14 k ≠ .char ∧ za_ft 14 k ≠ .short ∧ (TX13 k).2.2.2 = za_fi 14 k := by decide +kernel
theorem zt_us {ci : Nat} {q : vw_C} (h : vwCl[ci]? = some q) : ∀ w ∈ u_ws q.1 q.2.1 q.2.2, w ∈ za_tg := by
  match ci, h with
  | 0, h => cases h; exact zk_us0
  | 1, h => cases h; exact zk_us1
  | 2, h => cases h; exact zk_us2
  | 3, h => cases h; exact zk_us3
  | 4, h => cases h; exact zk_us4
  | 5, h => cases h; exact zk_us5
  | 6, h => cases h; exact zk_us6
  | 7, h => cases h; exact zk_us7
  | 8, h => cases h; exact zk_us8
  | 9, h => cases h; exact zk_us9
  | 10, h => cases h; exact zk_us10
  | 11, h => cases h; exact zk_us11
  | 12, h => cases h; exact zk_us12
  | 13, h => cases h; exact zk_us13
  | 14, h => cases h; exact zk_us14
  | k + 15, h => cases h
theorem zt_tys {ci : Nat} {q : vw_C} (h : vwCl[ci]? = some q) : ∀ k, k < q.2.2 → parseFieldDescriptor (q.2.1 k).2.2.1 = some (za_ft ci k) ∧ defaultValue (za_ft ci k) = vp_V (zt_df.getD ci []) k ∧ za_ft ci k ≠ .byte ∧ za_ft ci k ≠ .char ∧ za_ft ci k ≠ .short ∧ (q.2.1 k).2.2.2 = za_fi ci k := by
  match ci, h with
  | 0, h => cases h; exact zk_ty0
  | 1, h => cases h; exact zk_ty1
  | 2, h => cases h; exact zk_ty2
  | 3, h => cases h; exact zk_ty3
  | 4, h => cases h; exact zk_ty4
  | 5, h => cases h; exact zk_ty5
  | 6, h => cases h; exact zk_ty6
  | 7, h => cases h; exact zk_ty7
  | 8, h => cases h; exact zk_ty8
  | 9, h => cases h; exact zk_ty9
  | 10, h => cases h; exact zk_ty10
  | 11, h => cases h; exact zk_ty11
  | 12, h => cases h; exact zk_ty12
  | 13, h => cases h; exact zk_ty13
  | 14, h => cases h; exact zk_ty14
  | k + 15, h => cases h
theorem zt_nms {ci : Nat} {q : vw_C} (h : vwCl[ci]? = some q) : ∀ a, a < q.2.2 → ∀ b, b < q.2.2 → a ≠ b → (q.2.1 a).2.1 ≠ (q.2.1 b).2.1 := by
  match ci, h with
  | 0, h => cases h; exact nmJx00060
  | 1, h => cases h; exact nmX0
  | 2, h => cases h; exact nmX1
  | 3, h => cases h; exact nmX2
  | 4, h => cases h; exact nmX3
  | 5, h => cases h; exact nmX4
  | 6, h => cases h; exact nmX5
  | 7, h => cases h; exact nmX6
  | 8, h => cases h; exact nmX7
  | 9, h => cases h; exact nmX8
  | 10, h => cases h; exact nmX9
  | 11, h => cases h; exact nmX10
  | 12, h => cases h; exact nmX11
  | 13, h => cases h; exact nmX12
  | 14, h => cases h; exact nmX13
  | k + 15, h => cases h
set_option maxRecDepth 100000 in
theorem zt_dfs : zt_df.all (fun l => l.all fun v => match v with | .ref _ => false | _ => true) = true := by decide +kernel
set_option maxRecDepth 100000 in
theorem zt_rns : (List.range 15).all (fun i => decide ((vwCl[i]?).map (fun q => q.1) = some (za_rn i))) = true := by decide +kernel
