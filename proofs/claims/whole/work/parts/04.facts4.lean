/-! the library's words -/
set_option maxRecDepth 100000 in
theorem zw_oi : Cond.instanceMethod objectInit ∈ za_tg := za_tg.of (p := 109) (by decide +kernel) rfl
set_option maxRecDepth 100000 in
theorem zw_oc : Cond.code objectInit ⟨#[0xb1]⟩ 1 none ∈ za_tg := za_tg.of (p := 110) (rfl) rfl
set_option maxRecDepth 100000 in
theorem zw_xs : Cond.static Lib.Math.max.name ∈ za_tg := za_tg.of (p := 115) (by decide +kernel) rfl
set_option maxRecDepth 100000 in
theorem zw_ns : Cond.static Lib.Math.min.name ∈ za_tg := za_tg.of (p := 112) (by decide +kernel) rfl
set_option maxRecDepth 100000 in
theorem zw_mi : Cond.initialized "java/lang/Math" ∈ za_tg := za_tg.of (p := 82) (by decide +kernel) rfl
set_option maxRecDepth 100000 in
theorem zw_xc : Cond.code Lib.Math.max.name Lib.Math.max.code 2 (some .int) ∈ za_tg := za_tg.of (p := 116) (rfl) rfl
set_option maxRecDepth 100000 in
theorem zw_nc : Cond.code Lib.Math.min.name Lib.Math.min.code 2 (some .int) ∈ za_tg := za_tg.of (p := 113) (rfl) rfl
set_option maxRecDepth 100000 in
theorem zw_si : Cond.initialized "java/lang/System" ∈ za_tg := za_tg.of (p := 100) (by decide +kernel) rfl
set_option maxRecDepth 100000 in
theorem zw_as : Cond.static arraycopyName ∈ za_tg := za_tg.of (p := 564) (by decide +kernel) rfl
set_option maxRecDepth 100000 in
theorem zw_an : Cond.native arraycopyName ∈ za_tg := za_tg.of (p := 565) (by decide +kernel) rfl
set_option maxRecDepth 100000 in
theorem zw_abc : Cond.arrayClass .byte ∈ za_tg := za_tg.of (p := 137) (by decide +kernel) rfl
set_option maxRecDepth 100000 in
theorem zw_aic : Cond.arrayClass .int ∈ za_tg := za_tg.of (p := 181) (by decide +kernel) rfl
set_option maxRecDepth 100000 in
theorem zw_azc : Cond.arrayClass .boolean ∈ za_tg := za_tg.of (p := 1222) (by decide +kernel) rfl
set_option maxRecDepth 100000 in
theorem zw_alc : Cond.arrayClass .long ∈ za_tg := za_tg.of (p := 1223) (by decide +kernel) rfl
set_option maxRecDepth 100000 in
theorem zw_ao : Cond.arrayOver (.object "SortPacks$Codes") ∈ za_nl := za_nl.of (p := 287) (by decide +kernel) rfl
set_option maxRecDepth 100000 in
theorem zw_lb : Cond.classLink "SortPacksModel" 13 "SortPacksModel$Broken" ∈ za_tg := za_tg.of (p := 1053) (by decide +kernel) rfl
set_option maxRecDepth 100000 in
theorem zw_aa : Cond.arrayOver (.array .int) ∈ za_nl := za_nl.of (p := 151) (by decide +kernel) rfl
set_option maxRecDepth 100000 in
theorem zt_mm_ok : ∀ e ∈ zt_mm, lw_tbl[e.2.2]? = some (Cond.classLink (za_rn e.1) e.2.1 ("[" ++ (FieldType.array .int).toString)) := by
  intro e he
  simp only [zt_mm, List.mem_cons, List.not_mem_nil, or_false] at he
  rcases he with rfl | rfl <;> decide +kernel
theorem zt_mm_of {o i : Nat} (h : za_mm o i = true) : Cond.classLink (za_rn o) i ("[" ++ (FieldType.array .int).toString) ∈ za_tg := by
  obtain ⟨e, he⟩ := Option.isSome_iff_exists.mp h
  have h1 := List.find?_some he
  simp only [Bool.and_eq_true, beq_iff_eq] at h1
  obtain ⟨rfl, rfl⟩ := h1
  exact za_tg.of (zt_mm_ok e (List.mem_of_find?_eq_some he)) rfl
set_option maxRecDepth 100000 in
theorem zt_th_ok : zt_c.all (fun e => decide (6 ≤ e.2.2.1) || !(za_th e.2.2.2.1) || decide (e.2.2.1 = 0)) = true := by decide +kernel
