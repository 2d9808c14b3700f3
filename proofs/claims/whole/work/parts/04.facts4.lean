/-! the library's words -/
set_option maxRecDepth 100000 in
theorem zw_oi : Cond.instanceMethod objectInit ∈ za_tg := za_tg.of (p := 109) (by decide +kernel) rfl
set_option maxRecDepth 100000 in
theorem zw_oc : Cond.code objectInit ⟨#[0xb1]⟩ 1 none ∈ za_tg := za_tg.of (p := 110) (rfl) rfl
set_option maxRecDepth 100000 in
theorem zw_xs : Cond.static Lib.Math.max.name ∈ za_tg := za_tg.of (p := 115) (by decide +kernel) rfl
set_option maxRecDepth 100000 in
theorem zw_ns : Cond.static Lib.Math.min.name ∈ za_tg := za_tg.of (p := 112) (by decide +kernel) rfl
set_option maxRecDepth 100000 in
theorem zw_mi : Cond.initialized "java/lang/Math" ∈ za_tg := za_tg.of (p := 82) (by decide +kernel) rfl
set_option maxRecDepth 100000 in
theorem zw_xc : Cond.code Lib.Math.max.name Lib.Math.max.code 2 (some .int) ∈ za_tg := za_tg.of (p := 116) (rfl) rfl
set_option maxRecDepth 100000 in
theorem zw_nc : Cond.code Lib.Math.min.name Lib.Math.min.code 2 (some .int) ∈ za_tg := za_tg.of (p := 113) (rfl) rfl
set_option maxRecDepth 100000 in
theorem zw_si : Cond.initialized "java/lang/System" ∈ za_tg := za_tg.of (p := 100) (by decide +kernel) rfl
set_option maxRecDepth 100000 in
theorem zw_as : Cond.static arraycopyName ∈ za_tg := za_tg.of (p := 564) (by decide +kernel) rfl
set_option maxRecDepth 100000 in
theorem zw_an : Cond.native arraycopyName ∈ za_tg := za_tg.of (p := 565) (by decide +kernel) rfl
set_option maxRecDepth 100000 in
theorem zw_abc : Cond.arrayClass .byte ∈ za_tg := za_tg.of (p := 137) (by decide +kernel) rfl
set_option maxRecDepth 100000 in
theorem zw_aic : Cond.arrayClass .int ∈ za_tg := za_tg.of (p := 181) (by decide +kernel) rfl
set_option maxRecDepth 100000 in
theorem zw_azc : Cond.arrayClass .boolean ∈ za_tg := za_tg.of (p := 1222) (by decide +kernel) rfl
set_option maxRecDepth 100000 in
theorem zw_alc : Cond.arrayClass .long ∈ za_tg := za_tg.of (p := 1223) (by decide +kernel) rfl
set_option maxRecDepth 100000 in
theorem zw_ao : Cond.arrayOver (.object "SortPacks$Codes") ∈ za_nl := za_nl.of (p := 287) (by decide +kernel) rfl
set_option maxRecDepth 100000 in
theorem zt_th_ok : zt_c.all (fun e => decide (6 ≤ e.2.2.1) || !(za_th e.2.2.2.1) || decide (e.2.2.1 = 0)) = true := by decide +kernel
