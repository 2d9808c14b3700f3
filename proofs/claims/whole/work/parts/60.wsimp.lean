/-! THE WALK, 2: numbers that are not negative, decided by omega; the model's fields; what a method leaves as it was. -/
theorem wl_nn1 {a b : Nat} (h : a < b) (hb : b < 2147483648) : (Int32.ofNat a < Int32.ofNat b) = True := eq_true (by rw [show (Int32.ofNat a < Int32.ofNat b) = (Int32.ofNat a < Int32.ofNat b) from rfl, i3_lt (by omega) (by omega)]; exact h)
theorem wl_nn0 {a b : Nat} (h : b ≤ a) (ha : a < 2147483648) : (Int32.ofNat a < Int32.ofNat b) = False := eq_false (by rw [show (Int32.ofNat a < Int32.ofNat b) = (Int32.ofNat a < Int32.ofNat b) from rfl, i3_lt (by omega) (by omega)]; omega)
theorem wm_nn1 {a b : Nat} (h : a ≤ b) (hb : b < 2147483648) : (Int32.ofNat a ≤ Int32.ofNat b) = True := eq_true (by rw [show (Int32.ofNat a ≤ Int32.ofNat b) = (Int32.ofNat a ≤ Int32.ofNat b) from rfl, i3_le (by omega) (by omega)]; exact h)
theorem wm_nn0 {a b : Nat} (h : b < a) (ha : a < 2147483648) : (Int32.ofNat a ≤ Int32.ofNat b) = False := eq_false (by rw [show (Int32.ofNat a ≤ Int32.ofNat b) = (Int32.ofNat a ≤ Int32.ofNat b) from rfl, i3_le (by omega) (by omega)]; omega)
theorem we_nn1 {a b : Nat} (h : a = b) : (Int32.ofNat a = Int32.ofNat b) = True := eq_true (show Int32.ofNat a = Int32.ofNat b by rw [h])
theorem we_nn0 {a b : Nat} (h : a ≠ b) (ha : a < 2147483648) (hb : b < 2147483648) : (Int32.ofNat a = Int32.ofNat b) = False := eq_false (fun hc => h (by have h9 := congrArg Int32.toNatClampNeg (show Int32.ofNat a = Int32.ofNat b from hc); rw [i3_n ha, i3_n hb] at h9; exact h9))
theorem wl_nl1 {a b : Nat} (h : a < (OfNat.ofNat b : Nat)) (hb : (OfNat.ofNat b : Nat) < 2147483648) : (Int32.ofNat a < (no_index (OfNat.ofNat b) : Int32)) = True := eq_true (by rw [show (Int32.ofNat a < (no_index (OfNat.ofNat b) : Int32)) = (Int32.ofNat a < Int32.ofNat (OfNat.ofNat b : Nat)) from rfl, i3_lt (by omega) (by omega)]; exact h)
theorem wl_nl0 {a b : Nat} (h : (OfNat.ofNat b : Nat) ≤ a) (ha : a < 2147483648) : (Int32.ofNat a < (no_index (OfNat.ofNat b) : Int32)) = False := eq_false (by rw [show (Int32.ofNat a < (no_index (OfNat.ofNat b) : Int32)) = (Int32.ofNat a < Int32.ofNat (OfNat.ofNat b : Nat)) from rfl, i3_lt (by omega) (by omega)]; omega)
theorem wm_nl1 {a b : Nat} (h : a ≤ (OfNat.ofNat b : Nat)) (hb : (OfNat.ofNat b : Nat) < 2147483648) : (Int32.ofNat a ≤ (no_index (OfNat.ofNat b) : Int32)) = True := eq_true (by rw [show (Int32.ofNat a ≤ (no_index (OfNat.ofNat b) : Int32)) = (Int32.ofNat a ≤ Int32.ofNat (OfNat.ofNat b : Nat)) from rfl, i3_le (by omega) (by omega)]; exact h)
theorem wm_nl0 {a b : Nat} (h : (OfNat.ofNat b : Nat) < a) (ha : a < 2147483648) : (Int32.ofNat a ≤ (no_index (OfNat.ofNat b) : Int32)) = False := eq_false (by rw [show (Int32.ofNat a ≤ (no_index (OfNat.ofNat b) : Int32)) = (Int32.ofNat a ≤ Int32.ofNat (OfNat.ofNat b : Nat)) from rfl, i3_le (by omega) (by omega)]; omega)
theorem we_nl1 {a b : Nat} (h : a = (OfNat.ofNat b : Nat)) : (Int32.ofNat a = (no_index (OfNat.ofNat b) : Int32)) = True := eq_true (show Int32.ofNat a = Int32.ofNat (OfNat.ofNat b : Nat) by rw [h])
theorem we_nl0 {a b : Nat} (h : a ≠ (OfNat.ofNat b : Nat)) (ha : a < 2147483648) (hb : (OfNat.ofNat b : Nat) < 2147483648) : (Int32.ofNat a = (no_index (OfNat.ofNat b) : Int32)) = False := eq_false (fun hc => h (by have h9 := congrArg Int32.toNatClampNeg (show Int32.ofNat a = Int32.ofNat (OfNat.ofNat b : Nat) from hc); rw [i3_n ha, i3_n hb] at h9; exact h9))
theorem wl_ln1 {a b : Nat} (h : (OfNat.ofNat a : Nat) < b) (hb : b < 2147483648) : ((no_index (OfNat.ofNat a) : Int32) < Int32.ofNat b) = True := eq_true (by rw [show ((no_index (OfNat.ofNat a) : Int32) < Int32.ofNat b) = (Int32.ofNat (OfNat.ofNat a : Nat) < Int32.ofNat b) from rfl, i3_lt (by omega) (by omega)]; exact h)
theorem wl_ln0 {a b : Nat} (h : b ≤ (OfNat.ofNat a : Nat)) (ha : (OfNat.ofNat a : Nat) < 2147483648) : ((no_index (OfNat.ofNat a) : Int32) < Int32.ofNat b) = False := eq_false (by rw [show ((no_index (OfNat.ofNat a) : Int32) < Int32.ofNat b) = (Int32.ofNat (OfNat.ofNat a : Nat) < Int32.ofNat b) from rfl, i3_lt (by omega) (by omega)]; omega)
theorem wm_ln1 {a b : Nat} (h : (OfNat.ofNat a : Nat) ≤ b) (hb : b < 2147483648) : ((no_index (OfNat.ofNat a) : Int32) ≤ Int32.ofNat b) = True := eq_true (by rw [show ((no_index (OfNat.ofNat a) : Int32) ≤ Int32.ofNat b) = (Int32.ofNat (OfNat.ofNat a : Nat) ≤ Int32.ofNat b) from rfl, i3_le (by omega) (by omega)]; exact h)
theorem wm_ln0 {a b : Nat} (h : b < (OfNat.ofNat a : Nat)) (ha : (OfNat.ofNat a : Nat) < 2147483648) : ((no_index (OfNat.ofNat a) : Int32) ≤ Int32.ofNat b) = False := eq_false (by rw [show ((no_index (OfNat.ofNat a) : Int32) ≤ Int32.ofNat b) = (Int32.ofNat (OfNat.ofNat a : Nat) ≤ Int32.ofNat b) from rfl, i3_le (by omega) (by omega)]; omega)
theorem we_ln1 {a b : Nat} (h : (OfNat.ofNat a : Nat) = b) : ((no_index (OfNat.ofNat a) : Int32) = Int32.ofNat b) = True := eq_true (show Int32.ofNat (OfNat.ofNat a : Nat) = Int32.ofNat b by rw [h])
theorem we_ln0 {a b : Nat} (h : (OfNat.ofNat a : Nat) ≠ b) (ha : (OfNat.ofNat a : Nat) < 2147483648) (hb : b < 2147483648) : ((no_index (OfNat.ofNat a) : Int32) = Int32.ofNat b) = False := eq_false (fun hc => h (by have h9 := congrArg Int32.toNatClampNeg (show Int32.ofNat (OfNat.ofNat a : Nat) = Int32.ofNat b from hc); rw [i3_n ha, i3_n hb] at h9; exact h9))
theorem wa_nn {a b : Nat} : Int32.ofNat a + Int32.ofNat b = Int32.ofNat (a + b) := (Int32.ofNat_add a b).symm
theorem wp_nn {a b : Nat} : Int32.ofNat a * Int32.ofNat b = Int32.ofNat (a * b) := (Int32.ofNat_mul a b).symm
theorem ws_nn {a b : Nat} (h : b ≤ a) : Int32.ofNat a - Int32.ofNat b = Int32.ofNat (a - b) := i3_sb h
theorem wd_nn {a b : Nat} (ha : a < 2147483648) (hb : b < 2147483648) : Int32.ofNat a / Int32.ofNat b = Int32.ofNat (a / b) := i3_dv ha hb
theorem wa_nl {a b : Nat} : Int32.ofNat a + (no_index (OfNat.ofNat b) : Int32) = Int32.ofNat (a + (OfNat.ofNat b : Nat)) := (Int32.ofNat_add a (OfNat.ofNat b : Nat)).symm
theorem wp_nl {a b : Nat} : Int32.ofNat a * (no_index (OfNat.ofNat b) : Int32) = Int32.ofNat (a * (OfNat.ofNat b : Nat)) := (Int32.ofNat_mul a (OfNat.ofNat b : Nat)).symm
theorem ws_nl {a b : Nat} (h : (OfNat.ofNat b : Nat) ≤ a) : Int32.ofNat a - (no_index (OfNat.ofNat b) : Int32) = Int32.ofNat (a - (OfNat.ofNat b : Nat)) := i3_sb h
theorem wd_nl {a b : Nat} (ha : a < 2147483648) (hb : (OfNat.ofNat b : Nat) < 2147483648) : Int32.ofNat a / (no_index (OfNat.ofNat b) : Int32) = Int32.ofNat (a / (OfNat.ofNat b : Nat)) := i3_dv ha hb
theorem wa_ln {a b : Nat} : (no_index (OfNat.ofNat a) : Int32) + Int32.ofNat b = Int32.ofNat ((OfNat.ofNat a : Nat) + b) := (Int32.ofNat_add (OfNat.ofNat a : Nat) b).symm
theorem wp_ln {a b : Nat} : (no_index (OfNat.ofNat a) : Int32) * Int32.ofNat b = Int32.ofNat ((OfNat.ofNat a : Nat) * b) := (Int32.ofNat_mul (OfNat.ofNat a : Nat) b).symm
theorem ws_ln {a b : Nat} (h : b ≤ (OfNat.ofNat a : Nat)) : (no_index (OfNat.ofNat a) : Int32) - Int32.ofNat b = Int32.ofNat ((OfNat.ofNat a : Nat) - b) := i3_sb h
theorem wd_ln {a b : Nat} (ha : (OfNat.ofNat a : Nat) < 2147483648) (hb : b < 2147483648) : (no_index (OfNat.ofNat a) : Int32) / Int32.ofNat b = Int32.ofNat ((OfNat.ofNat a : Nat) / b) := i3_dv ha hb
theorem wi_n {a n : Nat} {f : Nat → za_A} (h : a < n) (hn : n < 2147483648) : za_ix (Int32.ofNat a) n f = f a := by
  unfold za_ix
  rw [if_neg (fun hc => hc.elim (i3_z0 (by omega)) (fun h3 => by rw [i3_n (by omega)] at h3; omega)), i3_n (by omega)]
theorem wi_l {a n : Nat} {f : Nat → za_A} (h : (OfNat.ofNat a : Nat) < n) (hn : n < 2147483648) : za_ix (no_index (OfNat.ofNat a) : Int32) n f = f (OfNat.ofNat a) := wi_n h hn
theorem wu_on (f : Nat → Int32) {j k : Nat} {x : Int32} (h : j = k) : upd f k x j = x := if_pos h
theorem wu_off (f : Nat → Int32) {j k : Nat} {x : Int32} (h : j ≠ k) : upd f k x j = f j := if_neg h
theorem ww_on (w : za_W) {j k : Nat} {c : za_C} (h : j = k) : (za_up w k c).2.2 j = some c := if_pos h
theorem ww_off (w : za_W) {j k : Nat} {c : za_C} (h : j ≠ k) : (za_up w k c).2.2 j = w.2.2 j := if_neg h
theorem wz_on {s n j : Nat} (h : j < n) : zr s n j = some (s + j) := if_pos h
def md_v (V : Nat → Int32) : List Value := lk_f V 0 md_fs
theorem md_e (V : Nat → Int32) : md_o V = .inr (14, md_v V) := (rfl)
theorem md_n (V : Nat → Int32) : (md_v V).length = 47 := (rfl)
theorem md_g0 (V : Nat → Int32) : (md_v V)[0]? = some (.int (V 0)) := (rfl)
theorem md_s0 (V : Nat → Int32) (x : Int32) : (md_v V).set 0 (.int x) = md_v (upd V 0 x) := (rfl)
theorem md_g1 (V : Nat → Int32) : (md_v V)[1]? = some (.ref 139) := (rfl)
theorem md_g2 (V : Nat → Int32) : (md_v V)[2]? = some (.int (V 2)) := (rfl)
theorem md_s2 (V : Nat → Int32) (x : Int32) : (md_v V).set 2 (.int x) = md_v (upd V 2 x) := (rfl)
theorem md_g3 (V : Nat → Int32) : (md_v V)[3]? = some (.ref 140) := (rfl)
theorem md_g4 (V : Nat → Int32) : (md_v V)[4]? = some (.int (V 4)) := (rfl)
theorem md_s4 (V : Nat → Int32) (x : Int32) : (md_v V).set 4 (.int x) = md_v (upd V 4 x) := (rfl)
theorem md_g5 (V : Nat → Int32) : (md_v V)[5]? = some (.ref 141) := (rfl)
theorem md_g6 (V : Nat → Int32) : (md_v V)[6]? = some (.int (V 6)) := (rfl)
theorem md_s6 (V : Nat → Int32) (x : Int32) : (md_v V).set 6 (.int x) = md_v (upd V 6 x) := (rfl)
theorem md_g7 (V : Nat → Int32) : (md_v V)[7]? = some (.ref 142) := (rfl)
theorem md_g8 (V : Nat → Int32) : (md_v V)[8]? = some (.int (V 8)) := (rfl)
theorem md_s8 (V : Nat → Int32) (x : Int32) : (md_v V).set 8 (.int x) = md_v (upd V 8 x) := (rfl)
theorem md_g9 (V : Nat → Int32) : (md_v V)[9]? = some (.int (V 9)) := (rfl)
theorem md_s9 (V : Nat → Int32) (x : Int32) : (md_v V).set 9 (.int x) = md_v (upd V 9 x) := (rfl)
theorem md_g10 (V : Nat → Int32) : (md_v V)[10]? = some (.int (V 10)) := (rfl)
theorem md_s10 (V : Nat → Int32) (x : Int32) : (md_v V).set 10 (.int x) = md_v (upd V 10 x) := (rfl)
theorem md_g11 (V : Nat → Int32) : (md_v V)[11]? = some (.ref 143) := (rfl)
theorem md_g12 (V : Nat → Int32) : (md_v V)[12]? = some (.ref 144) := (rfl)
theorem md_g13 (V : Nat → Int32) : (md_v V)[13]? = some (.ref 145) := (rfl)
theorem md_g14 (V : Nat → Int32) : (md_v V)[14]? = some (.int (V 14)) := (rfl)
theorem md_s14 (V : Nat → Int32) (x : Int32) : (md_v V).set 14 (.int x) = md_v (upd V 14 x) := (rfl)
theorem md_g15 (V : Nat → Int32) : (md_v V)[15]? = some (.ref 146) := (rfl)
theorem md_g16 (V : Nat → Int32) : (md_v V)[16]? = some (.int (V 16)) := (rfl)
theorem md_s16 (V : Nat → Int32) (x : Int32) : (md_v V).set 16 (.int x) = md_v (upd V 16 x) := (rfl)
theorem md_g17 (V : Nat → Int32) : (md_v V)[17]? = some (.int (V 17)) := (rfl)
theorem md_s17 (V : Nat → Int32) (x : Int32) : (md_v V).set 17 (.int x) = md_v (upd V 17 x) := (rfl)
theorem md_g18 (V : Nat → Int32) : (md_v V)[18]? = some (.int (V 18)) := (rfl)
theorem md_s18 (V : Nat → Int32) (x : Int32) : (md_v V).set 18 (.int x) = md_v (upd V 18 x) := (rfl)
theorem md_g19 (V : Nat → Int32) : (md_v V)[19]? = some (.int (V 19)) := (rfl)
theorem md_s19 (V : Nat → Int32) (x : Int32) : (md_v V).set 19 (.int x) = md_v (upd V 19 x) := (rfl)
theorem md_g20 (V : Nat → Int32) : (md_v V)[20]? = some (.ref 147) := (rfl)
theorem md_g21 (V : Nat → Int32) : (md_v V)[21]? = some (.int (V 21)) := (rfl)
theorem md_s21 (V : Nat → Int32) (x : Int32) : (md_v V).set 21 (.int x) = md_v (upd V 21 x) := (rfl)
theorem md_g22 (V : Nat → Int32) : (md_v V)[22]? = some (.ref 148) := (rfl)
theorem md_g23 (V : Nat → Int32) : (md_v V)[23]? = some (.ref 149) := (rfl)
theorem md_g24 (V : Nat → Int32) : (md_v V)[24]? = some (.ref 150) := (rfl)
theorem md_g25 (V : Nat → Int32) : (md_v V)[25]? = some (.int (V 25)) := (rfl)
theorem md_s25 (V : Nat → Int32) (x : Int32) : (md_v V).set 25 (.int x) = md_v (upd V 25 x) := (rfl)
theorem md_g26 (V : Nat → Int32) : (md_v V)[26]? = some (.ref 151) := (rfl)
theorem md_g27 (V : Nat → Int32) : (md_v V)[27]? = some (.ref 152) := (rfl)
theorem md_g28 (V : Nat → Int32) : (md_v V)[28]? = some (.int (V 28)) := (rfl)
theorem md_s28 (V : Nat → Int32) (x : Int32) : (md_v V).set 28 (.int x) = md_v (upd V 28 x) := (rfl)
theorem md_g29 (V : Nat → Int32) : (md_v V)[29]? = some (.ref 153) := (rfl)
theorem md_g30 (V : Nat → Int32) : (md_v V)[30]? = some (.ref 154) := (rfl)
theorem md_g31 (V : Nat → Int32) : (md_v V)[31]? = some (.ref 155) := (rfl)
theorem md_g32 (V : Nat → Int32) : (md_v V)[32]? = some (.ref 156) := (rfl)
theorem md_g33 (V : Nat → Int32) : (md_v V)[33]? = some (.int (V 33)) := (rfl)
theorem md_s33 (V : Nat → Int32) (x : Int32) : (md_v V).set 33 (.int x) = md_v (upd V 33 x) := (rfl)
theorem md_g34 (V : Nat → Int32) : (md_v V)[34]? = some (.int (V 34)) := (rfl)
theorem md_s34 (V : Nat → Int32) (x : Int32) : (md_v V).set 34 (.int x) = md_v (upd V 34 x) := (rfl)
theorem md_g35 (V : Nat → Int32) : (md_v V)[35]? = some (.ref 157) := (rfl)
theorem md_g36 (V : Nat → Int32) : (md_v V)[36]? = some (.ref 158) := (rfl)
theorem md_g37 (V : Nat → Int32) : (md_v V)[37]? = some (.ref 159) := (rfl)
theorem md_g38 (V : Nat → Int32) : (md_v V)[38]? = some (.ref 160) := (rfl)
theorem md_g39 (V : Nat → Int32) : (md_v V)[39]? = some (.ref 161) := (rfl)
theorem md_g40 (V : Nat → Int32) : (md_v V)[40]? = some (.ref 162) := (rfl)
theorem md_g41 (V : Nat → Int32) : (md_v V)[41]? = some (.ref 163) := (rfl)
theorem md_g42 (V : Nat → Int32) : (md_v V)[42]? = some (.int (V 42)) := (rfl)
theorem md_s42 (V : Nat → Int32) (x : Int32) : (md_v V).set 42 (.int x) = md_v (upd V 42 x) := (rfl)
theorem md_g43 (V : Nat → Int32) : (md_v V)[43]? = some (.ref 164) := (rfl)
theorem md_g44 (V : Nat → Int32) : (md_v V)[44]? = some (.ref 165) := (rfl)
theorem md_g45 (V : Nat → Int32) : (md_v V)[45]? = some (.ref 166) := (rfl)
theorem md_g46 (V : Nat → Int32) : (md_v V)[46]? = some (.int (V 46)) := (rfl)
theorem md_s46 (V : Nat → Int32) (x : Int32) : (md_v V).set 46 (.int x) = md_v (upd V 46 x) := (rfl)
theorem md_up (w : za_W) (V : Nat → Int32) : za_up w 138 (.inr (14, md_v V)) = za_up w 138 (md_o V) := (rfl)
/-- all but the cells of L is as it was -/
def Fr (L : List Nat) (w w' : za_W) : Prop := w'.1 = w.1 ∧ w'.2.1 = w.2.1 ∧ ∀ j, j ∉ L → w'.2.2 j = w.2.2 j
theorem Fr.rfl' {L : List Nat} (w : za_W) : Fr L w w := ⟨rfl, rfl, fun _ _ => rfl⟩
theorem Fr.tr {L : List Nat} {a b c : za_W} (h : Fr L a b) (h' : Fr L b c) : Fr L a c := ⟨h'.1.trans h.1, h'.2.1.trans h.2.1, fun j hj => (h'.2.2 j hj).trans (h.2.2 j hj)⟩
theorem Fr.of {L M : List Nat} {a b : za_W} (h : Fr L a b) (hs : ∀ j, j ∈ L → j ∈ M) : Fr M a b := ⟨h.1, h.2.1, fun j hj => h.2.2 j (fun h9 => hj (hs j h9))⟩
theorem Fr.up {L : List Nat} {a b : za_W} (h : Fr L a b) {k : Nat} {c : za_C} (hk : k ∈ L) : Fr L a (za_up b k c) := ⟨h.1, h.2.1, fun j hj => by
  have e : j ≠ k := fun e => hj (by rw [e]; exact hk)
  rw [za_up.off e]
  exact h.2.2 j hj⟩
theorem Fr.at {L : List Nat} {a b : za_W} (h : Fr L a b) {j : Nat} {c : za_C} (ha : a.2.2 j = some c) (hj : j ∉ L) : b.2.2 j = some c := (h.2.2 j hj).trans ha
