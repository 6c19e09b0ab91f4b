/-! the check's own object: nine arrays behind it -/
def mLen : Nat → Nat
  | 1 => 818
  | 2 => 818
  | 3 => 4908
  | 4 => 1636
  | 5 => 2
  | 6 => 60
  | 7 => 60
  | 8 => 60
  | _ => 64
def Md (G : zG) (d : Nat) (sc : Nat → Int32) (X : Nat → Nat → Int32) (M : Mm) : Prop :=
  M d = some (.inr (6, [.int (sc 0), .ref (d + 1), .ref (d + 2), .ref (d + 3), .int (sc 4), .ref (d + 4), .ref (d + 5), .ref (d + 6), .int (sc 8), .ref (d + 7), .ref (d + 8), .int (sc 11), .int (sc 12), .ref (d + 9), .int (sc 14)])) ∧
  ∀ j, 1 ≤ j → j ≤ 9 → zArr G (if j = 5 then 3 else 0) M (d + j) (mLen j) (X j)
def MS (v : Wv) (X : Nat → Nat → Int32) : Prop := ∀ i, i < 818 → X 1 i = nI (v i)
def xset (X : Nat → Nat → Int32) (j : Nat) (f : Nat → Int32) : Nat → Nat → Int32 := fun i => if i = j then f else X i
def cset (sc : Nat → Int32) (j : Nat) (x : Int32) : Nat → Int32 := fun i => if i = j then x else sc i
theorem xset_self (X : Nat → Nat → Int32) (j : Nat) (f : Nat → Int32) : xset X j f j = f := by simp [xset]
theorem xset_ne (X : Nat → Nat → Int32) {i j : Nat} (f : Nat → Int32) (h : i ≠ j) : xset X j f i = X i := by simp [xset, h]
theorem Md.s {G : zG} {d : Nat} {sc : Nat → Int32} {X : Nat → Nat → Int32} {M : Mm} {v : Wv} (h : Md G d sc X M) (hm : MS v X) : zArr G 0 M (d + 1) 818 (fun i => nI (v i)) := (h.2 1 (by decide) (by decide)).to hm
theorem Md.setX {G : zG} {d j : Nat} {sc : Nat → Int32} {X : Nat → Nat → Int32} {M M1 : Mm} {f : Nat → Int32} (h : Md G d sc X M) (hj : 1 ≤ j) (e : zArr G (if j = 5 then 3 else 0) M1 (d + j) (mLen j) f) (o : ∀ q : Nat, q ≠ d + j → M1 q = M q) : Md G d sc (xset X j f) M1 := by
  refine ⟨by rw [o d (by omega)]; exact h.1, fun i h1 h2 => ?_⟩
  by_cases hij : i = j
  · subst hij; rw [xset_self]; exact e
  · rw [xset_ne _ _ hij]; exact (h.2 i h1 h2).kept (o _ (by omega))
theorem Md.setC {G : zG} {d : Nat} {sc sc2 : Nat → Int32} {X : Nat → Nat → Int32} {M M1 : Mm} (h : Md G d sc X M) (e : M1 d = some (.inr (6, [.int (sc2 0), .ref (d + 1), .ref (d + 2), .ref (d + 3), .int (sc2 4), .ref (d + 4), .ref (d + 5), .ref (d + 6), .int (sc2 8), .ref (d + 7), .ref (d + 8), .int (sc2 11), .int (sc2 12), .ref (d + 9), .int (sc2 14)]))) (o : ∀ q : Nat, q ≠ d → M1 q = M q) : Md G d sc2 X M1 :=
  ⟨e, fun i h1 h2 => (h.2 i h1 h2).kept (o _ (by omega))⟩
theorem wi_sub {a b w : Nat} (ha : a < 2 ^ 30) (hb : b < 2 ^ 30) (hw : w < 2 ^ 30) (h1 : 1 ≤ w) : wi (nI a - nI b) (nI 0) (nI (w - 1)) = (decide (b ≤ a) && decide (a < b + w)) := by
  by_cases hab : b ≤ a
  · rw [nI_sub hab, wi_N (by omega) (by decide) (by omega), decide_eq_true hab]
    rw [decide_eq_true (Nat.zero_le _)]
    simp only [Bool.true_and]
    exact decide_eq_decide.mpr (by omega)
  · rw [decide_eq_false hab, Bool.false_and]
    refine wi_out (Or.inl ?_)
    have h2 : nI a - nI b + nI b = nI a := Int32.sub_add_cancel _ _
    have e : (nI a - nI b).toInt = (a : Int) - (b : Int) := by
      rw [Int32.toInt_sub, nI_toInt (by omega), nI_toInt (by omega)]
      exact Int.bmod_eq_of_le (by omega) (by omega)
    rw [Int32.lt_iff_toInt_lt, e, nI_toInt (by decide)]
    omega

set_option maxHeartbeats 4000000 in
set_option maxRecDepth 100000 in
theorem c_X6_in (l : Launch) (G : zG) (B0 : Nat) (M : Mm) (x a b : Int32) : zMet l yX6_in cX6_in 3 (some .boolean) 0 0 0 G B0 M [.int x, .int a, .int b] (some (.int (zb (wi x a b)))) (fun M1 => M = M1) := by
  refine z_met RX6 [(0, .int x), (1, .int a), (2, .int b)] (by decide) rfl (Nat.le_of_ble_eq_true rfl) rfl ?_
  intro pg ev s m below meth cd ls hE hin hB0 hH hl
  have hx := hE.1
  have hb := hE.2.1
  refine z_gen B0 (fun H locs hH hS => ?_) hH
  refine lv_iload_n hx hb dX6_in_0 rfl (lv_at hl 0 rfl) ?_
  refine lv_iload_n hx hb dX6_in_1 rfl (lv_at hl 1 rfl) ?_
  refine lv_icmp_lt (tgt := 14) hx hb dX6_in_2 (by decide) (fun h1 => ?_) (fun h1 => ?_)
  · refine n_iconst hx hb 0 dX6_in_14 (by decide) ?_
    exact z_zret hE hH hS (by rw [show wi x a b = false from wi_out (by first | exact Or.inl (by assumption) | exact Or.inr (by assumption))]; rfl) rfl dX6_in_15
  · refine lv_iload_n hx hb dX6_in_5 rfl (lv_at hl 0 rfl) ?_
    refine lv_iload_n hx hb dX6_in_6 rfl (lv_at hl 2 rfl) ?_
    refine lv_icmp_gt (tgt := 14) hx hb dX6_in_7 (by decide) (fun h2 => ?_) (fun h2 => ?_)
    · refine n_iconst hx hb 0 dX6_in_14 (by decide) ?_
      exact z_zret hE hH hS (by rw [show wi x a b = false from wi_out (by first | exact Or.inl (by assumption) | exact Or.inr (by assumption))]; rfl) rfl dX6_in_15
    · refine n_iconst hx hb 1 dX6_in_10 (by decide) ?_
      refine lv_goto (tgt := 15) hx hb dX6_in_11 (by decide) ?_
      exact z_zret hE hH hS (by rw [show wi x a b = true from by unfold wi; simp only [Bool.and_eq_true, decide_eq_true_eq]; exact ⟨Int32.not_lt.mp (by assumption), Int32.not_lt.mp (by assumption)⟩]; rfl) rfl dX6_in_15

set_option maxHeartbeats 4000000 in
set_option maxRecDepth 100000 in
theorem c_X6_isCell (l : Launch) (G : zG) (B0 : Nat) (M : Mm) (x y : Int32) : zMet l yX6_isCell cX6_isCell 2 (some .boolean) 1 0 0 G B0 M [.int x, .int y] (some (.int (zb (isC x y)))) (fun M1 => M = M1) := by
  refine z_met RX6 [(0, .int x), (1, .int y)] (by decide) rfl (Nat.le_of_ble_eq_true rfl) rfl ?_
  intro pg ev s m below meth cd ls hE hin hB0 hH hl
  have hx := hE.1
  have hb := hE.2.1
  refine z_gen B0 (fun H locs hH hS => ?_) hH
  refine lv_iload_n hx hb dX6_isCell_0 rfl (lv_at hl 0 rfl) ?_
  refine n_iconst hx hb 0 dX6_isCell_1 (by decide) ?_
  refine n_bipush hx hb 9 dX6_isCell_2 (by decide) ?_
  refine z_callS (rest := []) (st2 := [.int (zb (wi x (nI 0) (nI 9)))]) hE hH hS hB0 hl ca_X6_in mkX6_42 (c_X6_in l G B0 M x (nI 0) (nI 9)) rfl rfl rfl ⟨Nat.le_of_ble_eq_true rfl, Nat.le_of_ble_eq_true rfl⟩ (Nat.le_of_ble_eq_true rfl) ⟨Nat.le_refl _, Nat.le_refl _⟩ dX6_isCell_4 (fun H locs M1 hH hp hS => ?_)
  subst hp
  refine b_if_eq (tgt := 23) hx hb dX6_isCell_7 (by decide) (fun h1 => ?_) (fun h1 => ?_)
  · refine n_iconst hx hb 0 dX6_isCell_23 (by decide) ?_
    exact z_zret hE hH hS (by rw [show isC x y = false from by unfold isC; simp [*]]; rfl) rfl dX6_isCell_24
  · refine lv_iload_n hx hb dX6_isCell_10 rfl (lv_at hl 1 rfl) ?_
    refine n_iconst hx hb 0 dX6_isCell_11 (by decide) ?_
    refine n_iconst hx hb 5 dX6_isCell_12 (by decide) ?_
    refine z_callS (rest := []) (st2 := [.int (zb (wi y (nI 0) (nI 5)))]) hE hH hS hB0 hl ca_X6_in mkX6_42 (c_X6_in l G B0 M y (nI 0) (nI 5)) rfl rfl rfl ⟨Nat.le_of_ble_eq_true rfl, Nat.le_of_ble_eq_true rfl⟩ (Nat.le_of_ble_eq_true rfl) ⟨Nat.le_refl _, Nat.le_refl _⟩ dX6_isCell_13 (fun H locs M1 hH hp hS => ?_)
    subst hp
    refine b_if_eq (tgt := 23) hx hb dX6_isCell_16 (by decide) (fun h2 => ?_) (fun h2 => ?_)
    · refine n_iconst hx hb 0 dX6_isCell_23 (by decide) ?_
      exact z_zret hE hH hS (by rw [show isC x y = false from by unfold isC; simp [*]]; rfl) rfl dX6_isCell_24
    · refine n_iconst hx hb 1 dX6_isCell_19 (by decide) ?_
      refine lv_goto (tgt := 24) hx hb dX6_isCell_20 (by decide) ?_
      exact z_zret hE hH hS (by rw [show isC x y = true from by unfold isC; simp [*]]; rfl) rfl dX6_isCell_24

set_option maxHeartbeats 4000000 in
set_option maxRecDepth 100000 in
theorem c_X6_of (l : Launch) (G : zG) (B0 : Nat) (M : Mm) (d : Nat) (sc : Nat → Int32) (X : Nat → Nat → Int32) (hM : Md G d sc X M) (v : Wv) (hms : MS v X) (hv : wOk v) (j k : Nat) (hj : j < 12) (hk : k < 7) : zMet l yX6_of cX6_of 3 (some .int) 0 0 0 G B0 M [.ref d, .int (nI j), .int (nI k)] (some (.int (nI (pv v j k)))) (fun M1 => M = M1) := by
  refine z_met RX6 [(0, .ref d), (1, .int (nI j)), (2, .int (nI k))] (by decide) rfl (Nat.le_of_ble_eq_true rfl) rfl ?_
  intro pg ev s m below meth cd ls hE hin hB0 hH hl
  have hx := hE.1
  have hb := hE.2.1
  have hn : v 0 ≤ 12 := hv.1
  have hA := hM.s hms
  refine z_gen B0 (fun H locs hH hS => ?_) hH
  refine lv_aload_n hx hb dX6_of_0 rfl (lv_at hl 0 rfl) ?_
  refine z_get (T := TX6) (v := .ref (d + 1)) hE hH hM.1 rfl uw_X6 1 (by decide) fkX6_7 rfl dX6_of_1 ?_
  refine n_bipush hx hb 14 dX6_of_4 (by decide) ?_
  refine n_bipush hx hb 7 dX6_of_6 (by decide) ?_
  refine lv_iload_n hx hb dX6_of_8 rfl (lv_at hl 1 rfl) ?_
  refine n_imul hx hb dX6_of_9 ?_
  refine n_iadd hx hb dX6_of_10 ?_
  refine lv_iload_n hx hb dX6_of_11 rfl (lv_at hl 2 rfl) ?_
  refine n_iadd hx hb dX6_of_12 ?_
  refine z_iald hE hH hA (k := (14 + (7 * j)) + k) (by omega) (by decide) dX6_of_13 ?_
  exact z_iret hE hH hS rfl rfl dX6_of_14

set_option maxHeartbeats 4000000 in
set_option maxRecDepth 100000 in
theorem c_X6_has (l : Launch) (G : zG) (B0 : Nat) (M : Mm) (d : Nat) (sc : Nat → Int32) (X : Nat → Nat → Int32) (hM : Md G d sc X M) (v : Wv) (hms : MS v X) (hv : wOk v) (j c : Nat) (hj : j < 12) (hc : c < 60) : zMet l yX6_has cX6_has 3 (some .int) 0 0 0 G B0 M [.ref d, .int (nI j), .int (nI c)] (some (.int (nI (cv v j c)))) (fun M1 => M = M1) := by
  refine z_met RX6 [(0, .ref d), (1, .int (nI j)), (2, .int (nI c))] (by decide) rfl (Nat.le_of_ble_eq_true rfl) rfl ?_
  intro pg ev s m below meth cd ls hE hin hB0 hH hl
  have hx := hE.1
  have hb := hE.2.1
  have hn : v 0 ≤ 12 := hv.1
  have hA := hM.s hms
  refine z_gen B0 (fun H locs hH hS => ?_) hH
  refine lv_aload_n hx hb dX6_has_0 rfl (lv_at hl 0 rfl) ?_
  refine z_get (T := TX6) (v := .ref (d + 1)) hE hH hM.1 rfl uw_X6 1 (by decide) fkX6_7 rfl dX6_has_1 ?_
  refine n_bipush hx hb 98 dX6_has_4 (by decide) ?_
  refine n_bipush hx hb 60 dX6_has_6 (by decide) ?_
  refine lv_iload_n hx hb dX6_has_8 rfl (lv_at hl 1 rfl) ?_
  refine n_imul hx hb dX6_has_9 ?_
  refine n_iadd hx hb dX6_has_10 ?_
  refine lv_iload_n hx hb dX6_has_11 rfl (lv_at hl 2 rfl) ?_
  refine n_iadd hx hb dX6_has_12 ?_
  refine z_iald hE hH hA (k := (98 + (60 * j)) + c) (by omega) (by decide) dX6_has_13 ?_
  exact z_iret hE hH hS rfl rfl dX6_has_14

set_option maxHeartbeats 4000000 in
set_option maxRecDepth 100000 in
theorem c_X6_isPoster (l : Launch) (G : zG) (B0 : Nat) (M : Mm) (d : Nat) (sc : Nat → Int32) (X : Nat → Nat → Int32) (hM : Md G d sc X M) (v : Wv) (hms : MS v X) (hv : wOk v) (p : Int32) : zMet l yX6_isPoster cX6_isPoster 2 (some .boolean) 1 0 0 G B0 M [.ref d, .int p] (some (.int (zb (isP v p)))) (fun M1 => M = M1) := by
  refine z_met RX6 [(0, .ref d), (1, .int p)] (by decide) rfl (Nat.le_of_ble_eq_true rfl) rfl ?_
  intro pg ev s m below meth cd ls hE hin hB0 hH hl
  have hx := hE.1
  have hb := hE.2.1
  have hn : v 0 ≤ 12 := hv.1
  have hA := hM.s hms
  refine z_gen B0 (fun H locs hH hS => ?_) hH
  refine lv_iload_n hx hb dX6_isPoster_0 rfl (lv_at hl 1 rfl) ?_
  refine n_iconst hx hb 0 dX6_isPoster_1 (by decide) ?_
  refine lv_aload_n hx hb dX6_isPoster_2 rfl (lv_at hl 0 rfl) ?_
  refine z_get (T := TX6) (v := .ref (d + 1)) hE hH hM.1 rfl uw_X6 1 (by decide) fkX6_7 rfl dX6_isPoster_3 ?_
  refine n_iconst hx hb 0 dX6_isPoster_6 (by decide) ?_
  refine z_iald hE hH hA (k := 0) (by omega) (by decide) dX6_isPoster_7 ?_
  refine n_iconst hx hb 1 dX6_isPoster_8 (by decide) ?_
  refine lv_isub hx hb dX6_isPoster_9 ?_
  refine z_callS (rest := []) (st2 := [.int (zb (wi p (nI 0) (nI (v (0)) - nI 1)))]) hE hH hS hB0 hl ca_X6_in mkX6_42 (c_X6_in l G B0 M p (nI 0) (nI (v (0)) - nI 1)) rfl rfl rfl ⟨Nat.le_of_ble_eq_true rfl, Nat.le_of_ble_eq_true rfl⟩ (Nat.le_of_ble_eq_true rfl) ⟨Nat.le_refl _, Nat.le_refl _⟩ dX6_isPoster_10 (fun H locs M1 hH hp hS => ?_)
  subst hp
  exact z_zret hE hH hS rfl rfl dX6_isPoster_13

set_option maxHeartbeats 4000000 in
set_option maxRecDepth 100000 in
theorem c_X6_lies (l : Launch) (G : zG) (B0 : Nat) (M : Mm) (d : Nat) (sc : Nat → Int32) (X : Nat → Nat → Int32) (hM : Md G d sc X M) (v : Wv) (hms : MS v X) (hv : wOk v) (j c : Nat) (hj : j < v 0) (hc : c < 60) : zMet l yX6_lies cX6_lies 5 (some .boolean) 1 0 0 G B0 M [.ref d, .int (nI j), .int (nI c)] (some (.int (zb (liesN (pv v j) (c % 10) (c / 10))))) (fun M1 => M = M1) := by
  refine z_met RX6 [(0, .ref d), (1, .int (nI j)), (2, .int (nI c))] (by decide) rfl (Nat.le_of_ble_eq_true rfl) rfl ?_
  intro pg ev s m below meth cd ls hE hin hB0 hH hl
  have hx := hE.1
  have hb := hE.2.1
  have hn : v 0 ≤ 12 := hv.1
  have hA := hM.s hms
  refine z_gen B0 (fun H locs hH hS => ?_) hH
  refine lv_iload_n hx hb dX6_lies_0 rfl (lv_at hl 2 rfl) ?_
  refine n_bipush hx hb 10 dX6_lies_1 (by decide) ?_
  refine n_irem hx hb (by omega) (by decide) (by decide) dX6_lies_3 ?_
  refine lv_aload_n hx hb dX6_lies_4 rfl (lv_at hl 0 rfl) ?_
  refine lv_iload_n hx hb dX6_lies_5 rfl (lv_at hl 1 rfl) ?_
  refine n_iconst hx hb 0 dX6_lies_6 (by decide) ?_
  refine z_callV (rest := [.int (nI (c % 10))]) (st2 := [.int (nI (pv v j 0)), .int (nI (c % 10))]) hE hH hS hB0 hl ca_X6_of mkX6_46 (c_X6_of l G B0 M d sc X hM v hms hv j 0 (by omega) (by omega)) hM.1 rfl rfl rfl rfl rfl ⟨Nat.le_of_ble_eq_true rfl, Nat.le_of_ble_eq_true rfl⟩ (Nat.le_of_ble_eq_true rfl) ⟨Nat.le_refl _, Nat.le_refl _⟩ dX6_lies_7 (fun H locs M1 hH hp hS => ?_)
  subst hp
  have q1 := hv.rect (j := j) (by omega)
  refine lv_isub hx hb dX6_lies_10 ?_
  refine lv_istore_n (lv' := [(3, .int (nI (c % 10) - nI (pv v j 0))), (0, .ref d), (1, .int (nI j)), (2, .int (nI c))]) hx hb dX6_lies_11 rfl hl (by decide) rfl (fun ls hl => ?_)
  refine lv_iload_n hx hb dX6_lies_12 rfl (lv_at hl 3 rfl) ?_
  refine n_bipush hx hb 10 dX6_lies_13 (by decide) ?_
  refine n_idiv hx hb (by omega) (by decide) (by decide) dX6_lies_15 ?_
  refine lv_aload_n hx hb dX6_lies_16 rfl (lv_at hl 1 rfl) ?_
  refine lv_iload_n hx hb dX6_lies_17 rfl (lv_at hl 2 rfl) ?_
  refine n_iconst hx hb 1 dX6_lies_18 (by decide) ?_
  refine z_callV (rest := [.int (nI (c / 10))]) (st2 := [.int (nI (pv v j 1)), .int (nI (c / 10))]) hE hH hS hB0 hl ca_X6_of mkX6_46 (c_X6_of l G B0 M d sc X hM v hms hv j 1 (by omega) (by omega)) hM.1 rfl rfl rfl rfl rfl ⟨Nat.le_of_ble_eq_true rfl, Nat.le_of_ble_eq_true rfl⟩ (Nat.le_of_ble_eq_true rfl) ⟨Nat.le_refl _, Nat.le_refl _⟩ dX6_lies_19 (fun H locs M1 hH hp hS => ?_)
  subst hp
  have q2 := hv.rect (j := j) (by omega)
  refine lv_isub hx hb dX6_lies_22 ?_
  refine lv_istore (lv' := [(4, .int (nI (c / 10) - nI (pv v j 1))), (3, .int (nI (c % 10) - nI (pv v j 0))), (0, .ref d), (1, .int (nI j)), (2, .int (nI c))]) hx hb dX6_lies_23 hl (by decide) rfl (fun ls hl => ?_)
  refine lv_iload_n hx hb dX6_lies_25 rfl (lv_at hl 1 rfl) ?_
  refine n_iconst hx hb 0 dX6_lies_26 (by decide) ?_
  refine lv_aload_n hx hb dX6_lies_27 rfl (lv_at hl 2 rfl) ?_
  refine lv_iload_n hx hb dX6_lies_28 rfl (lv_at hl 3 rfl) ?_
  refine n_iconst hx hb 2 dX6_lies_29 (by decide) ?_
  refine z_callV (rest := [.int (nI 0), .int (nI (c % 10) - nI (pv v j 0))]) (st2 := [.int (nI (pv v j 2)), .int (nI 0), .int (nI (c % 10) - nI (pv v j 0))]) hE hH hS hB0 hl ca_X6_of mkX6_46 (c_X6_of l G B0 M d sc X hM v hms hv j 2 (by omega) (by omega)) hM.1 rfl rfl rfl rfl rfl ⟨Nat.le_of_ble_eq_true rfl, Nat.le_of_ble_eq_true rfl⟩ (Nat.le_of_ble_eq_true rfl) ⟨Nat.le_refl _, Nat.le_refl _⟩ dX6_lies_30 (fun H locs M1 hH hp hS => ?_)
  subst hp
  have q3 := hv.rect (j := j) (by omega)
  refine n_iconst hx hb 1 dX6_lies_33 (by decide) ?_
  refine n_isub hx hb (by omega) dX6_lies_34 ?_
  refine z_callS (rest := []) (st2 := [.int (zb (wi (nI (c % 10) - nI (pv v j 0)) (nI 0) (nI ((pv v j 2) - 1))))]) hE hH hS hB0 hl ca_X6_in mkX6_42 (c_X6_in l G B0 M (nI (c % 10) - nI (pv v j 0)) (nI 0) (nI ((pv v j 2) - 1))) rfl rfl rfl ⟨Nat.le_of_ble_eq_true rfl, Nat.le_of_ble_eq_true rfl⟩ (Nat.le_of_ble_eq_true rfl) ⟨Nat.le_refl _, Nat.le_refl _⟩ dX6_lies_35 (fun H locs M1 hH hp hS => ?_)
  subst hp
  refine b_if_eq (tgt := 62) hx hb dX6_lies_38 (by decide) (fun h5 => ?_) (fun h5 => ?_)
  · refine n_iconst hx hb 0 dX6_lies_62 (by decide) ?_
    have qr := hv.rect (j := j) hj
    rw [wi_sub (by omega) (by omega) (by omega) (by omega)] at h5
    exact z_zret hE hH hS (by rw [show liesN (pv v j) (c % 10) (c / 10) = false from by unfold liesN; simp only [Bool.and_eq_false_iff, Bool.and_eq_true, decide_eq_false_iff_not, decide_eq_true_eq] at *; omega]; rfl) rfl dX6_lies_63
  · refine lv_iload hx hb dX6_lies_41 (lv_at hl 0 rfl) ?_
    refine n_iconst hx hb 0 dX6_lies_43 (by decide) ?_
    refine lv_aload_n hx hb dX6_lies_44 rfl (lv_at hl 2 rfl) ?_
    refine lv_iload_n hx hb dX6_lies_45 rfl (lv_at hl 3 rfl) ?_
    refine n_iconst hx hb 3 dX6_lies_46 (by decide) ?_
    refine z_callV (rest := [.int (nI 0), .int (nI (c / 10) - nI (pv v j 1))]) (st2 := [.int (nI (pv v j 3)), .int (nI 0), .int (nI (c / 10) - nI (pv v j 1))]) hE hH hS hB0 hl ca_X6_of mkX6_46 (c_X6_of l G B0 M d sc X hM v hms hv j 3 (by omega) (by omega)) hM.1 rfl rfl rfl rfl rfl ⟨Nat.le_of_ble_eq_true rfl, Nat.le_of_ble_eq_true rfl⟩ (Nat.le_of_ble_eq_true rfl) ⟨Nat.le_refl _, Nat.le_refl _⟩ dX6_lies_47 (fun H locs M1 hH hp hS => ?_)
    subst hp
    have q6 := hv.rect (j := j) (by omega)
    refine n_iconst hx hb 1 dX6_lies_50 (by decide) ?_
    refine n_isub hx hb (by omega) dX6_lies_51 ?_
    refine z_callS (rest := []) (st2 := [.int (zb (wi (nI (c / 10) - nI (pv v j 1)) (nI 0) (nI ((pv v j 3) - 1))))]) hE hH hS hB0 hl ca_X6_in mkX6_42 (c_X6_in l G B0 M (nI (c / 10) - nI (pv v j 1)) (nI 0) (nI ((pv v j 3) - 1))) rfl rfl rfl ⟨Nat.le_of_ble_eq_true rfl, Nat.le_of_ble_eq_true rfl⟩ (Nat.le_of_ble_eq_true rfl) ⟨Nat.le_refl _, Nat.le_refl _⟩ dX6_lies_52 (fun H locs M1 hH hp hS => ?_)
    subst hp
    refine b_if_eq (tgt := 62) hx hb dX6_lies_55 (by decide) (fun h8 => ?_) (fun h8 => ?_)
    · refine n_iconst hx hb 0 dX6_lies_62 (by decide) ?_
      have qr := hv.rect (j := j) hj
      rw [wi_sub (by omega) (by omega) (by omega) (by omega)] at h5
      rw [wi_sub (by omega) (by omega) (by omega) (by omega)] at h8
      exact z_zret hE hH hS (by rw [show liesN (pv v j) (c % 10) (c / 10) = false from by unfold liesN; simp only [Bool.and_eq_false_iff, Bool.and_eq_true, decide_eq_false_iff_not, decide_eq_true_eq] at *; omega]; rfl) rfl dX6_lies_63
    · refine n_iconst hx hb 1 dX6_lies_58 (by decide) ?_
      refine lv_goto (tgt := 63) hx hb dX6_lies_59 (by decide) ?_
      have qr := hv.rect (j := j) hj
      rw [wi_sub (by omega) (by omega) (by omega) (by omega)] at h5
      rw [wi_sub (by omega) (by omega) (by omega) (by omega)] at h8
      exact z_zret hE hH hS (by rw [show liesN (pv v j) (c % 10) (c / 10) = true from by unfold liesN; simp only [Bool.and_eq_true, decide_eq_true_eq] at *; omega]; rfl) rfl dX6_lies_63

set_option maxHeartbeats 4000000 in
set_option maxRecDepth 100000 in
theorem c_X6_seenAt (l : Launch) (G : zG) (B0 : Nat) (M : Mm) (d : Nat) (sc : Nat → Int32) (X : Nat → Nat → Int32) (hM : Md G d sc X M) (v : Wv) (hms : MS v X) (hv : wOk v) (c : Nat) (but : Int32) (hc : c < 60) : zMet l yX6_seenAt cX6_seenAt 4 (some .int) 2 0 0 G B0 M [.ref d, .int (nI c), .int but] (some (.int (oI (seen v but c)))) (fun M1 => M = M1) := by
  refine z_met RX6 [(0, .ref d), (1, .int (nI c)), (2, .int but)] (by decide) rfl (Nat.le_of_ble_eq_true rfl) rfl ?_
  intro pg ev s m below meth cd ls hE hin hB0 hH hl
  have hx := hE.1
  have hb := hE.2.1
  have hn : v 0 ≤ 12 := hv.1
  have hA := hM.s hms
  refine z_gen B0 (fun H locs hH hS => ?_) hH
  refine lv_aload_n hx hb dX6_seenAt_0 rfl (lv_at hl 0 rfl) ?_
  refine z_get (T := TX6) (v := .ref (d + 1)) hE hH hM.1 rfl uw_X6 1 (by decide) fkX6_7 rfl dX6_seenAt_1 ?_
  refine n_iconst hx hb 0 dX6_seenAt_4 (by decide) ?_
  refine z_iald hE hH hA (k := 0) (by omega) (by decide) dX6_seenAt_5 ?_
  refine n_iconst hx hb 1 dX6_seenAt_6 (by decide) ?_
  refine lv_isub hx hb dX6_seenAt_7 ?_
  refine lv_istore_n (lv' := [(3, .int (nI (v (0)) - nI 1)), (0, .ref d), (1, .int (nI c)), (2, .int but)]) hx hb dX6_seenAt_8 rfl hl (by decide) rfl (fun ls hl => ?_)
  have L9 : ∀ (dd : Nat) (n : Nat), n < dd → (seenGo v but c n = seen v but c) → (n ≤ v 0) → ∀ (H : Heap) (locs : List Loc), zH G M H → zS 0 B0 s.heap H locs → ∀ (ls : Array Slot), lv_has ls 4 [(0, .ref d), (1, .int (nI c)), (2, .int but), (3, .int (nI n - nI 1))] → zW pg l ev 2 0 0 s m [.ref d, .int (nI c), .int but] below meth cd H locs 0 0 G B0 (some (.int (oI (seen v but c)))) (fun M1 => M = M1) (F0 m 9 ls []) := by
    intro dd
    induction dd with
    | zero =>
      intro n hdd hs hnn
      exact absurd hdd (by omega)
    | succ dd ih =>
      intro n hdd hs hnn H locs hH hS ls hl
      refine lv_iload_n hx hb dX6_seenAt_9 rfl (lv_at hl 3 rfl) ?_
      refine n_down_lt (tgt := 44) hx hb (by omega) dX6_seenAt_10 (by decide) (fun h1 => ?_) (fun j2 h1 => ?_)
      · refine lv_bipush (v := (-6)) hx hb dX6_seenAt_44 (by decide) ?_
        exact z_iret hE hH hS (by rw [← hs, h1]; rfl) rfl dX6_seenAt_46
      · subst h1
        rw [nI_down] at hl
        refine lv_iload_n hx hb dX6_seenAt_13 rfl (lv_at hl 3 rfl) ?_
        refine lv_iload_n hx hb dX6_seenAt_14 rfl (lv_at hl 2 rfl) ?_
        refine lv_icmp_eq (tgt := 38) hx hb dX6_seenAt_15 (by decide) (fun h3 => ?_) (fun h3 => ?_)
        · refine lv_iinc (v := (nI j2 - nI 1)) (lv' := [(3, .int (nI j2 - nI 1)), (0, .ref d), (1, .int (nI c)), (2, .int but)]) hx hb dX6_seenAt_38 hl (k := 3) rfl (nI_dec1 _) (by decide) rfl (fun ls hl => ?_)
          refine lv_goto (tgt := 9) hx hb dX6_seenAt_41 (by decide) ?_
          exact ih  j2 (by omega) (by rw [← hs, seenGo_succ, if_neg (by rintro ⟨q1, q2⟩; first | exact q1 (by assumption) | omega | exact absurd (hv.lies (by omega) hc q2) (by rw [h3]; decide))]) (by omega) _ _ hH hS _ (lv_sub hl [1, 2, 3, 0] rfl)
        · refine lv_aload_n hx hb dX6_seenAt_18 rfl (lv_at hl 0 rfl) ?_
          refine lv_iload_n hx hb dX6_seenAt_19 rfl (lv_at hl 3 rfl) ?_
          refine lv_iload_n hx hb dX6_seenAt_20 rfl (lv_at hl 1 rfl) ?_
          refine z_callV (rest := []) (st2 := [.int (zb (liesN (pv v j2) (c % 10) (c / 10)))]) hE hH hS hB0 hl ca_X6_lies mkX6_53 (c_X6_lies l G B0 M d sc X hM v hms hv j2 c (by omega) (by omega)) hM.1 rfl rfl rfl rfl rfl ⟨Nat.le_of_ble_eq_true rfl, Nat.le_of_ble_eq_true rfl⟩ (Nat.le_of_ble_eq_true rfl) ⟨Nat.le_refl _, Nat.le_refl _⟩ dX6_seenAt_21 (fun H locs M1 hH hp hS => ?_)
          subst hp
          refine b_if_eq (tgt := 38) hx hb dX6_seenAt_24 (by decide) (fun h4 => ?_) (fun h4 => ?_)
          · refine lv_iinc (v := (nI j2 - nI 1)) (lv' := [(3, .int (nI j2 - nI 1)), (0, .ref d), (1, .int (nI c)), (2, .int but)]) hx hb dX6_seenAt_38 hl (k := 3) rfl (nI_dec1 _) (by decide) rfl (fun ls hl => ?_)
            refine lv_goto (tgt := 9) hx hb dX6_seenAt_41 (by decide) ?_
            exact ih  j2 (by omega) (by rw [← hs, seenGo_succ, if_neg (by rintro ⟨q1, q2⟩; first | exact q1 (by assumption) | omega | exact absurd (hv.lies (by omega) hc q2) (by rw [h4]; decide))]) (by omega) _ _ hH hS _ (lv_sub hl [1, 2, 3, 0] rfl)
          · refine lv_aload_n hx hb dX6_seenAt_27 rfl (lv_at hl 0 rfl) ?_
            refine lv_iload_n hx hb dX6_seenAt_28 rfl (lv_at hl 3 rfl) ?_
            refine lv_iload_n hx hb dX6_seenAt_29 rfl (lv_at hl 1 rfl) ?_
            refine z_callV (rest := []) (st2 := [.int (nI (cv v j2 c))]) hE hH hS hB0 hl ca_X6_has mkX6_57 (c_X6_has l G B0 M d sc X hM v hms hv j2 c (by omega) (by omega)) hM.1 rfl rfl rfl rfl rfl ⟨Nat.le_of_ble_eq_true rfl, Nat.le_of_ble_eq_true rfl⟩ (Nat.le_of_ble_eq_true rfl) ⟨Nat.le_refl _, Nat.le_refl _⟩ dX6_seenAt_30 (fun H locs M1 hH hp hS => ?_)
            subst hp
            have q5 := hv.coat (j := j2) (c := c) (by omega) (by omega)
            refine n_if_le (tgt := 38) hx hb (by omega) dX6_seenAt_33 (by decide) (fun h6 => ?_) (fun h6 => ?_)
            · refine lv_iinc (v := (nI j2 - nI 1)) (lv' := [(3, .int (nI j2 - nI 1)), (0, .ref d), (1, .int (nI c)), (2, .int but)]) hx hb dX6_seenAt_38 hl (k := 3) rfl (nI_dec1 _) (by decide) rfl (fun ls hl => ?_)
              refine lv_goto (tgt := 9) hx hb dX6_seenAt_41 (by decide) ?_
              exact ih  j2 (by omega) (by rw [← hs, seenGo_succ, if_neg (by rintro ⟨q1, q2⟩; first | exact q1 (by assumption) | omega | exact absurd (hv.lies (by omega) hc q2) (by rw [h6]; decide))]) (by omega) _ _ hH hS _ (lv_sub hl [1, 2, 3, 0] rfl)
            · refine lv_iload_n hx hb dX6_seenAt_36 rfl (lv_at hl 3 rfl) ?_
              exact z_iret hE hH hS (by rw [← hs, seenGo_succ, if_pos ⟨by assumption, by omega⟩]; rfl) rfl dX6_seenAt_37
  exact L9 (v 0 + 1) (v (0)) (by omega) rfl (Nat.le_refl _) _ _ hH hS _ (lv_sub hl [1, 2, 3, 0] rfl)

set_option maxHeartbeats 4000000 in
set_option maxRecDepth 100000 in
theorem c_X6_priceAt (l : Launch) (G : zG) (B0 : Nat) (M : Mm) (d : Nat) (sc : Nat → Int32) (X : Nat → Nat → Int32) (hM : Md G d sc X M) (v : Wv) (hms : MS v X) (hv : wOk v) (c : Nat) (hc : c < 60) : zMet l yX6_priceAt cX6_priceAt 3 (some .int) 3 0 0 G B0 M [.ref d, .int (nI c)] (some (.int (oI (prc v (-6) c)))) (fun M1 => M = M1) := by
  refine z_met RX6 [(0, .ref d), (1, .int (nI c))] (by decide) rfl (Nat.le_of_ble_eq_true rfl) rfl ?_
  intro pg ev s m below meth cd ls hE hin hB0 hH hl
  have hx := hE.1
  have hb := hE.2.1
  have hn : v 0 ≤ 12 := hv.1
  have hA := hM.s hms
  refine z_gen B0 (fun H locs hH hS => ?_) hH
  refine lv_aload_n hx hb dX6_priceAt_0 rfl (lv_at hl 0 rfl) ?_
  refine lv_iload_n hx hb dX6_priceAt_1 rfl (lv_at hl 1 rfl) ?_
  refine lv_bipush (v := (-6)) hx hb dX6_priceAt_2 (by decide) ?_
  refine z_callV (rest := []) (st2 := [.int (oI (seen v (-6) c))]) hE hH hS hB0 hl ca_X6_seenAt mkX6_60 (c_X6_seenAt l G B0 M d sc X hM v hms hv c (-6) (by omega)) hM.1 rfl rfl rfl rfl rfl ⟨Nat.le_of_ble_eq_true rfl, Nat.le_of_ble_eq_true rfl⟩ (Nat.le_of_ble_eq_true rfl) ⟨Nat.le_refl _, Nat.le_refl _⟩ dX6_priceAt_4 (fun H locs M1 hH hp hS => ?_)
  subst hp
  refine lv_istore_n (lv' := [(2, .int (oI (seen v (-6) c))), (0, .ref d), (1, .int (nI c))]) hx hb dX6_priceAt_7 rfl hl (by decide) rfl (fun ls hl => ?_)
  refine lv_iload_n hx hb dX6_priceAt_8 rfl (lv_at hl 0 rfl) ?_
  refine lv_bipush (v := (-6)) hx hb dX6_priceAt_9 (by decide) ?_
  refine o_cmp_ne (tgt := 19) hx hb (seen_ob hv) dX6_priceAt_11 (by decide) (fun j2 h1 => ?_) (fun h1 => ?_)
  · rw [h1] at hl
    replace hl : lv_has ls 3 [(2, .int (nI j2)), (0, .ref d), (1, .int (nI c))] := hl
    have j2_lt := seen_lt h1
    have j2_pos := seen_pos h1
    refine lv_aload_n hx hb dX6_priceAt_19 rfl (lv_at hl 1 rfl) ?_
    refine lv_iload_n hx hb dX6_priceAt_20 rfl (lv_at hl 0 rfl) ?_
    refine n_iconst hx hb 4 dX6_priceAt_21 (by decide) ?_
    refine z_callV (rest := []) (st2 := [.int (nI (pv v j2 4))]) hE hH hS hB0 hl ca_X6_of mkX6_46 (c_X6_of l G B0 M d sc X hM v hms hv j2 4 (by omega) (by omega)) hM.1 rfl rfl rfl rfl rfl ⟨Nat.le_of_ble_eq_true rfl, Nat.le_of_ble_eq_true rfl⟩ (Nat.le_of_ble_eq_true rfl) ⟨Nat.le_refl _, Nat.le_refl _⟩ dX6_priceAt_22 (fun H locs M1 hH hp hS => ?_)
    subst hp
    have q3 := hv.price (j := j2) (by omega)
    exact z_iret hE hH hS (by simp [prc, *, oI]) rfl dX6_priceAt_25
  · refine lv_bipush (v := (-6)) hx hb dX6_priceAt_14 (by decide) ?_
    refine lv_goto (tgt := 25) hx hb dX6_priceAt_16 (by decide) ?_
    exact z_iret hE hH hS (by simp [prc, *, oI]) rfl dX6_priceAt_25

set_option maxHeartbeats 4000000 in
set_option maxRecDepth 100000 in
theorem c_X6_sumBut (l : Launch) (G : zG) (B0 : Nat) (M : Mm) (d : Nat) (sc : Nat → Int32) (X : Nat → Nat → Int32) (hM : Md G d sc X M) (v : Wv) (hms : MS v X) (hv : wOk v) (but : Int32) : zMet l yX6_sumBut cX6_sumBut 5 (some .int) 3 0 0 G B0 M [.ref d, .int but] (some (.int (nI (sumW v but)))) (fun M1 => M = M1) := by
  refine z_met RX6 [(0, .ref d), (1, .int but)] (by decide) rfl (Nat.le_of_ble_eq_true rfl) rfl ?_
  intro pg ev s m below meth cd ls hE hin hB0 hH hl
  have hx := hE.1
  have hb := hE.2.1
  have hn : v 0 ≤ 12 := hv.1
  have hA := hM.s hms
  refine z_gen B0 (fun H locs hH hS => ?_) hH
  refine n_iconst hx hb 0 dX6_sumBut_0 (by decide) ?_
  refine lv_istore_n (lv' := [(2, .int (nI 0)), (0, .ref d), (1, .int but)]) hx hb dX6_sumBut_1 rfl hl (by decide) rfl (fun ls hl => ?_)
  refine n_iconst hx hb 0 dX6_sumBut_2 (by decide) ?_
  refine lv_istore_n (lv' := [(3, .int (nI 0)), (2, .int (nI 0)), (0, .ref d), (1, .int but)]) hx hb dX6_sumBut_3 rfl hl (by decide) rfl (fun ls hl => ?_)
  have L4 : ∀ (dd : Nat) (k : Nat) (a : Nat), 60 < k + dd → (k ≤ 60) → (a = zsum (fun c => (prc v but c).getD 0) k) → ∀ (H : Heap) (locs : List Loc), zH G M H → zS 0 B0 s.heap H locs → ∀ (ls : Array Slot), lv_has ls 5 [(0, .ref d), (1, .int but), (2, .int (nI a)), (3, .int (nI k))] → zW pg l ev 3 0 0 s m [.ref d, .int but] below meth cd H locs 0 0 G B0 (some (.int (nI (sumW v but)))) (fun M1 => M = M1) (F0 m 4 ls []) := by
    intro dd
    induction dd with
    | zero =>
      intro k a hdd hk ha
      exact absurd hdd (by omega)
    | succ dd ih =>
      intro k a hdd hk ha H locs hH hS ls hl
      refine lv_iload_n hx hb dX6_sumBut_4 rfl (lv_at hl 3 rfl) ?_
      refine n_bipush hx hb 60 dX6_sumBut_5 (by decide) ?_
      refine n_cmp_ge (tgt := 45) hx hb (by omega) (by decide) dX6_sumBut_7 (by decide) (fun h1 => ?_) (fun h1 => ?_)
      · refine lv_iload_n hx hb dX6_sumBut_45 rfl (lv_at hl 2 rfl) ?_
        exact z_iret hE hH hS (by have hkk : k = 60 := (by omega); subst hkk; rw [ha]; first | done | rfl) rfl dX6_sumBut_46
      · refine lv_aload_n hx hb dX6_sumBut_10 rfl (lv_at hl 0 rfl) ?_
        refine lv_iload_n hx hb dX6_sumBut_11 rfl (lv_at hl 3 rfl) ?_
        refine lv_iload_n hx hb dX6_sumBut_12 rfl (lv_at hl 1 rfl) ?_
        refine z_callV (rest := []) (st2 := [.int (oI (seen v but k))]) hE hH hS hB0 hl ca_X6_seenAt mkX6_60 (c_X6_seenAt l G B0 M d sc X hM v hms hv k but (by omega)) hM.1 rfl rfl rfl rfl rfl ⟨Nat.le_of_ble_eq_true rfl, Nat.le_of_ble_eq_true rfl⟩ (Nat.le_of_ble_eq_true rfl) ⟨Nat.le_refl _, Nat.le_refl _⟩ dX6_sumBut_13 (fun H locs M1 hH hp hS => ?_)
        subst hp
        refine lv_istore (lv' := [(4, .int (oI (seen v but k))), (0, .ref d), (1, .int but), (2, .int (nI a)), (3, .int (nI k))]) hx hb dX6_sumBut_16 hl (by decide) rfl (fun ls hl => ?_)
        refine lv_iload_n hx hb dX6_sumBut_18 rfl (lv_at hl 3 rfl) ?_
        refine lv_iload hx hb dX6_sumBut_19 (lv_at hl 0 rfl) ?_
        refine lv_bipush (v := (-6)) hx hb dX6_sumBut_21 (by decide) ?_
        refine o_cmp_ne (tgt := 30) hx hb (seen_ob hv) dX6_sumBut_23 (by decide) (fun j3 h2 => ?_) (fun h2 => ?_)
        · rw [h2] at hl
          replace hl : lv_has ls 5 [(4, .int (nI j3)), (0, .ref d), (1, .int but), (2, .int (nI a)), (3, .int (nI k))] := hl
          have j3_lt := seen_lt h2
          have j3_pos := seen_pos h2
          refine lv_aload_n hx hb dX6_sumBut_30 rfl (lv_at hl 1 rfl) ?_
          refine lv_iload hx hb dX6_sumBut_31 (lv_at hl 0 rfl) ?_
          refine n_iconst hx hb 4 dX6_sumBut_33 (by decide) ?_
          refine z_callV (rest := [.int (nI a)]) (st2 := [.int (nI (pv v j3 4)), .int (nI a)]) hE hH hS hB0 hl ca_X6_of mkX6_46 (c_X6_of l G B0 M d sc X hM v hms hv j3 4 (by omega) (by omega)) hM.1 rfl rfl rfl rfl rfl ⟨Nat.le_of_ble_eq_true rfl, Nat.le_of_ble_eq_true rfl⟩ (Nat.le_of_ble_eq_true rfl) ⟨Nat.le_refl _, Nat.le_refl _⟩ dX6_sumBut_34 (fun H locs M1 hH hp hS => ?_)
          subst hp
          have q4 := hv.price (j := j3) (by omega)
          refine n_iadd hx hb dX6_sumBut_37 ?_
          refine lv_istore_n (lv' := [(2, .int (nI (a + (pv v j3 4)))), (4, .int (nI j3)), (0, .ref d), (1, .int but), (3, .int (nI k))]) hx hb dX6_sumBut_38 rfl hl (by decide) rfl (fun ls hl => ?_)
          refine lv_iinc (v := (nI (k + 1))) (lv' := [(3, .int (nI (k + 1))), (2, .int (nI (a + (pv v j3 4)))), (4, .int (nI j3)), (0, .ref d), (1, .int but)]) hx hb dX6_sumBut_39 hl (k := 4) rfl (nI_inc _) (by decide) rfl (fun ls hl => ?_)
          refine lv_goto (tgt := 4) hx hb dX6_sumBut_42 (by decide) ?_
          exact ih  (k + 1) (a + (pv v j3 4)) (by omega) (by omega) (by unfold zsum; rw [← ha]; simp [prc, *]) _ _ hH hS _ (lv_sub hl [3, 4, 1, 0] rfl)
        · refine n_iconst hx hb 0 dX6_sumBut_26 (by decide) ?_
          refine lv_goto (tgt := 37) hx hb dX6_sumBut_27 (by decide) ?_
          refine n_iadd hx hb dX6_sumBut_37 ?_
          refine lv_istore_n (lv' := [(2, .int (nI (a + 0))), (4, .int (oI (seen v but k))), (0, .ref d), (1, .int but), (3, .int (nI k))]) hx hb dX6_sumBut_38 rfl hl (by decide) rfl (fun ls hl => ?_)
          refine lv_iinc (v := (nI (k + 1))) (lv' := [(3, .int (nI (k + 1))), (2, .int (nI (a + 0))), (4, .int (oI (seen v but k))), (0, .ref d), (1, .int but)]) hx hb dX6_sumBut_39 hl (k := 4) rfl (nI_inc _) (by decide) rfl (fun ls hl => ?_)
          refine lv_goto (tgt := 4) hx hb dX6_sumBut_42 (by decide) ?_
          exact ih  (k + 1) (a + 0) (by omega) (by omega) (by unfold zsum; rw [← ha]; simp [prc, *]) _ _ hH hS _ (lv_sub hl [3, 4, 1, 0] rfl)
  exact L4 61 0 0 (by omega) (by omega) rfl _ _ hH hS _ (lv_sub hl [2, 3, 1, 0] rfl)
