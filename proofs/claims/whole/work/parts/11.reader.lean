theorem z_topeq {p : Program} {l : Launch} {e : Env} {R : Room} {s : State} {m : MethodId} {args : Array Value} {below : List Frame} {meth : Method} {c : Code} {H : Heap} {locs : List Loc} {cells slots : Nat} {Q : State → Prop} {pc : Nat} {ls : Array Slot} {rest : List Value} {x y : Int32} (h : x = y) (k : W p l e R s m args below meth c H locs cells slots Q (F0 m pc ls (.int y :: rest))) : W p l e R s m args below meth c H locs cells slots Q (F0 m pc ls (.int x :: rest)) := by
  rw [h]; exact k
def wi (x a b : Int32) : Bool := decide (a ≤ x) && decide (x ≤ b)
def isC (x y : Int32) : Bool := wi x (nI 0) (nI 9) && wi y (nI 0) (nI 5)
theorem wi_N {k a b : Nat} (hk : k < 2 ^ 31) (ha : a < 2 ^ 31) (hb : b < 2 ^ 31) : wi (nI k) (nI a) (nI b) = (decide (a ≤ k) && decide (k ≤ b)) := by
  unfold wi
  rw [decide_eq_decide.mpr (nI_le_iff ha hk), decide_eq_decide.mpr (nI_le_iff hk hb)]
theorem wi_nat {x : Int32} {a b : Nat} (ha : a < 2 ^ 31) (hb : b < 2 ^ 31) (h : wi x (nI a) (nI b) = true) : ∃ k, x = nI k ∧ a ≤ k ∧ k ≤ b := by
  unfold wi at h
  simp only [Bool.and_eq_true, decide_eq_true_eq] at h
  have h0 : (0 : Int32) ≤ x := Int32.le_trans (nI_pos' ha) h.1
  obtain ⟨k, rfl, hk⟩ := nI_ofB h0 hb h.2
  exact ⟨k, rfl, (nI_le_iff ha (by omega)).mp h.1, hk⟩
theorem isC_nat {x y : Int32} (h : isC x y = true) : ∃ a b, x = nI a ∧ y = nI b ∧ a < 10 ∧ b < 6 := by
  unfold isC at h
  rw [Bool.and_eq_true] at h
  obtain ⟨a, rfl, -, ha⟩ := wi_nat (by decide) (by decide) h.1
  obtain ⟨b, rfl, -, hb⟩ := wi_nat (by decide) (by decide) h.2
  exact ⟨a, b, rfl, rfl, by omega, by omega⟩
theorem isC_N {a b : Nat} (ha : a < 10) (hb : b < 6) : isC (nI a) (nI b) = true := by
  unfold isC
  rw [wi_N (by omega) (by decide) (by decide), wi_N (by omega) (by decide) (by decide)]
  simp
  omega

theorem wi_out {x a b : Int32} (h : x < a ∨ b < x) : wi x a b = false := by
  unfold wi
  rcases h with h | h
  · rw [decide_eq_false (fun q => Int32.not_le.mpr h q)]; rfl
  · rw [decide_eq_false (p := x ≤ b) (fun q => Int32.not_le.mpr h q)]; exact Bool.and_false _

set_option maxHeartbeats 4000000 in
set_option maxRecDepth 100000 in
theorem c_X5_isWithin (l : Launch) (G : zG) (B0 : Nat) (M : Mm) (x a b : Int32) : zMet l yX5_isWithin cX5_isWithin 3 (some .boolean) 0 0 0 G B0 M [.int x, .int a, .int b] (some (.int (zb (wi x a b)))) (fun M1 => M = M1) := by
  refine z_met RX5 [(0, .int x), (1, .int a), (2, .int b)] (by decide) rfl (Nat.le_of_ble_eq_true rfl) rfl ?_
  intro pg ev s m below meth cd ls hE hin hB0 hH hl
  have hx := hE.1
  have hb := hE.2.1
  refine z_gen B0 (fun H locs hH hS => ?_) hH
  refine lv_iload_n hx hb dX5_isWithin_0 rfl (lv_at hl 0 rfl) ?_
  refine lv_iload_n hx hb dX5_isWithin_1 rfl (lv_at hl 1 rfl) ?_
  refine lv_icmp_lt (tgt := 14) hx hb dX5_isWithin_2 (by decide) (fun h1 => ?_) (fun h1 => ?_)
  · refine n_iconst hx hb 0 dX5_isWithin_14 (by decide) ?_
    exact z_zret hE hH hS (by rw [show wi x a b = false from wi_out (by first | exact Or.inl (by assumption) | exact Or.inr (by assumption))]; rfl) rfl dX5_isWithin_15
  · refine lv_iload_n hx hb dX5_isWithin_5 rfl (lv_at hl 0 rfl) ?_
    refine lv_iload_n hx hb dX5_isWithin_6 rfl (lv_at hl 2 rfl) ?_
    refine lv_icmp_gt (tgt := 14) hx hb dX5_isWithin_7 (by decide) (fun h2 => ?_) (fun h2 => ?_)
    · refine n_iconst hx hb 0 dX5_isWithin_14 (by decide) ?_
      exact z_zret hE hH hS (by rw [show wi x a b = false from wi_out (by first | exact Or.inl (by assumption) | exact Or.inr (by assumption))]; rfl) rfl dX5_isWithin_15
    · refine n_iconst hx hb 1 dX5_isWithin_10 (by decide) ?_
      refine lv_goto (tgt := 15) hx hb dX5_isWithin_11 (by decide) ?_
      exact z_zret hE hH hS (by rw [show wi x a b = true from by unfold wi; simp only [Bool.and_eq_true, decide_eq_true_eq]; exact ⟨Int32.not_lt.mp (by assumption), Int32.not_lt.mp (by assumption)⟩]; rfl) rfl dX5_isWithin_15

set_option maxHeartbeats 4000000 in
set_option maxRecDepth 100000 in
theorem c_X5_isColumn (l : Launch) (G : zG) (B0 : Nat) (M : Mm) (x : Int32) : zMet l yX5_isColumn cX5_isColumn 1 (some .boolean) 1 0 0 G B0 M [.int x] (some (.int (zb (wi x (nI 0) (nI 9))))) (fun M1 => M = M1) := by
  refine z_met RX5 [(0, .int x)] (by decide) rfl (Nat.le_of_ble_eq_true rfl) rfl ?_
  intro pg ev s m below meth cd ls hE hin hB0 hH hl
  have hx := hE.1
  have hb := hE.2.1
  refine z_gen B0 (fun H locs hH hS => ?_) hH
  refine lv_iload_n hx hb dX5_isColumn_0 rfl (lv_at hl 0 rfl) ?_
  refine n_iconst hx hb 0 dX5_isColumn_1 (by decide) ?_
  refine n_bipush hx hb 9 dX5_isColumn_2 (by decide) ?_
  refine z_callS (rest := []) (st2 := [.int (zb (wi x (nI 0) (nI 9)))]) hE hH hS hB0 hl ca_X5_isWithin mkX5_45 (c_X5_isWithin l G B0 M x (nI 0) (nI 9)) rfl rfl rfl ⟨Nat.le_of_ble_eq_true rfl, Nat.le_of_ble_eq_true rfl⟩ (Nat.le_of_ble_eq_true rfl) ⟨Nat.le_refl _, Nat.le_refl _⟩ dX5_isColumn_4 (fun H locs M1 hH hp hS => ?_)
  subst hp
  exact z_zret hE hH hS rfl rfl dX5_isColumn_7

set_option maxHeartbeats 4000000 in
set_option maxRecDepth 100000 in
theorem c_X5_isCell (l : Launch) (G : zG) (B0 : Nat) (M : Mm) (x y : Int32) : zMet l yX5_isCell cX5_isCell 2 (some .boolean) 2 0 0 G B0 M [.int x, .int y] (some (.int (zb (isC x y)))) (fun M1 => M = M1) := by
  refine z_met RX5 [(0, .int x), (1, .int y)] (by decide) rfl (Nat.le_of_ble_eq_true rfl) rfl ?_
  intro pg ev s m below meth cd ls hE hin hB0 hH hl
  have hx := hE.1
  have hb := hE.2.1
  refine z_gen B0 (fun H locs hH hS => ?_) hH
  refine lv_iload_n hx hb dX5_isCell_0 rfl (lv_at hl 0 rfl) ?_
  refine z_callS (rest := []) (st2 := [.int (zb (wi x (nI 0) (nI 9)))]) hE hH hS hB0 hl ca_X5_isColumn mkX5_86 (c_X5_isColumn l G B0 M x) rfl rfl rfl ⟨Nat.le_of_ble_eq_true rfl, Nat.le_of_ble_eq_true rfl⟩ (Nat.le_of_ble_eq_true rfl) ⟨Nat.le_refl _, Nat.le_refl _⟩ dX5_isCell_1 (fun H locs M1 hH hp hS => ?_)
  subst hp
  refine b_if_eq (tgt := 20) hx hb dX5_isCell_4 (by decide) (fun h1 => ?_) (fun h1 => ?_)
  · refine n_iconst hx hb 0 dX5_isCell_20 (by decide) ?_
    exact z_zret hE hH hS (by rw [show isC x y = false from by unfold isC; simp [*]]; rfl) rfl dX5_isCell_21
  · refine lv_iload_n hx hb dX5_isCell_7 rfl (lv_at hl 1 rfl) ?_
    refine n_iconst hx hb 0 dX5_isCell_8 (by decide) ?_
    refine n_iconst hx hb 5 dX5_isCell_9 (by decide) ?_
    refine z_callS (rest := []) (st2 := [.int (zb (wi y (nI 0) (nI 5)))]) hE hH hS hB0 hl ca_X5_isWithin mkX5_45 (c_X5_isWithin l G B0 M y (nI 0) (nI 5)) rfl rfl rfl ⟨Nat.le_of_ble_eq_true rfl, Nat.le_of_ble_eq_true rfl⟩ (Nat.le_of_ble_eq_true rfl) ⟨Nat.le_refl _, Nat.le_refl _⟩ dX5_isCell_10 (fun H locs M1 hH hp hS => ?_)
    subst hp
    refine b_if_eq (tgt := 20) hx hb dX5_isCell_13 (by decide) (fun h2 => ?_) (fun h2 => ?_)
    · refine n_iconst hx hb 0 dX5_isCell_20 (by decide) ?_
      exact z_zret hE hH hS (by rw [show isC x y = false from by unfold isC; simp [*]]; rfl) rfl dX5_isCell_21
    · refine n_iconst hx hb 1 dX5_isCell_16 (by decide) ?_
      refine lv_goto (tgt := 21) hx hb dX5_isCell_17 (by decide) ?_
      exact z_zret hE hH hS (by rw [show isC x y = true from by unfold isC; simp [*]]; rfl) rfl dX5_isCell_21

set_option maxHeartbeats 4000000 in
set_option maxRecDepth 100000 in
theorem c_X5_cellAt (l : Launch) (G : zG) (B0 : Nat) (M : Mm) (x y : Nat) : zMet l yX5_cellAt cX5_cellAt 2 (some .int) 0 0 0 G B0 M [.int (nI x), .int (nI y)] (some (.int (nI (y * 10 + x)))) (fun M1 => M = M1) := by
  refine z_met RX5 [(0, .int (nI x)), (1, .int (nI y))] (by decide) rfl (Nat.le_of_ble_eq_true rfl) rfl ?_
  intro pg ev s m below meth cd ls hE hin hB0 hH hl
  have hx := hE.1
  have hb := hE.2.1
  refine z_gen B0 (fun H locs hH hS => ?_) hH
  refine lv_iload_n hx hb dX5_cellAt_0 rfl (lv_at hl 1 rfl) ?_
  refine n_bipush hx hb 10 dX5_cellAt_1 (by decide) ?_
  refine n_imul hx hb dX5_cellAt_3 ?_
  refine lv_iload_n hx hb dX5_cellAt_4 rfl (lv_at hl 0 rfl) ?_
  refine n_iadd hx hb dX5_cellAt_5 ?_
  exact z_iret hE hH hS rfl rfl dX5_cellAt_6

def dgt (c : Nat) : Option Nat := if 48 ≤ c ∧ c ≤ 57 then some (c - 48) else none
theorem dgt_ob {c : Nat} : ∀ j, dgt c = some j → j < 2 ^ 31 := fun j h => by
  unfold dgt at h
  split at h
  · have := Option.some.inj h; omega
  · cases h
theorem dgt_le {c j : Nat} (h : dgt c = some j) : j ≤ 9 ∧ c = j + 48 := by
  unfold dgt at h
  split at h
  · have := Option.some.inj h; omega
  · cases h
def tkB (p : Nat) (uo : Option Nat) (c : Nat) : Bool := match p with
  | 0 => (dgt c).isSome
  | 1 => (dgt c).elim false (fun d => decide (d ≤ 5))
  | 2 => decide (c = 58)
  | 3 => (dgt c).isSome
  | _ => if c = 59 then true else (dgt c).elim false (fun d => uo.elim false (fun u => decide (u ≠ 0 ∧ u * 10 + d ≤ 999)))
def tkP (p c : Nat) : Nat := match p with
  | 0 => 1
  | 1 => 2
  | 2 => 3
  | 3 => 4
  | _ => if c = 59 then 0 else 4
def tkX (p : Nat) (xo : Option Nat) (c : Nat) : Option Nat := if p = 0 then dgt c else xo
def tkY (p : Nat) (yo : Option Nat) (c : Nat) : Option Nat := if p = 1 then dgt c else yo
def tkU (p : Nat) (uo : Option Nat) (c : Nat) : Option Nat := if p = 3 then dgt c else if p = 4 ∧ c ≠ 59 ∧ tkB 4 uo c = true then (dgt c).bind (fun d => uo.map (fun u => u * 10 + d)) else uo
def RdM (G : zG) (a p : Nat) (xo yo uo : Option Nat) (M : Mm) : Prop := M a = some (.inr (0, [.int (nI p), .int (oI xo), .int (oI yo), .int (oI uo)]))

set_option maxHeartbeats 4000000 in
set_option maxRecDepth 100000 in
theorem c_X0_begin (l : Launch) (G : zG) (B0 : Nat) (M : Mm) (a p : Nat) (xo yo uo : Option Nat) (hR : RdM G a p xo yo uo M) (hBa : B0 ≤ a) : zMet l yX0_begin cX0_begin 1 none 0 0 0 G B0 M [.ref a] none (fun M1 => RdM G a 0 xo yo uo M1 ∧ ∀ q, q ≠ a → M1 q = M q) := by
  refine z_met RX0 [(0, .ref a)] (by decide) rfl (Nat.le_of_ble_eq_true rfl) rfl ?_
  intro pg ev s m below meth cd ls hE hin hB0 hH hl
  have hx := hE.1
  have hb := hE.2.1
  have hF : ∀ q, q ≠ a → M q = M q := fun _ _ => rfl
  have hR0 : M a = some (.inr (0, [.int (nI p), .int (oI xo), .int (oI yo), .int (oI uo)])) := hR
  refine z_gen B0 (fun H locs hH hS => ?_) hH
  refine lv_aload_n hx hb dX0_begin_0 rfl (lv_at hl 0 rfl) ?_
  refine n_iconst hx hb 0 dX0_begin_1 (by decide) ?_
  refine z_put (T := TX0) hE hH hS hR0 rfl uw_X0 tyX0 tyX0_ok nmX0 0 (by decide) fkX0_11 rfl rfl rfl (Nat.le_of_ble_eq_true rfl) (by omega) dX0_begin_2 (fun H locs M3 hH hS e1 o2 => ?_)
  have hF4 := fun q hq => (o2 q (by omega)).trans (hF q hq)
  exact z_vret hE hH hS ⟨e1, hF4⟩ dX0_begin_5

set_option maxHeartbeats 4000000 in
set_option maxRecDepth 100000 in
theorem c_X0_mayEnd (l : Launch) (G : zG) (B0 : Nat) (M : Mm) (a p : Nat) (xo yo uo : Option Nat) (hR : RdM G a p xo yo uo M) (hp : p ≤ 4) : zMet l yX0_mayEnd cX0_mayEnd 1 (some .boolean) 0 0 0 G B0 M [.ref a] (some (.int (zb (decide (p = 4))))) (fun M1 => M = M1) := by
  refine z_met RX0 [(0, .ref a)] (by decide) rfl (Nat.le_of_ble_eq_true rfl) rfl ?_
  intro pg ev s m below meth cd ls hE hin hB0 hH hl
  have hx := hE.1
  have hb := hE.2.1
  have hR0 : M a = some (.inr (0, [.int (nI p), .int (oI xo), .int (oI yo), .int (oI uo)])) := hR
  refine z_gen B0 (fun H locs hH hS => ?_) hH
  refine lv_aload_n hx hb dX0_mayEnd_0 rfl (lv_at hl 0 rfl) ?_
  refine z_get (T := TX0) (v := .int (nI p)) hE hH hR0 rfl uw_X0 0 (by decide) fkX0_11 rfl dX0_mayEnd_1 ?_
  refine n_iconst hx hb 4 dX0_mayEnd_4 (by decide) ?_
  refine n_cmp_ne (tgt := 12) hx hb (by omega) (by decide) dX0_mayEnd_5 (by decide) (fun h1 => ?_) (fun h1 => ?_)
  · refine n_iconst hx hb 0 dX0_mayEnd_12 (by decide) ?_
    exact z_zret hE hH hS (by rw [show decide (p = 4) = false from by simp [*]]; rfl) rfl dX0_mayEnd_13
  · refine n_iconst hx hb 1 dX0_mayEnd_8 (by decide) ?_
    refine lv_goto (tgt := 13) hx hb dX0_mayEnd_9 (by decide) ?_
    exact z_zret hE hH hS (by rw [show decide (p = 4) = true from by simp [*]]; rfl) rfl dX0_mayEnd_13

set_option maxHeartbeats 4000000 in
set_option maxRecDepth 100000 in
theorem c_X0_endsBuyer (l : Launch) (G : zG) (B0 : Nat) (M : Mm) (a p : Nat) (xo yo uo : Option Nat) (hR : RdM G a p xo yo uo M) (hBa : B0 ≤ a) : zMet l yX0_endsBuyer cX0_endsBuyer 1 (some .boolean) 0 0 0 G B0 M [.ref a] (some (.int (zb true))) (fun M1 => RdM G a 0 xo yo uo M1 ∧ ∀ q, q ≠ a → M1 q = M q) := by
  refine z_met RX0 [(0, .ref a)] (by decide) rfl (Nat.le_of_ble_eq_true rfl) rfl ?_
  intro pg ev s m below meth cd ls hE hin hB0 hH hl
  have hx := hE.1
  have hb := hE.2.1
  have hF : ∀ q, q ≠ a → M q = M q := fun _ _ => rfl
  have hR0 : M a = some (.inr (0, [.int (nI p), .int (oI xo), .int (oI yo), .int (oI uo)])) := hR
  refine z_gen B0 (fun H locs hH hS => ?_) hH
  refine lv_aload_n hx hb dX0_endsBuyer_0 rfl (lv_at hl 0 rfl) ?_
  refine n_iconst hx hb 0 dX0_endsBuyer_1 (by decide) ?_
  refine z_put (T := TX0) hE hH hS hR0 rfl uw_X0 tyX0 tyX0_ok nmX0 0 (by decide) fkX0_11 rfl rfl rfl (Nat.le_of_ble_eq_true rfl) (by omega) dX0_endsBuyer_2 (fun H locs M3 hH hS e1 o2 => ?_)
  have hF4 := fun q hq => (o2 q (by omega)).trans (hF q hq)
  refine n_iconst hx hb 1 dX0_endsBuyer_5 (by decide) ?_
  exact z_zret hE hH hS rfl ⟨e1, hF4⟩ dX0_endsBuyer_6

def lpB (d u : Nat) : Bool := decide (u ≠ 0 ∧ u * 10 + d ≤ 999)

def lpO (d : Option Nat) (u : Nat) : Bool := d.elim false (fun d => lpB d u)
def lpU (d : Option Nat) (u : Nat) : Nat := d.elim u (fun d => if lpB d u = true then u * 10 + d else u)

set_option maxHeartbeats 4000000 in
set_option maxRecDepth 100000 in
theorem c_X0_lengthensPurse (l : Launch) (G : zG) (B0 : Nat) (M : Mm) (a p : Nat) (xo yo : Option Nat) (u : Nat) (hR : RdM G a p xo yo (some u) M) (hBa : B0 ≤ a) (hu : u ≤ 999) (d : Option Nat) (hob9 : ∀ j, d = some j → j ≤ 9) : zMet l yX0_lengthensPurse cX0_lengthensPurse 2 (some .boolean) 0 0 0 G B0 M [.ref a, .int (oI d)] (some (.int (zb (lpO d u)))) (fun M1 => RdM G a p xo yo (some (lpU d u)) M1 ∧ ∀ q, q ≠ a → M1 q = M q) := by
  refine z_met RX0 [(0, .ref a), (1, .int (oI d))] (by decide) rfl (Nat.le_of_ble_eq_true rfl) rfl ?_
  intro pg ev s m below meth cd ls hE hin hB0 hH hl
  have hx := hE.1
  have hb := hE.2.1
  have hF : ∀ q, q ≠ a → M q = M q := fun _ _ => rfl
  have hR0 : M a = some (.inr (0, [.int (nI p), .int (oI xo), .int (oI yo), .int (nI u)])) := hR
  have hob : ∀ j, d = some j → j < 2 ^ 31 := fun j h => by have := hob9 j h; omega
  refine z_gen B0 (fun H locs hH hS => ?_) hH
  refine lv_iload_n hx hb dX0_lengthensPurse_0 rfl (lv_at hl 1 rfl) ?_
  refine lv_bipush (v := (-6)) hx hb dX0_lengthensPurse_1 (by decide) ?_
  refine o_cmp_eq (tgt := 28) hx hb (hob) dX0_lengthensPurse_3 (by decide) (fun h1 => ?_) (fun j2 h1 => ?_)
  · refine n_iconst hx hb 0 dX0_lengthensPurse_28 (by decide) ?_
    exact z_zret hE hH hS (by have hh : lpO d u = false := (by rw [h1]; first | done | rfl); rw [hh]; rfl) ⟨by have hh : lpU d u = u := (by rw [h1]; first | done | rfl); unfold RdM; rw [hR0, hh]; rfl, hF⟩ dX0_lengthensPurse_29
  · rw [h1] at hl
    replace hl : lv_has ls 2 [(0, .ref a), (1, .int (nI j2))] := hl
    have j2_b := hob9 _ h1
    refine lv_aload_n hx hb dX0_lengthensPurse_6 rfl (lv_at hl 0 rfl) ?_
    refine z_get (T := TX0) (v := .int (nI u)) hE hH hR0 rfl uw_X0 3 (by decide) fkX0_25 rfl dX0_lengthensPurse_7 ?_
    refine n_if_eq (tgt := 28) hx hb (by omega) dX0_lengthensPurse_10 (by decide) (fun h3 => ?_) (fun h3 => ?_)
    · refine n_iconst hx hb 0 dX0_lengthensPurse_28 (by decide) ?_
      exact z_zret hE hH hS (by have hh : lpO d u = false := (by rw [h1]; exact decide_eq_false (by omega)); rw [hh]; rfl) ⟨by have hh : lpU d u = u := (by rw [h1]; exact if_neg (fun q => absurd (of_decide_eq_true q) (by omega))); unfold RdM; rw [hR0, hh]; rfl, hF⟩ dX0_lengthensPurse_29
    · refine lv_aload_n hx hb dX0_lengthensPurse_13 rfl (lv_at hl 0 rfl) ?_
      refine z_get (T := TX0) (v := .int (nI u)) hE hH hR0 rfl uw_X0 3 (by decide) fkX0_25 rfl dX0_lengthensPurse_14 ?_
      refine n_bipush hx hb 10 dX0_lengthensPurse_17 (by decide) ?_
      refine n_imul hx hb dX0_lengthensPurse_19 ?_
      refine lv_iload_n hx hb dX0_lengthensPurse_20 rfl (lv_at hl 1 rfl) ?_
      refine n_iadd hx hb dX0_lengthensPurse_21 ?_
      refine n_sipush hx hb 999 dX0_lengthensPurse_22 (by decide) ?_
      refine n_cmp_le (tgt := 30) hx hb (by omega) (by decide) dX0_lengthensPurse_25 (by decide) (fun h4 => ?_) (fun h4 => ?_)
      · refine lv_aload_n hx hb dX0_lengthensPurse_30 rfl (lv_at hl 0 rfl) ?_
        refine lv_aload_n hx hb dX0_lengthensPurse_31 rfl (lv_at hl 0 rfl) ?_
        refine z_get (T := TX0) (v := .int (nI u)) hE hH hR0 rfl uw_X0 3 (by decide) fkX0_25 rfl dX0_lengthensPurse_32 ?_
        refine n_bipush hx hb 10 dX0_lengthensPurse_35 (by decide) ?_
        refine n_imul hx hb dX0_lengthensPurse_37 ?_
        refine lv_iload_n hx hb dX0_lengthensPurse_38 rfl (lv_at hl 1 rfl) ?_
        refine n_iadd hx hb dX0_lengthensPurse_39 ?_
        refine z_put (T := TX0) hE hH hS hR0 rfl uw_X0 tyX0 tyX0_ok nmX0 3 (by decide) fkX0_25 rfl rfl rfl (Nat.le_of_ble_eq_true rfl) (by omega) dX0_lengthensPurse_40 (fun H locs M7 hH hS e5 o6 => ?_)
        have hF8 := fun q hq => (o6 q (by omega)).trans (hF q hq)
        refine n_iconst hx hb 1 dX0_lengthensPurse_43 (by decide) ?_
        exact z_zret hE hH hS (by have hh : lpO d u = true := (by rw [h1]; exact decide_eq_true ⟨by omega, by omega⟩); rw [hh]; rfl) ⟨by have hh : lpU d u = u * 10 + j2 := (by rw [h1]; exact if_pos (decide_eq_true ⟨by omega, by omega⟩)); unfold RdM; rw [e5, hh]; rfl, hF8⟩ dX0_lengthensPurse_44
      · refine n_iconst hx hb 0 dX0_lengthensPurse_28 (by decide) ?_
        exact z_zret hE hH hS (by have hh : lpO d u = false := (by rw [h1]; exact decide_eq_false (by omega)); rw [hh]; rfl) ⟨by have hh : lpU d u = u := (by rw [h1]; exact if_neg (fun q => absurd (of_decide_eq_true q) (by omega))); unfold RdM; rw [hR0, hh]; rfl, hF⟩ dX0_lengthensPurse_29

set_option maxHeartbeats 4000000 in
set_option maxRecDepth 100000 in
theorem c_X0_takes_0 (l : Launch) (G : zG) (B0 : Nat) (M : Mm) (a : Nat) (xo yo uo : Option Nat) (hR : RdM G a 0 xo yo uo M) (hBa : B0 ≤ a) (c : Nat) (hc : c < 128) : zMet l yX0_takes cX0_takes 3 (some .boolean) 1 0 0 G B0 M [.ref a, .int (nI c)] (some (.int (zb (tkB 0 uo c)))) (fun M1 => RdM G a (tkP 0 c) (tkX 0 xo c) (tkY 0 yo c) (tkU 0 uo c) M1 ∧ ∀ q, q ≠ a → M1 q = M q) := by
  refine z_met RX0 [(0, .ref a), (1, .int (nI c))] (by decide) rfl (Nat.le_of_ble_eq_true rfl) rfl ?_
  intro pg ev s m below meth cd ls hE hin hB0 hH hl
  have hx := hE.1
  have hb := hE.2.1
  have hF : ∀ q, q ≠ a → M q = M q := fun _ _ => rfl
  have hR0 : M a = some (.inr (0, [.int (nI 0), .int (oI xo), .int (oI yo), .int (oI uo)])) := hR
  refine z_gen B0 (fun H locs hH hS => ?_) hH
  have J21 : zW pg l ev 1 0 0 s m [.ref a, .int (nI c)] below meth cd H locs 0 0 G B0 (some (.int (zb (tkB 0 uo c)))) (fun M1 => RdM G a (tkP 0 c) (tkX 0 xo c) (tkY 0 yo c) (tkU 0 uo c) M1 ∧ ∀ q, q ≠ a → M1 q = M q) (F0 m 21 ls [.int (oI (dgt c))]) := by
    refine lv_istore_n (lv' := [(2, .int (oI (dgt c))), (0, .ref a), (1, .int (nI c))]) hx hb dX0_takes_21 rfl hl (by decide) rfl (fun ls hl => ?_)
    refine lv_aload_n hx hb dX0_takes_22 rfl (lv_at hl 1 rfl) ?_
    refine z_get (T := TX0) (v := .int (nI 0)) hE hH hR0 rfl uw_X0 0 (by decide) fkX0_11 rfl dX0_takes_23 ?_
    refine lv_tableIn (tgt := 56) hx hb dX0_takes_26 (by decide +kernel) (by decide +kernel) (off := 30) (by decide +kernel) (by decide) ?_
    refine lv_aload_n hx hb dX0_takes_56 rfl (lv_at hl 1 rfl) ?_
    refine lv_iload_n hx hb dX0_takes_57 rfl (lv_at hl 0 rfl) ?_
    refine z_put (T := TX0) hE hH hS hR0 rfl uw_X0 tyX0 tyX0_ok nmX0 1 (by decide) fkX0_15 rfl rfl rfl (Nat.le_of_ble_eq_true rfl) (by omega) dX0_takes_58 (fun H locs M3 hH hS e1 o2 => ?_)
    have hF4 := fun q hq => (o2 q (by omega)).trans (hF q hq)
    refine lv_aload_n hx hb dX0_takes_61 rfl (lv_at hl 1 rfl) ?_
    refine n_iconst hx hb 1 dX0_takes_62 (by decide) ?_
    refine z_put (T := TX0) hE hH hS e1 rfl uw_X0 tyX0 tyX0_ok nmX0 0 (by decide) fkX0_11 rfl rfl rfl (Nat.le_of_ble_eq_true rfl) (by omega) dX0_takes_63 (fun H locs M7 hH hS e5 o6 => ?_)
    have hF8 := fun q hq => (o6 q (by omega)).trans (hF4 q hq)
    refine lv_iload_n hx hb dX0_takes_66 rfl (lv_at hl 0 rfl) ?_
    refine lv_bipush (v := (-6)) hx hb dX0_takes_67 (by decide) ?_
    refine o_cmp_eq (tgt := 76) hx hb (dgt_ob) dX0_takes_69 (by decide) (fun h9 => ?_) (fun j10 h9 => ?_)
    · refine n_iconst hx hb 0 dX0_takes_76 (by decide) ?_
      exact z_zret hE hH hS (by simp [tkB, *]; rfl) ⟨e5, hF8⟩ dX0_takes_77
    · rw [h9] at hl
      replace hl : lv_has ls 3 [(2, .int (nI j10)), (0, .ref a), (1, .int (nI c))] := hl
      refine n_iconst hx hb 1 dX0_takes_72 (by decide) ?_
      refine lv_goto (tgt := 77) hx hb dX0_takes_73 (by decide) ?_
      exact z_zret hE hH hS (by simp [tkB, *]; rfl) ⟨e5, hF8⟩ dX0_takes_77
  refine lv_iload_n hx hb dX0_takes_0 rfl (lv_at hl 1 rfl) ?_
  refine n_bipush hx hb 48 dX0_takes_1 (by decide) ?_
  refine n_cmp_lt (tgt := 19) hx hb (by omega) (by decide) dX0_takes_3 (by decide) (fun h11 => ?_) (fun h11 => ?_)
  · refine lv_bipush (v := (-6)) hx hb dX0_takes_19 (by decide) ?_
    exact z_topeq (show (-6) = oI (dgt c) from by unfold dgt; rw [if_neg (by omega)]; rfl) J21
  · refine lv_iload_n hx hb dX0_takes_6 rfl (lv_at hl 1 rfl) ?_
    refine n_bipush hx hb 57 dX0_takes_7 (by decide) ?_
    refine n_cmp_gt (tgt := 19) hx hb (by omega) (by decide) dX0_takes_9 (by decide) (fun h12 => ?_) (fun h12 => ?_)
    · refine lv_bipush (v := (-6)) hx hb dX0_takes_19 (by decide) ?_
      exact z_topeq (show (-6) = oI (dgt c) from by unfold dgt; rw [if_neg (by omega)]; rfl) J21
    · refine lv_iload_n hx hb dX0_takes_12 rfl (lv_at hl 1 rfl) ?_
      refine n_bipush hx hb 48 dX0_takes_13 (by decide) ?_
      refine n_isub hx hb (by omega) dX0_takes_15 ?_
      refine lv_goto (tgt := 21) hx hb dX0_takes_16 (by decide) ?_
      exact z_topeq (show nI (c - 48) = oI (dgt c) from by unfold dgt; rw [if_pos (by omega)]; rfl) J21

set_option maxHeartbeats 4000000 in
set_option maxRecDepth 100000 in
theorem c_X0_takes_1 (l : Launch) (G : zG) (B0 : Nat) (M : Mm) (a : Nat) (xo yo uo : Option Nat) (hR : RdM G a 1 xo yo uo M) (hBa : B0 ≤ a) (c : Nat) (hc : c < 128) : zMet l yX0_takes cX0_takes 3 (some .boolean) 1 0 0 G B0 M [.ref a, .int (nI c)] (some (.int (zb (tkB 1 uo c)))) (fun M1 => RdM G a (tkP 1 c) (tkX 1 xo c) (tkY 1 yo c) (tkU 1 uo c) M1 ∧ ∀ q, q ≠ a → M1 q = M q) := by
  refine z_met RX0 [(0, .ref a), (1, .int (nI c))] (by decide) rfl (Nat.le_of_ble_eq_true rfl) rfl ?_
  intro pg ev s m below meth cd ls hE hin hB0 hH hl
  have hx := hE.1
  have hb := hE.2.1
  have hF : ∀ q, q ≠ a → M q = M q := fun _ _ => rfl
  have hR0 : M a = some (.inr (0, [.int (nI 1), .int (oI xo), .int (oI yo), .int (oI uo)])) := hR
  refine z_gen B0 (fun H locs hH hS => ?_) hH
  have J21 : zW pg l ev 1 0 0 s m [.ref a, .int (nI c)] below meth cd H locs 0 0 G B0 (some (.int (zb (tkB 1 uo c)))) (fun M1 => RdM G a (tkP 1 c) (tkX 1 xo c) (tkY 1 yo c) (tkU 1 uo c) M1 ∧ ∀ q, q ≠ a → M1 q = M q) (F0 m 21 ls [.int (oI (dgt c))]) := by
    refine lv_istore_n (lv' := [(2, .int (oI (dgt c))), (0, .ref a), (1, .int (nI c))]) hx hb dX0_takes_21 rfl hl (by decide) rfl (fun ls hl => ?_)
    refine lv_aload_n hx hb dX0_takes_22 rfl (lv_at hl 1 rfl) ?_
    refine z_get (T := TX0) (v := .int (nI 1)) hE hH hR0 rfl uw_X0 0 (by decide) fkX0_11 rfl dX0_takes_23 ?_
    refine lv_tableIn (tgt := 78) hx hb dX0_takes_26 (by decide +kernel) (by decide +kernel) (off := 52) (by decide +kernel) (by decide) ?_
    refine lv_aload_n hx hb dX0_takes_78 rfl (lv_at hl 1 rfl) ?_
    refine lv_iload_n hx hb dX0_takes_79 rfl (lv_at hl 0 rfl) ?_
    refine z_put (T := TX0) hE hH hS hR0 rfl uw_X0 tyX0 tyX0_ok nmX0 2 (by decide) fkX0_18 rfl rfl rfl (Nat.le_of_ble_eq_true rfl) (by omega) dX0_takes_80 (fun H locs M3 hH hS e1 o2 => ?_)
    have hF4 := fun q hq => (o2 q (by omega)).trans (hF q hq)
    refine lv_aload_n hx hb dX0_takes_83 rfl (lv_at hl 1 rfl) ?_
    refine n_iconst hx hb 2 dX0_takes_84 (by decide) ?_
    refine z_put (T := TX0) hE hH hS e1 rfl uw_X0 tyX0 tyX0_ok nmX0 0 (by decide) fkX0_11 rfl rfl rfl (Nat.le_of_ble_eq_true rfl) (by omega) dX0_takes_85 (fun H locs M7 hH hS e5 o6 => ?_)
    have hF8 := fun q hq => (o6 q (by omega)).trans (hF4 q hq)
    refine lv_iload_n hx hb dX0_takes_88 rfl (lv_at hl 0 rfl) ?_
    refine n_iconst hx hb 0 dX0_takes_89 (by decide) ?_
    refine n_iconst hx hb 5 dX0_takes_90 (by decide) ?_
    refine z_callSN (rest := []) (st2 := [.int (zb (wi (oI (dgt c)) (nI 0) (nI 5)))]) hE hH hS hB0 hl ca_X5_isWithin hE.2.2.2.2.2.2.2.2.2.2.2.1 (c_X5_isWithin l G B0 M7 (oI (dgt c)) (nI 0) (nI 5)) rfl rfl rfl ⟨Nat.le_of_ble_eq_true rfl, Nat.le_of_ble_eq_true rfl⟩ (Nat.le_of_ble_eq_true rfl) ⟨Nat.le_refl _, Nat.le_refl _⟩ dX0_takes_91 (fun H locs M1 hH hp hS => ?_)
    subst hp
    exact z_zret hE hH hS (by show zb _ = zb _; unfold tkB; cases hd : dgt c with | none => rfl | some d => (have hh := dgt_le hd; show zb (wi (nI d) (nI 0) (nI 5)) = _; rw [wi_N (by omega) (by decide) (by decide)]; simp)) ⟨e5, hF8⟩ dX0_takes_94
  refine lv_iload_n hx hb dX0_takes_0 rfl (lv_at hl 1 rfl) ?_
  refine n_bipush hx hb 48 dX0_takes_1 (by decide) ?_
  refine n_cmp_lt (tgt := 19) hx hb (by omega) (by decide) dX0_takes_3 (by decide) (fun h9 => ?_) (fun h9 => ?_)
  · refine lv_bipush (v := (-6)) hx hb dX0_takes_19 (by decide) ?_
    exact z_topeq (show (-6) = oI (dgt c) from by unfold dgt; rw [if_neg (by omega)]; rfl) J21
  · refine lv_iload_n hx hb dX0_takes_6 rfl (lv_at hl 1 rfl) ?_
    refine n_bipush hx hb 57 dX0_takes_7 (by decide) ?_
    refine n_cmp_gt (tgt := 19) hx hb (by omega) (by decide) dX0_takes_9 (by decide) (fun h10 => ?_) (fun h10 => ?_)
    · refine lv_bipush (v := (-6)) hx hb dX0_takes_19 (by decide) ?_
      exact z_topeq (show (-6) = oI (dgt c) from by unfold dgt; rw [if_neg (by omega)]; rfl) J21
    · refine lv_iload_n hx hb dX0_takes_12 rfl (lv_at hl 1 rfl) ?_
      refine n_bipush hx hb 48 dX0_takes_13 (by decide) ?_
      refine n_isub hx hb (by omega) dX0_takes_15 ?_
      refine lv_goto (tgt := 21) hx hb dX0_takes_16 (by decide) ?_
      exact z_topeq (show nI (c - 48) = oI (dgt c) from by unfold dgt; rw [if_pos (by omega)]; rfl) J21

set_option maxHeartbeats 4000000 in
set_option maxRecDepth 100000 in
theorem c_X0_takes_2 (l : Launch) (G : zG) (B0 : Nat) (M : Mm) (a : Nat) (xo yo uo : Option Nat) (hR : RdM G a 2 xo yo uo M) (hBa : B0 ≤ a) (c : Nat) (hc : c < 128) : zMet l yX0_takes cX0_takes 3 (some .boolean) 1 0 0 G B0 M [.ref a, .int (nI c)] (some (.int (zb (tkB 2 uo c)))) (fun M1 => RdM G a (tkP 2 c) (tkX 2 xo c) (tkY 2 yo c) (tkU 2 uo c) M1 ∧ ∀ q, q ≠ a → M1 q = M q) := by
  refine z_met RX0 [(0, .ref a), (1, .int (nI c))] (by decide) rfl (Nat.le_of_ble_eq_true rfl) rfl ?_
  intro pg ev s m below meth cd ls hE hin hB0 hH hl
  have hx := hE.1
  have hb := hE.2.1
  have hF : ∀ q, q ≠ a → M q = M q := fun _ _ => rfl
  have hR0 : M a = some (.inr (0, [.int (nI 2), .int (oI xo), .int (oI yo), .int (oI uo)])) := hR
  refine z_gen B0 (fun H locs hH hS => ?_) hH
  have J21 : zW pg l ev 1 0 0 s m [.ref a, .int (nI c)] below meth cd H locs 0 0 G B0 (some (.int (zb (tkB 2 uo c)))) (fun M1 => RdM G a (tkP 2 c) (tkX 2 xo c) (tkY 2 yo c) (tkU 2 uo c) M1 ∧ ∀ q, q ≠ a → M1 q = M q) (F0 m 21 ls [.int (oI (dgt c))]) := by
    refine lv_istore_n (lv' := [(2, .int (oI (dgt c))), (0, .ref a), (1, .int (nI c))]) hx hb dX0_takes_21 rfl hl (by decide) rfl (fun ls hl => ?_)
    refine lv_aload_n hx hb dX0_takes_22 rfl (lv_at hl 1 rfl) ?_
    refine z_get (T := TX0) (v := .int (nI 2)) hE hH hR0 rfl uw_X0 0 (by decide) fkX0_11 rfl dX0_takes_23 ?_
    refine lv_tableIn (tgt := 95) hx hb dX0_takes_26 (by decide +kernel) (by decide +kernel) (off := 69) (by decide +kernel) (by decide) ?_
    refine lv_aload_n hx hb dX0_takes_95 rfl (lv_at hl 1 rfl) ?_
    refine n_iconst hx hb 3 dX0_takes_96 (by decide) ?_
    refine z_put (T := TX0) hE hH hS hR0 rfl uw_X0 tyX0 tyX0_ok nmX0 0 (by decide) fkX0_11 rfl rfl rfl (Nat.le_of_ble_eq_true rfl) (by omega) dX0_takes_97 (fun H locs M3 hH hS e1 o2 => ?_)
    have hF4 := fun q hq => (o2 q (by omega)).trans (hF q hq)
    refine lv_iload_n hx hb dX0_takes_100 rfl (lv_at hl 2 rfl) ?_
    refine n_bipush hx hb 58 dX0_takes_101 (by decide) ?_
    refine n_cmp_ne (tgt := 110) hx hb (by omega) (by decide) dX0_takes_103 (by decide) (fun h5 => ?_) (fun h5 => ?_)
    · refine n_iconst hx hb 0 dX0_takes_110 (by decide) ?_
      exact z_zret hE hH hS (by simp [tkB, *]; rfl) ⟨e1, hF4⟩ dX0_takes_111
    · refine n_iconst hx hb 1 dX0_takes_106 (by decide) ?_
      refine lv_goto (tgt := 111) hx hb dX0_takes_107 (by decide) ?_
      exact z_zret hE hH hS (by simp [tkB, *]; rfl) ⟨e1, hF4⟩ dX0_takes_111
  refine lv_iload_n hx hb dX0_takes_0 rfl (lv_at hl 1 rfl) ?_
  refine n_bipush hx hb 48 dX0_takes_1 (by decide) ?_
  refine n_cmp_lt (tgt := 19) hx hb (by omega) (by decide) dX0_takes_3 (by decide) (fun h6 => ?_) (fun h6 => ?_)
  · refine lv_bipush (v := (-6)) hx hb dX0_takes_19 (by decide) ?_
    exact z_topeq (show (-6) = oI (dgt c) from by unfold dgt; rw [if_neg (by omega)]; rfl) J21
  · refine lv_iload_n hx hb dX0_takes_6 rfl (lv_at hl 1 rfl) ?_
    refine n_bipush hx hb 57 dX0_takes_7 (by decide) ?_
    refine n_cmp_gt (tgt := 19) hx hb (by omega) (by decide) dX0_takes_9 (by decide) (fun h7 => ?_) (fun h7 => ?_)
    · refine lv_bipush (v := (-6)) hx hb dX0_takes_19 (by decide) ?_
      exact z_topeq (show (-6) = oI (dgt c) from by unfold dgt; rw [if_neg (by omega)]; rfl) J21
    · refine lv_iload_n hx hb dX0_takes_12 rfl (lv_at hl 1 rfl) ?_
      refine n_bipush hx hb 48 dX0_takes_13 (by decide) ?_
      refine n_isub hx hb (by omega) dX0_takes_15 ?_
      refine lv_goto (tgt := 21) hx hb dX0_takes_16 (by decide) ?_
      exact z_topeq (show nI (c - 48) = oI (dgt c) from by unfold dgt; rw [if_pos (by omega)]; rfl) J21

set_option maxHeartbeats 4000000 in
set_option maxRecDepth 100000 in
theorem c_X0_takes_3 (l : Launch) (G : zG) (B0 : Nat) (M : Mm) (a : Nat) (xo yo uo : Option Nat) (hR : RdM G a 3 xo yo uo M) (hBa : B0 ≤ a) (c : Nat) (hc : c < 128) : zMet l yX0_takes cX0_takes 3 (some .boolean) 1 0 0 G B0 M [.ref a, .int (nI c)] (some (.int (zb (tkB 3 uo c)))) (fun M1 => RdM G a (tkP 3 c) (tkX 3 xo c) (tkY 3 yo c) (tkU 3 uo c) M1 ∧ ∀ q, q ≠ a → M1 q = M q) := by
  refine z_met RX0 [(0, .ref a), (1, .int (nI c))] (by decide) rfl (Nat.le_of_ble_eq_true rfl) rfl ?_
  intro pg ev s m below meth cd ls hE hin hB0 hH hl
  have hx := hE.1
  have hb := hE.2.1
  have hF : ∀ q, q ≠ a → M q = M q := fun _ _ => rfl
  have hR0 : M a = some (.inr (0, [.int (nI 3), .int (oI xo), .int (oI yo), .int (oI uo)])) := hR
  refine z_gen B0 (fun H locs hH hS => ?_) hH
  have J21 : zW pg l ev 1 0 0 s m [.ref a, .int (nI c)] below meth cd H locs 0 0 G B0 (some (.int (zb (tkB 3 uo c)))) (fun M1 => RdM G a (tkP 3 c) (tkX 3 xo c) (tkY 3 yo c) (tkU 3 uo c) M1 ∧ ∀ q, q ≠ a → M1 q = M q) (F0 m 21 ls [.int (oI (dgt c))]) := by
    refine lv_istore_n (lv' := [(2, .int (oI (dgt c))), (0, .ref a), (1, .int (nI c))]) hx hb dX0_takes_21 rfl hl (by decide) rfl (fun ls hl => ?_)
    refine lv_aload_n hx hb dX0_takes_22 rfl (lv_at hl 1 rfl) ?_
    refine z_get (T := TX0) (v := .int (nI 3)) hE hH hR0 rfl uw_X0 0 (by decide) fkX0_11 rfl dX0_takes_23 ?_
    refine lv_tableIn (tgt := 112) hx hb dX0_takes_26 (by decide +kernel) (by decide +kernel) (off := 86) (by decide +kernel) (by decide) ?_
    refine lv_aload_n hx hb dX0_takes_112 rfl (lv_at hl 1 rfl) ?_
    refine lv_iload_n hx hb dX0_takes_113 rfl (lv_at hl 0 rfl) ?_
    refine z_put (T := TX0) hE hH hS hR0 rfl uw_X0 tyX0 tyX0_ok nmX0 3 (by decide) fkX0_25 rfl rfl rfl (Nat.le_of_ble_eq_true rfl) (by omega) dX0_takes_114 (fun H locs M3 hH hS e1 o2 => ?_)
    have hF4 := fun q hq => (o2 q (by omega)).trans (hF q hq)
    refine lv_aload_n hx hb dX0_takes_117 rfl (lv_at hl 1 rfl) ?_
    refine n_iconst hx hb 4 dX0_takes_118 (by decide) ?_
    refine z_put (T := TX0) hE hH hS e1 rfl uw_X0 tyX0 tyX0_ok nmX0 0 (by decide) fkX0_11 rfl rfl rfl (Nat.le_of_ble_eq_true rfl) (by omega) dX0_takes_119 (fun H locs M7 hH hS e5 o6 => ?_)
    have hF8 := fun q hq => (o6 q (by omega)).trans (hF4 q hq)
    refine lv_iload_n hx hb dX0_takes_122 rfl (lv_at hl 0 rfl) ?_
    refine lv_bipush (v := (-6)) hx hb dX0_takes_123 (by decide) ?_
    refine o_cmp_eq (tgt := 132) hx hb (dgt_ob) dX0_takes_125 (by decide) (fun h9 => ?_) (fun j10 h9 => ?_)
    · refine n_iconst hx hb 0 dX0_takes_132 (by decide) ?_
      exact z_zret hE hH hS (by simp [tkB, *]; rfl) ⟨e5, hF8⟩ dX0_takes_133
    · rw [h9] at hl
      replace hl : lv_has ls 3 [(2, .int (nI j10)), (0, .ref a), (1, .int (nI c))] := hl
      refine n_iconst hx hb 1 dX0_takes_128 (by decide) ?_
      refine lv_goto (tgt := 133) hx hb dX0_takes_129 (by decide) ?_
      exact z_zret hE hH hS (by simp [tkB, *]; rfl) ⟨e5, hF8⟩ dX0_takes_133
  refine lv_iload_n hx hb dX0_takes_0 rfl (lv_at hl 1 rfl) ?_
  refine n_bipush hx hb 48 dX0_takes_1 (by decide) ?_
  refine n_cmp_lt (tgt := 19) hx hb (by omega) (by decide) dX0_takes_3 (by decide) (fun h11 => ?_) (fun h11 => ?_)
  · refine lv_bipush (v := (-6)) hx hb dX0_takes_19 (by decide) ?_
    exact z_topeq (show (-6) = oI (dgt c) from by unfold dgt; rw [if_neg (by omega)]; rfl) J21
  · refine lv_iload_n hx hb dX0_takes_6 rfl (lv_at hl 1 rfl) ?_
    refine n_bipush hx hb 57 dX0_takes_7 (by decide) ?_
    refine n_cmp_gt (tgt := 19) hx hb (by omega) (by decide) dX0_takes_9 (by decide) (fun h12 => ?_) (fun h12 => ?_)
    · refine lv_bipush (v := (-6)) hx hb dX0_takes_19 (by decide) ?_
      exact z_topeq (show (-6) = oI (dgt c) from by unfold dgt; rw [if_neg (by omega)]; rfl) J21
    · refine lv_iload_n hx hb dX0_takes_12 rfl (lv_at hl 1 rfl) ?_
      refine n_bipush hx hb 48 dX0_takes_13 (by decide) ?_
      refine n_isub hx hb (by omega) dX0_takes_15 ?_
      refine lv_goto (tgt := 21) hx hb dX0_takes_16 (by decide) ?_
      exact z_topeq (show nI (c - 48) = oI (dgt c) from by unfold dgt; rw [if_pos (by omega)]; rfl) J21

set_option maxHeartbeats 4000000 in
set_option maxRecDepth 100000 in
theorem c_X0_takes_4 (l : Launch) (G : zG) (B0 : Nat) (M : Mm) (a : Nat) (xo yo : Option Nat) (u : Nat) (hR : RdM G a 4 xo yo (some u) M) (hBa : B0 ≤ a) (hu : u ≤ 999) (c : Nat) (hc : c < 128) : zMet l yX0_takes cX0_takes 3 (some .boolean) 1 0 0 G B0 M [.ref a, .int (nI c)] (some (.int (zb (tkB 4 (some u) c)))) (fun M1 => RdM G a (tkP 4 c) (tkX 4 xo c) (tkY 4 yo c) (tkU 4 (some u) c) M1 ∧ ∀ q, q ≠ a → M1 q = M q) := by
  refine z_met RX0 [(0, .ref a), (1, .int (nI c))] (by decide) rfl (Nat.le_of_ble_eq_true rfl) rfl ?_
  intro pg ev s m below meth cd ls hE hin hB0 hH hl
  have hx := hE.1
  have hb := hE.2.1
  have hF : ∀ q, q ≠ a → M q = M q := fun _ _ => rfl
  have hR0 : M a = some (.inr (0, [.int (nI 4), .int (oI xo), .int (oI yo), .int (nI u)])) := hR
  refine z_gen B0 (fun H locs hH hS => ?_) hH
  have J21 : zW pg l ev 1 0 0 s m [.ref a, .int (nI c)] below meth cd H locs 0 0 G B0 (some (.int (zb (tkB 4 (some u) c)))) (fun M1 => RdM G a (tkP 4 c) (tkX 4 xo c) (tkY 4 yo c) (tkU 4 (some u) c) M1 ∧ ∀ q, q ≠ a → M1 q = M q) (F0 m 21 ls [.int (oI (dgt c))]) := by
    refine lv_istore_n (lv' := [(2, .int (oI (dgt c))), (0, .ref a), (1, .int (nI c))]) hx hb dX0_takes_21 rfl hl (by decide) rfl (fun ls hl => ?_)
    refine lv_aload_n hx hb dX0_takes_22 rfl (lv_at hl 1 rfl) ?_
    refine z_get (T := TX0) (v := .int (nI 4)) hE hH hR0 rfl uw_X0 0 (by decide) fkX0_11 rfl dX0_takes_23 ?_
    refine lv_tableOut (tgt := 134) hx hb dX0_takes_26 (by decide +kernel) (by decide) ?_
    refine lv_iload_n hx hb dX0_takes_134 rfl (lv_at hl 2 rfl) ?_
    refine n_bipush hx hb 59 dX0_takes_135 (by decide) ?_
    refine n_cmp_ne (tgt := 147) hx hb (by omega) (by decide) dX0_takes_137 (by decide) (fun h1 => ?_) (fun h1 => ?_)
    · refine lv_aload_n hx hb dX0_takes_147 rfl (lv_at hl 1 rfl) ?_
      refine lv_iload_n hx hb dX0_takes_148 rfl (lv_at hl 0 rfl) ?_
      refine z_callV (rest := []) (st2 := [.int (zb (lpO (dgt c) u))]) hE hH hS hB0 hl ca_X0_lengthensPurse mkX0_32 (c_X0_lengthensPurse l G B0 M a 4 xo yo u hR0 (by omega) (by omega) (dgt c) (fun j h => (dgt_le h).1)) hR0 rfl rfl rfl rfl rfl ⟨Nat.le_of_ble_eq_true rfl, Nat.le_of_ble_eq_true rfl⟩ (Nat.le_of_ble_eq_true rfl) ⟨Nat.le_refl _, Nat.le_refl _⟩ dX0_takes_149 (fun H locs M2 hH hp hS => ?_)
      obtain ⟨hR3, hG4⟩ := hp
      have hF5 := fun q hq => (hG4 q hq).trans (hF q hq)
      exact z_zret hE hH hS (by simp [tkB, lpO, lpB, *]) ⟨by have hh := hR3; unfold tkP tkU; rw [if_neg (by assumption)]; unfold RdM at hh ⊢; rw [hh]; simp only [tkX, tkY, lpU, lpB, tkB]; cases hd : dgt c with | none => simp [*] | some d => (simp [*]; split <;> simp [oI]), hF5⟩ dX0_takes_152
    · refine lv_aload_n hx hb dX0_takes_140 rfl (lv_at hl 1 rfl) ?_
      refine z_callV (rest := []) (st2 := [.int (zb true)]) hE hH hS hB0 hl ca_X0_endsBuyer mkX0_28 (c_X0_endsBuyer l G B0 M a 4 xo yo (some u) hR0 (by omega)) hR0 rfl rfl rfl rfl rfl ⟨Nat.le_of_ble_eq_true rfl, Nat.le_of_ble_eq_true rfl⟩ (Nat.le_of_ble_eq_true rfl) ⟨Nat.le_refl _, Nat.le_refl _⟩ dX0_takes_141 (fun H locs M6 hH hp hS => ?_)
      obtain ⟨hR7, hG8⟩ := hp
      have hF9 := fun q hq => (hG8 q hq).trans (hF q hq)
      refine lv_goto (tgt := 152) hx hb dX0_takes_144 (by decide) ?_
      exact z_zret hE hH hS (by simp [tkB, *]) ⟨by have hc59 : c = 59 := (by assumption); subst hc59; exact hR7, hF9⟩ dX0_takes_152
  refine lv_iload_n hx hb dX0_takes_0 rfl (lv_at hl 1 rfl) ?_
  refine n_bipush hx hb 48 dX0_takes_1 (by decide) ?_
  refine n_cmp_lt (tgt := 19) hx hb (by omega) (by decide) dX0_takes_3 (by decide) (fun h10 => ?_) (fun h10 => ?_)
  · refine lv_bipush (v := (-6)) hx hb dX0_takes_19 (by decide) ?_
    exact z_topeq (show (-6) = oI (dgt c) from by unfold dgt; rw [if_neg (by omega)]; rfl) J21
  · refine lv_iload_n hx hb dX0_takes_6 rfl (lv_at hl 1 rfl) ?_
    refine n_bipush hx hb 57 dX0_takes_7 (by decide) ?_
    refine n_cmp_gt (tgt := 19) hx hb (by omega) (by decide) dX0_takes_9 (by decide) (fun h11 => ?_) (fun h11 => ?_)
    · refine lv_bipush (v := (-6)) hx hb dX0_takes_19 (by decide) ?_
      exact z_topeq (show (-6) = oI (dgt c) from by unfold dgt; rw [if_neg (by omega)]; rfl) J21
    · refine lv_iload_n hx hb dX0_takes_12 rfl (lv_at hl 1 rfl) ?_
      refine n_bipush hx hb 48 dX0_takes_13 (by decide) ?_
      refine n_isub hx hb (by omega) dX0_takes_15 ?_
      refine lv_goto (tgt := 21) hx hb dX0_takes_16 (by decide) ?_
      exact z_topeq (show nI (c - 48) = oI (dgt c) from by unfold dgt; rw [if_pos (by omega)]; rfl) J21

/-- takes(c), at any position -/
theorem c_X0_takes (l : Launch) (G : zG) (B0 : Nat) (M : Mm) (a p : Nat) (xo yo uo : Option Nat) (hR : RdM G a p xo yo uo M) (hBa : B0 ≤ a) (hp : p ≤ 4) (hu : p = 4 → ∃ u, uo = some u ∧ u ≤ 999) (c : Nat) (hc : c < 128) : zMet l yX0_takes cX0_takes 3 (some .boolean) 1 0 0 G B0 M [.ref a, .int (nI c)] (some (.int (zb (tkB p uo c)))) (fun M1 => RdM G a (tkP p c) (tkX p xo c) (tkY p yo c) (tkU p uo c) M1 ∧ ∀ q, q ≠ a → M1 q = M q) := by
  rcases (show p = 0 ∨ p = 1 ∨ p = 2 ∨ p = 3 ∨ p = 4 by omega) with rfl | rfl | rfl | rfl | rfl
  · exact c_X0_takes_0 l G B0 M a xo yo uo hR hBa c hc
  · exact c_X0_takes_1 l G B0 M a xo yo uo hR hBa c hc
  · exact c_X0_takes_2 l G B0 M a xo yo uo hR hBa c hc
  · exact c_X0_takes_3 l G B0 M a xo yo uo hR hBa c hc
  · obtain ⟨u, rfl, hu9⟩ := hu rfl
    exact c_X0_takes_4 l G B0 M a xo yo u hR hBa hu9 c hc
