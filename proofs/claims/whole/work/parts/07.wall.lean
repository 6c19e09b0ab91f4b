theorem seenGo_succ (v : Wv) (but : Int32) (c j : Nat) : seenGo v but c (j + 1) = if nI j ≠ but ∧ 0 < cv v j c then some j else seenGo v but c j := rfl
theorem oI_lt {o o' : Option Nat} (h : ∀ j, o = some j → j < 2 ^ 31) (h' : ∀ j, o' = some j → j < 2 ^ 31) : oI o = oI o' ↔ o = o' := by
  cases o' with
  | none => exact oI_none h
  | some j => exact oI_some h (h' j rfl)
def omax : Option Nat → Option Nat → Option Nat
  | none, b => b
  | some x, none => some x
  | some x, some y => some (max x y)
theorem oI_max {o o' : Option Nat} (h : ∀ j, o = some j → j < 2 ^ 31) (h' : ∀ j, o' = some j → j < 2 ^ 31) : (if oI o < oI o' then oI o' else oI o) = oI (omax o o') := by
  have e6 : ((-6 : Int32)).toInt = -6 := by decide
  cases o with
  | none =>
    cases o' with
    | none => rfl
    | some y =>
      have hy := h' y rfl
      have : (-6 : Int32) < nI y := by rw [Int32.lt_iff_toInt_lt, nI_toInt hy, e6]; omega
      show (if (-6 : Int32) < nI y then nI y else -6) = nI y
      rw [if_pos this]
  | some x =>
    have hx := h x rfl
    cases o' with
    | none =>
      have : ¬ nI x < (-6 : Int32) := by rw [Int32.lt_iff_toInt_lt, nI_toInt hx, e6]; omega
      show (if nI x < (-6 : Int32) then -6 else nI x) = nI x
      rw [if_neg this]
    | some y =>
      have hy := h' y rfl
      show (if nI x < nI y then nI y else nI x) = nI (max x y)
      by_cases hxy : x < y
      · rw [if_pos ((nI_lt_iff hx hy).mpr hxy), Nat.max_eq_right (by omega)]
      · rw [if_neg (fun q => hxy ((nI_lt_iff hx hy).mp q)), Nat.max_eq_left (by omega)]
section ZM
variable {p : Program} {l : Launch} {e : Env} {R : Room} {s : State} {m : MethodId} {args : Array Value} {below : List Frame} {meth : Method} {c : Code} {H : Heap} {locs : List Loc} {cells slots : Nat} {Q : State → Prop}
variable {cc : ByteArray} {pc tgt nL idx : Nat} {off : Int} {ls : Array Slot} {rest : List Value} {lv : List (Nat × Value)} {a b : Nat} {o o' : Option Nat} {G : zG} {own : String} {ret : Option FieldType}
theorem oo_cmp_eq (hx : p.tables.exec = Jvm.exec) (hb : c.code = cc) (ho : ∀ j, o = some j → j < 2 ^ 31) (ho' : ∀ j, o' = some j → j < 2 ^ 31) (hdg : decode cc pc = .ok (.if_icmp .eq off, 3)) (ht : (pc : Int) + off = (tgt : Int)) (kt : o = o' → W p l e R s m args below meth c H locs cells slots Q (F0 m tgt ls rest)) (kf : o ≠ o' → W p l e R s m args below meth c H locs cells slots Q (F0 m (pc + 3) ls rest)) : W p l e R s m args below meth c H locs cells slots Q (F0 m pc ls (.int (oI o') :: .int (oI o) :: rest)) :=
  lv_icmp_eq hx hb hdg ht (fun h => kt ((oI_lt ho ho').mp h)) (fun h => kf (fun q => h ((oI_lt ho ho').mpr q)))
theorem z_min (hE : zE p s m args meth c G own cc nL ret) (hl : lv_has ls nL lv) (hli : Cond.methodLink own idx yJ9_min_7cf53 ∈ Tb) (ha : a < 2 ^ 31) (hbb : b < 2 ^ 31) (hr : 1 ≤ R.frames ∧ (rest.map fun v => v.category).sum + 13 ≤ R.locals) (hcs : cells ≤ R.cells ∧ slots ≤ R.slots) (hdg : decode cc pc = .ok (.invokestatic idx, 3))
    (kk : W p l e R s m args below meth c H locs cells slots Q (F0 m (pc + 3) ls (.int (nI (min a b)) :: rest))) : W p l e R s m args below meth c H locs cells slots Q (F0 m pc ls (.int (nI b) :: .int (nI a) :: rest)) := by
  have hts := hE.2.2.2.2.1
  refine va_mmin hE.1 hE.2.1 (by rw [hE.2.2.1]; exact hl.1.symm) hE.2.2.2.1 (hts _ hli) (hts _ st_J9_min_7cf53) (hts _ ini_J9) (hts _ co_J9_min_7cf53) hr.1 hr.2 hcs.1 hcs.2 hdg ?_
  have e : (if nI b < nI a then nI b else nI a) = nI (min a b) := by
    by_cases h : b < a
    · rw [if_pos ((nI_lt_iff hbb ha).mpr h), Nat.min_eq_right (by omega)]
    · rw [if_neg (fun q => h ((nI_lt_iff hbb ha).mp q)), Nat.min_eq_left (by omega)]
  rw [e]
  exact kk
theorem o_max (hE : zE p s m args meth c G own cc nL ret) (hl : lv_has ls nL lv) (hli : Cond.methodLink own idx yJ9_max_7cf53 ∈ Tb) (ho : ∀ j, o = some j → j < 2 ^ 31) (ho' : ∀ j, o' = some j → j < 2 ^ 31) (hr : 1 ≤ R.frames ∧ (rest.map fun v => v.category).sum + 13 ≤ R.locals) (hcs : cells ≤ R.cells ∧ slots ≤ R.slots) (hdg : decode cc pc = .ok (.invokestatic idx, 3))
    (kk : W p l e R s m args below meth c H locs cells slots Q (F0 m (pc + 3) ls (.int (oI (omax o o')) :: rest))) : W p l e R s m args below meth c H locs cells slots Q (F0 m pc ls (.int (oI o') :: .int (oI o) :: rest)) := by
  have hts := hE.2.2.2.2.1
  refine va_mmax hE.1 hE.2.1 (by rw [hE.2.2.1]; exact hl.1.symm) hE.2.2.2.1 (hts _ hli) (hts _ st_J9_max_7cf53) (hts _ ini_J9) (hts _ co_J9_max_7cf53) hr.1 hr.2 hcs.1 hcs.2 hdg ?_
  rw [oI_max ho ho']
  exact kk
end ZM
def seenV (v : Wv) (c : Nat) : Nat := (seen v (-6) c).elim 0 (fun j => cv v j c)
def notClear (v : Wv) (c : Nat) : Nat := zcnt (fun j => decide (0 < cv v j c)) (v 0)
def lieCnt (v : Wv) (x y : Nat) : Nat := zcnt (fun j => liesN (pv v j) x y) (v 0)
def pricedCnt (v : Wv) : Nat := zcnt (fun c => (seen v (-6) c).isSome) 60
def unseenCnt (v : Wv) : Nat := zcnt (fun j => decide (seenCnt v j = 0)) (v 0)
def allClr (v : Wv) : Nat := zcnt (fun j => decide (ncCnt (cv v j) = 0)) (v 0)
def zany (p : Nat → Bool) : Nat → Bool
  | 0 => false
  | n + 1 => zany p n || p n
theorem zany_of {p : Nat → Bool} : ∀ {n k : Nat}, k < n → p k = true → zany p n = true
  | n + 1, k, hk, h => by
    unfold zany
    by_cases hkn : k = n
    · subst hkn; simp [h]
    · rw [zany_of (n := n) (k := k) (by omega) h]; rfl
def blw (v : Wv) (j : Nat) : Bool := zany (fun i => decide (pv v i 4 = pv v j 4) && decide (0 < seenCnt v i)) j
def unlikeCnt (v : Wv) : Nat := zcnt (fun j => decide (0 < seenCnt v j) && !(blw v j)) (v 0)
def grtTo (v : Wv) : Nat → Option Nat
  | 0 => none
  | k + 1 => omax (grtTo v k) (prc v (-6) k)
theorem prc_ob {v : Wv} (hv : wOk v) {but : Int32} {c : Nat} : ∀ j, prc v but c = some j → j < 1000 := fun j h => by
  unfold prc at h
  cases hs : seen v but c with
  | none => rw [hs] at h; cases h
  | some i =>
    rw [hs] at h
    have h1 := hv.price (seen_lt hs)
    have h2 : pv v i 4 = j := Option.some.inj h
    omega
theorem prc_ob31 {v : Wv} (hv : wOk v) {but : Int32} {c : Nat} : ∀ j, prc v but c = some j → j < 2 ^ 31 := fun j h => by
  have := prc_ob hv j h; omega
theorem omax_ob {o o' : Option Nat} {b : Nat} (h : ∀ j, o = some j → j < b) (h' : ∀ j, o' = some j → j < b) : ∀ j, omax o o' = some j → j < b := by
  intro j hj
  cases o with
  | none => exact h' j hj
  | some x =>
    cases o' with
    | none => exact h j hj
    | some y =>
      have h1 := h x rfl
      have h2 := h' y rfl
      have h3 : max x y = j := Option.some.inj hj
      omega
theorem grt_ob {v : Wv} (hv : wOk v) : ∀ k j, grtTo v k = some j → j < 2 ^ 31
  | 0, j, h => by cases h
  | k + 1, j, h => omax_ob (grt_ob hv k) (prc_ob31 hv) j h
def unlikeW (v v2 : Wv) : Nat := zcnt (fun c => decide (prc v (-6) c ≠ prc v2 (-6) c)) 60
/-- how many days of its own a cell takes that has x, under a sun of u -/
def dtc (x u : Nat) : Nat := if x = 0 then 0 else if 0 < u then (x + u - 1) / u else 1000000
theorem dtc_le {x u : Nat} (h : x ≤ 99) : dtc x u ≤ 1000000 := by
  unfold dtc
  split
  · omega
  · split
    · have := Nat.div_le_self (x + u - 1) u
      have h2 : (x + u - 1) / u ≤ x := by
        rename_i h0 hu
        have h3 : x + u - 1 < (x + 1) * u := by
          have : (x + 1) * u = x * u + u := by rw [Nat.add_mul, Nat.one_mul]
          have h4 : x * 1 ≤ x * u := Nat.mul_le_mul_left x hu
          omega
        have := Nat.div_lt_of_lt_mul (by rw [Nat.mul_comm]; exact h3 : x + u - 1 < u * (x + 1))
        omega
      omega
    · omega
def dtoGo (v : Wv) (c : Nat) (pr : Nat) : Nat → Nat → Nat
  | 0, d => d
  | j + 1, d => if 0 < cv v j c ∧ pv v j 4 ≠ pr then d else dtoGo v c pr j (d + dtc (cv v j c) (sv v (c % 10)))
def dtOther (v : Wv) (c : Nat) : Nat := (prc v (-6) c).elim 1000000 (fun pr => dtoGo v c pr (v 0) 0)
def dtSee (v : Wv) (j c : Nat) : Nat := if cv v j c = 0 then 1000000 else zsum (fun i => if j + 1 ≤ i then dtc (cv v i c) (sv v (c % 10)) else 0) (v 0)
theorem zsum_zero {f : Nat → Nat} : ∀ {n : Nat}, (∀ k, k < n → f k = 0) → zsum f n = 0
  | 0, _ => rfl
  | n + 1, h => by unfold zsum; rw [zsum_zero (fun k hk => h k (by omega)), h n (by omega)]

set_option maxHeartbeats 4000000 in
set_option maxRecDepth 100000 in
theorem c_X4_seenWithout (l : Launch) (G : zG) (B0 : Nat) (M : Mm) (w : Nat) (r : Nat → Nat) (v : Wv) (hW : WlR G w r v M) (hr : rOk r) (hv : wOk v) (but : Int32) (c : Nat) (hc : c < 60) : zMet l yX4_seenWithout cX4_seenWithout 4 (some .int) 1 0 0 G B0 M [.ref w, .int but, .int (nI c)] (some (.int (oI (seen v but c)))) (fun M1 => M = M1) := by
  refine z_met RX4 [(0, .ref w), (1, .int but), (2, .int (nI c))] (by decide) rfl (Nat.le_of_ble_eq_true rfl) rfl ?_
  intro pg ev s m below meth cd ls hE hin hB0 hH hl
  have hx := hE.1
  have hb := hE.2.1
  have hn := hv.1
  refine z_gen B0 (fun H locs hH hS => ?_) hH
  refine lv_aload_n hx hb dX4_seenWithout_0 rfl (lv_at hl 0 rfl) ?_
  refine z_get (T := TX4) (v := .int (nI (v 0))) hE hH hW.1 rfl uw_X4 1 (by decide) fkX4_22 rfl dX4_seenWithout_1 ?_
  refine n_iconst hx hb 1 dX4_seenWithout_4 (by decide) ?_
  refine lv_isub hx hb dX4_seenWithout_5 ?_
  refine lv_istore_n (lv' := [(3, .int (nI (v 0) - nI 1)), (0, .ref w), (1, .int but), (2, .int (nI c))]) hx hb dX4_seenWithout_6 rfl hl (by decide) rfl (fun ls hl => ?_)
  have L7 : ∀ (dd : Nat) (n : Nat), n < dd → (seenGo v but c n = seen v but c) → (n ≤ v 0) → ∀ (H : Heap) (locs : List Loc), zH G M H → zS 0 B0 s.heap H locs → ∀ (ls : Array Slot), lv_has ls 4 [(0, .ref w), (1, .int but), (2, .int (nI c)), (3, .int (nI n - nI 1))] → zW pg l ev 1 0 0 s m [.ref w, .int but, .int (nI c)] below meth cd H locs 0 0 G B0 (some (.int (oI (seen v but c)))) (fun M1 => M = M1) (F0 m 7 ls []) := by
    intro dd
    induction dd with
    | zero =>
      intro n hdd hs hnn
      exact absurd hdd (by omega)
    | succ dd ih =>
      intro n hdd hs hnn H locs hH hS ls hl
      refine lv_iload_n hx hb dX4_seenWithout_7 rfl (lv_at hl 3 rfl) ?_
      refine n_down_lt (tgt := 38) hx hb (by omega) dX4_seenWithout_8 (by decide) (fun h1 => ?_) (fun j2 h1 => ?_)
      · refine lv_bipush (v := (-6)) hx hb dX4_seenWithout_38 (by decide) ?_
        exact z_iret hE hH hS (by rw [← hs, h1]; rfl) rfl dX4_seenWithout_40
      · subst h1
        rw [nI_down] at hl
        refine lv_iload_n hx hb dX4_seenWithout_11 rfl (lv_at hl 3 rfl) ?_
        refine lv_iload_n hx hb dX4_seenWithout_12 rfl (lv_at hl 1 rfl) ?_
        refine lv_icmp_eq (tgt := 32) hx hb dX4_seenWithout_13 (by decide) (fun h3 => ?_) (fun h3 => ?_)
        · refine lv_iinc (v := (nI j2 - nI 1)) (lv' := [(3, .int (nI j2 - nI 1)), (0, .ref w), (1, .int but), (2, .int (nI c))]) hx hb dX4_seenWithout_32 hl (k := 3) rfl (nI_dec1 _) (by decide) rfl (fun ls hl => ?_)
          refine lv_goto (tgt := 7) hx hb dX4_seenWithout_35 (by decide) ?_
          exact ih  j2 (by omega) (by rw [← hs, seenGo_succ, if_neg (by rintro ⟨q1, q2⟩; first | exact q1 (by assumption) | omega)]) (by omega) _ _ hH hS _ (lv_sub hl [1, 2, 3, 0] rfl)
        · refine lv_aload_n hx hb dX4_seenWithout_16 rfl (lv_at hl 0 rfl) ?_
          refine z_get (T := TX4) (v := .ref (w + 1)) hE hH hW.1 rfl uw_X4 0 (by decide) fkX4_11 rfl dX4_seenWithout_17 ?_
          refine lv_iload_n hx hb dX4_seenWithout_20 rfl (lv_at hl 3 rfl) ?_
          refine z_aald hE hH hW.2.1 rfl (k := j2) (by omega) (by decide) dX4_seenWithout_21 ?_
          refine z_get (T := TX3) (v := .ref (w + 2 + 2 * r j2 + 1)) hE hH (hW.2.2.2.2 j2 (by omega)).1 rfl uw_X3 7 (by decide) fkX4_53 rfl dX4_seenWithout_22 ?_
          refine lv_iload_n hx hb dX4_seenWithout_25 rfl (lv_at hl 2 rfl) ?_
          refine z_iald hE hH (hW.2.2.2.2 j2 (by omega)).2 (k := c) (by omega) (by decide) dX4_seenWithout_26 ?_
          have q4 := hv.coat (j := j2) (c := c) (by omega) (by omega)
          refine n_if_le (tgt := 32) hx hb (by omega) dX4_seenWithout_27 (by decide) (fun h5 => ?_) (fun h5 => ?_)
          · refine lv_iinc (v := (nI j2 - nI 1)) (lv' := [(3, .int (nI j2 - nI 1)), (0, .ref w), (1, .int but), (2, .int (nI c))]) hx hb dX4_seenWithout_32 hl (k := 3) rfl (nI_dec1 _) (by decide) rfl (fun ls hl => ?_)
            refine lv_goto (tgt := 7) hx hb dX4_seenWithout_35 (by decide) ?_
            exact ih  j2 (by omega) (by rw [← hs, seenGo_succ, if_neg (by rintro ⟨q1, q2⟩; first | exact q1 (by assumption) | omega)]) (by omega) _ _ hH hS _ (lv_sub hl [1, 2, 3, 0] rfl)
          · refine lv_iload_n hx hb dX4_seenWithout_30 rfl (lv_at hl 3 rfl) ?_
            exact z_iret hE hH hS (by rw [← hs, seenGo_succ, if_pos ⟨by assumption, by omega⟩]; rfl) rfl dX4_seenWithout_31
  exact L7 (v 0 + 1) (v 0) (by omega) rfl (Nat.le_refl _) _ _ hH hS _ (lv_sub hl [1, 2, 3, 0] rfl)

set_option maxHeartbeats 4000000 in
set_option maxRecDepth 100000 in
theorem c_X4_seenAt (l : Launch) (G : zG) (B0 : Nat) (M : Mm) (w : Nat) (r : Nat → Nat) (v : Wv) (hW : WlR G w r v M) (hr : rOk r) (hv : wOk v) (c : Nat) (hc : c < 60) : zMet l yX4_seenAt cX4_seenAt 2 (some .int) 2 0 0 G B0 M [.ref w, .int (nI c)] (some (.int (oI (seen v (-6) c)))) (fun M1 => M = M1) := by
  refine z_met RX4 [(0, .ref w), (1, .int (nI c))] (by decide) rfl (Nat.le_of_ble_eq_true rfl) rfl ?_
  intro pg ev s m below meth cd ls hE hin hB0 hH hl
  have hx := hE.1
  have hb := hE.2.1
  have hn := hv.1
  refine z_gen B0 (fun H locs hH hS => ?_) hH
  refine lv_aload_n hx hb dX4_seenAt_0 rfl (lv_at hl 0 rfl) ?_
  refine lv_bipush (v := (-6)) hx hb dX4_seenAt_1 (by decide) ?_
  refine lv_iload_n hx hb dX4_seenAt_3 rfl (lv_at hl 1 rfl) ?_
  refine z_callV (rest := []) (st2 := [.int (oI (seen v (-6) c))]) hE hH hS hB0 hl ca_X4_seenWithout mkX4_81 (c_X4_seenWithout l G B0 M w r v hW hr hv (-6) c (by omega)) hW.1 rfl rfl rfl rfl rfl ⟨Nat.le_of_ble_eq_true rfl, Nat.le_of_ble_eq_true rfl⟩ (Nat.le_of_ble_eq_true rfl) ⟨Nat.le_refl _, Nat.le_refl _⟩ dX4_seenAt_4 (fun H locs M1 hH hp hS => ?_)
  subst hp
  exact z_iret hE hH hS rfl rfl dX4_seenAt_7

set_option maxHeartbeats 4000000 in
set_option maxRecDepth 100000 in
theorem c_X4_priceAt (l : Launch) (G : zG) (B0 : Nat) (M : Mm) (w : Nat) (r : Nat → Nat) (v : Wv) (hW : WlR G w r v M) (hr : rOk r) (hv : wOk v) (c : Nat) (hc : c < 60) : zMet l yX4_priceAt cX4_priceAt 3 (some .int) 3 0 0 G B0 M [.ref w, .int (nI c)] (some (.int (oI (prc v (-6) c)))) (fun M1 => M = M1) := by
  refine z_met RX4 [(0, .ref w), (1, .int (nI c))] (by decide) rfl (Nat.le_of_ble_eq_true rfl) rfl ?_
  intro pg ev s m below meth cd ls hE hin hB0 hH hl
  have hx := hE.1
  have hb := hE.2.1
  have hn := hv.1
  refine z_gen B0 (fun H locs hH hS => ?_) hH
  refine lv_aload_n hx hb dX4_priceAt_0 rfl (lv_at hl 0 rfl) ?_
  refine lv_iload_n hx hb dX4_priceAt_1 rfl (lv_at hl 1 rfl) ?_
  refine z_callV (rest := []) (st2 := [.int (oI (seen v (-6) c))]) hE hH hS hB0 hl ca_X4_seenAt mkX4_56 (c_X4_seenAt l G B0 M w r v hW hr hv c (by omega)) hW.1 rfl rfl rfl rfl rfl ⟨Nat.le_of_ble_eq_true rfl, Nat.le_of_ble_eq_true rfl⟩ (Nat.le_of_ble_eq_true rfl) ⟨Nat.le_refl _, Nat.le_refl _⟩ dX4_priceAt_2 (fun H locs M1 hH hp hS => ?_)
  subst hp
  refine lv_istore_n (lv' := [(2, .int (oI (seen v (-6) c))), (0, .ref w), (1, .int (nI c))]) hx hb dX4_priceAt_5 rfl hl (by decide) rfl (fun ls hl => ?_)
  refine lv_iload_n hx hb dX4_priceAt_6 rfl (lv_at hl 0 rfl) ?_
  refine lv_bipush (v := (-6)) hx hb dX4_priceAt_7 (by decide) ?_
  refine o_cmp_ne (tgt := 17) hx hb (seen_ob hv) dX4_priceAt_9 (by decide) (fun j2 h1 => ?_) (fun h1 => ?_)
  · rw [h1] at hl
    replace hl : lv_has ls 3 [(2, .int (nI j2)), (0, .ref w), (1, .int (nI c))] := hl
    have j2_lt := seen_lt h1
    have j2_pos := seen_pos h1
    refine lv_aload_n hx hb dX4_priceAt_17 rfl (lv_at hl 1 rfl) ?_
    refine z_get (T := TX4) (v := .ref (w + 1)) hE hH hW.1 rfl uw_X4 0 (by decide) fkX4_11 rfl dX4_priceAt_18 ?_
    refine lv_iload_n hx hb dX4_priceAt_21 rfl (lv_at hl 0 rfl) ?_
    refine z_aald hE hH hW.2.1 rfl (k := j2) (by omega) (by decide) dX4_priceAt_22 ?_
    have q3 := hv.price (j := j2) (by omega)
    refine z_get (T := TX3) (v := .int (nI (pv v j2 4))) hE hH (hW.2.2.2.2 j2 (by omega)).1 rfl uw_X3 4 (by decide) fkX4_66 rfl dX4_priceAt_23 ?_
    exact z_iret hE hH hS (by simp [prc, *, oI]) rfl dX4_priceAt_26
  · refine lv_bipush (v := (-6)) hx hb dX4_priceAt_12 (by decide) ?_
    refine lv_goto (tgt := 26) hx hb dX4_priceAt_14 (by decide) ?_
    exact z_iret hE hH hS (by simp [prc, *, oI]) rfl dX4_priceAt_26

set_option maxHeartbeats 4000000 in
set_option maxRecDepth 100000 in
theorem c_X4_sumWithout (l : Launch) (G : zG) (B0 : Nat) (M : Mm) (w : Nat) (r : Nat → Nat) (v : Wv) (hW : WlR G w r v M) (hr : rOk r) (hv : wOk v) (but : Int32) : zMet l yX4_sumWithout cX4_sumWithout 5 (some .int) 2 0 0 G B0 M [.ref w, .int but] (some (.int (nI (sumW v but)))) (fun M1 => M = M1) := by
  refine z_met RX4 [(0, .ref w), (1, .int but)] (by decide) rfl (Nat.le_of_ble_eq_true rfl) rfl ?_
  intro pg ev s m below meth cd ls hE hin hB0 hH hl
  have hx := hE.1
  have hb := hE.2.1
  have hn := hv.1
  refine z_gen B0 (fun H locs hH hS => ?_) hH
  refine n_iconst hx hb 0 dX4_sumWithout_0 (by decide) ?_
  refine lv_istore_n (lv' := [(2, .int (nI 0)), (0, .ref w), (1, .int but)]) hx hb dX4_sumWithout_1 rfl hl (by decide) rfl (fun ls hl => ?_)
  refine n_iconst hx hb 0 dX4_sumWithout_2 (by decide) ?_
  refine lv_istore_n (lv' := [(3, .int (nI 0)), (2, .int (nI 0)), (0, .ref w), (1, .int but)]) hx hb dX4_sumWithout_3 rfl hl (by decide) rfl (fun ls hl => ?_)
  have L4 : ∀ (dd : Nat) (k : Nat) (a : Nat), 60 < k + dd → (k ≤ 60) → (a = zsum (fun c => (prc v but c).getD 0) k) → ∀ (H : Heap) (locs : List Loc), zH G M H → zS 0 B0 s.heap H locs → ∀ (ls : Array Slot), lv_has ls 5 [(0, .ref w), (1, .int but), (2, .int (nI a)), (3, .int (nI k))] → zW pg l ev 2 0 0 s m [.ref w, .int but] below meth cd H locs 0 0 G B0 (some (.int (nI (sumW v but)))) (fun M1 => M = M1) (F0 m 4 ls []) := by
    intro dd
    induction dd with
    | zero =>
      intro k a hdd hk ha
      exact absurd hdd (by omega)
    | succ dd ih =>
      intro k a hdd hk ha H locs hH hS ls hl
      refine lv_iload_n hx hb dX4_sumWithout_4 rfl (lv_at hl 3 rfl) ?_
      refine n_bipush hx hb 60 dX4_sumWithout_5 (by decide) ?_
      refine n_cmp_ge (tgt := 44) hx hb (by omega) (by decide) dX4_sumWithout_7 (by decide) (fun h1 => ?_) (fun h1 => ?_)
      · refine lv_iload_n hx hb dX4_sumWithout_44 rfl (lv_at hl 2 rfl) ?_
        exact z_iret hE hH hS (by have hkk : k = 60 := (by omega); subst hkk; rw [ha]; first | done | rfl) rfl dX4_sumWithout_45
      · refine lv_aload_n hx hb dX4_sumWithout_10 rfl (lv_at hl 0 rfl) ?_
        refine lv_iload_n hx hb dX4_sumWithout_11 rfl (lv_at hl 1 rfl) ?_
        refine lv_iload_n hx hb dX4_sumWithout_12 rfl (lv_at hl 3 rfl) ?_
        refine z_callV (rest := []) (st2 := [.int (oI (seen v but k))]) hE hH hS hB0 hl ca_X4_seenWithout mkX4_81 (c_X4_seenWithout l G B0 M w r v hW hr hv but k (by omega)) hW.1 rfl rfl rfl rfl rfl ⟨Nat.le_of_ble_eq_true rfl, Nat.le_of_ble_eq_true rfl⟩ (Nat.le_of_ble_eq_true rfl) ⟨Nat.le_refl _, Nat.le_refl _⟩ dX4_sumWithout_13 (fun H locs M1 hH hp hS => ?_)
        subst hp
        refine lv_istore (lv' := [(4, .int (oI (seen v but k))), (0, .ref w), (1, .int but), (2, .int (nI a)), (3, .int (nI k))]) hx hb dX4_sumWithout_16 hl (by decide) rfl (fun ls hl => ?_)
        refine lv_iload hx hb dX4_sumWithout_18 (lv_at hl 0 rfl) ?_
        refine lv_bipush (v := (-6)) hx hb dX4_sumWithout_20 (by decide) ?_
        refine o_cmp_eq (tgt := 38) hx hb (seen_ob hv) dX4_sumWithout_22 (by decide) (fun h2 => ?_) (fun j3 h2 => ?_)
        · refine lv_iinc (v := (nI (k + 1))) (lv' := [(3, .int (nI (k + 1))), (4, .int (oI (seen v but k))), (0, .ref w), (1, .int but), (2, .int (nI a))]) hx hb dX4_sumWithout_38 hl (k := 4) rfl (nI_inc _) (by decide) rfl (fun ls hl => ?_)
          refine lv_goto (tgt := 4) hx hb dX4_sumWithout_41 (by decide) ?_
          exact ih  (k + 1) a (by omega) (by omega) (by unfold zsum; rw [← ha]; simp [prc, *]) _ _ hH hS _ (lv_sub hl [2, 3, 4, 0] rfl)
        · rw [h2] at hl
          replace hl : lv_has ls 5 [(4, .int (nI j3)), (0, .ref w), (1, .int but), (2, .int (nI a)), (3, .int (nI k))] := hl
          have j3_lt := seen_lt h2
          have j3_pos := seen_pos h2
          refine lv_iload_n hx hb dX4_sumWithout_25 rfl (lv_at hl 3 rfl) ?_
          refine lv_aload_n hx hb dX4_sumWithout_26 rfl (lv_at hl 1 rfl) ?_
          refine z_get (T := TX4) (v := .ref (w + 1)) hE hH hW.1 rfl uw_X4 0 (by decide) fkX4_11 rfl dX4_sumWithout_27 ?_
          refine lv_iload hx hb dX4_sumWithout_30 (lv_at hl 0 rfl) ?_
          refine z_aald hE hH hW.2.1 rfl (k := j3) (by omega) (by decide) dX4_sumWithout_32 ?_
          have q4 := hv.price (j := j3) (by omega)
          refine z_get (T := TX3) (v := .int (nI (pv v j3 4))) hE hH (hW.2.2.2.2 j3 (by omega)).1 rfl uw_X3 4 (by decide) fkX4_66 rfl dX4_sumWithout_33 ?_
          refine n_iadd hx hb dX4_sumWithout_36 ?_
          refine lv_istore_n (lv' := [(2, .int (nI (a + (pv v j3 4)))), (4, .int (nI j3)), (0, .ref w), (1, .int but), (3, .int (nI k))]) hx hb dX4_sumWithout_37 rfl hl (by decide) rfl (fun ls hl => ?_)
          refine lv_iinc (v := (nI (k + 1))) (lv' := [(3, .int (nI (k + 1))), (2, .int (nI (a + (pv v j3 4)))), (4, .int (nI j3)), (0, .ref w), (1, .int but)]) hx hb dX4_sumWithout_38 hl (k := 4) rfl (nI_inc _) (by decide) rfl (fun ls hl => ?_)
          refine lv_goto (tgt := 4) hx hb dX4_sumWithout_41 (by decide) ?_
          exact ih  (k + 1) (a + (pv v j3 4)) (by omega) (by omega) (by unfold zsum; rw [← ha]; simp [prc, *]) _ _ hH hS _ (lv_sub hl [3, 4, 1, 0] rfl)
  exact L4 61 0 0 (by omega) (by omega) rfl _ _ hH hS _ (lv_sub hl [2, 3, 1, 0] rfl)

set_option maxHeartbeats 4000000 in
set_option maxRecDepth 100000 in
theorem c_X4_seenVarnishAt (l : Launch) (G : zG) (B0 : Nat) (M : Mm) (w : Nat) (r : Nat → Nat) (v : Wv) (hW : WlR G w r v M) (hr : rOk r) (hv : wOk v) (c : Nat) (hc : c < 60) : zMet l yX4_seenVarnishAt cX4_seenVarnishAt 3 (some .int) 3 0 0 G B0 M [.ref w, .int (nI c)] (some (.int (nI (seenV v c)))) (fun M1 => M = M1) := by
  refine z_met RX4 [(0, .ref w), (1, .int (nI c))] (by decide) rfl (Nat.le_of_ble_eq_true rfl) rfl ?_
  intro pg ev s m below meth cd ls hE hin hB0 hH hl
  have hx := hE.1
  have hb := hE.2.1
  have hn := hv.1
  refine z_gen B0 (fun H locs hH hS => ?_) hH
  refine lv_aload_n hx hb dX4_seenVarnishAt_0 rfl (lv_at hl 0 rfl) ?_
  refine lv_iload_n hx hb dX4_seenVarnishAt_1 rfl (lv_at hl 1 rfl) ?_
  refine z_callV (rest := []) (st2 := [.int (oI (seen v (-6) c))]) hE hH hS hB0 hl ca_X4_seenAt mkX4_56 (c_X4_seenAt l G B0 M w r v hW hr hv c (by omega)) hW.1 rfl rfl rfl rfl rfl ⟨Nat.le_of_ble_eq_true rfl, Nat.le_of_ble_eq_true rfl⟩ (Nat.le_of_ble_eq_true rfl) ⟨Nat.le_refl _, Nat.le_refl _⟩ dX4_seenVarnishAt_2 (fun H locs M1 hH hp hS => ?_)
  subst hp
  refine lv_istore_n (lv' := [(2, .int (oI (seen v (-6) c))), (0, .ref w), (1, .int (nI c))]) hx hb dX4_seenVarnishAt_5 rfl hl (by decide) rfl (fun ls hl => ?_)
  refine lv_iload_n hx hb dX4_seenVarnishAt_6 rfl (lv_at hl 0 rfl) ?_
  refine lv_bipush (v := (-6)) hx hb dX4_seenVarnishAt_7 (by decide) ?_
  refine o_cmp_ne (tgt := 16) hx hb (seen_ob hv) dX4_seenVarnishAt_9 (by decide) (fun j2 h1 => ?_) (fun h1 => ?_)
  · rw [h1] at hl
    replace hl : lv_has ls 3 [(2, .int (nI j2)), (0, .ref w), (1, .int (nI c))] := hl
    have j2_lt := seen_lt h1
    have j2_pos := seen_pos h1
    refine lv_aload_n hx hb dX4_seenVarnishAt_16 rfl (lv_at hl 1 rfl) ?_
    refine z_get (T := TX4) (v := .ref (w + 1)) hE hH hW.1 rfl uw_X4 0 (by decide) fkX4_11 rfl dX4_seenVarnishAt_17 ?_
    refine lv_iload_n hx hb dX4_seenVarnishAt_20 rfl (lv_at hl 0 rfl) ?_
    refine z_aald hE hH hW.2.1 rfl (k := j2) (by omega) (by decide) dX4_seenVarnishAt_21 ?_
    refine z_get (T := TX3) (v := .ref (w + 2 + 2 * r j2 + 1)) hE hH (hW.2.2.2.2 j2 (by omega)).1 rfl uw_X3 7 (by decide) fkX4_53 rfl dX4_seenVarnishAt_22 ?_
    refine lv_iload_n hx hb dX4_seenVarnishAt_25 rfl (lv_at hl 2 rfl) ?_
    refine z_iald hE hH (hW.2.2.2.2 j2 (by omega)).2 (k := c) (by omega) (by decide) dX4_seenVarnishAt_26 ?_
    have q3 := hv.coat (j := j2) (c := c) (by omega) (by omega)
    exact z_iret hE hH hS (by simp [seenV, *]) rfl dX4_seenVarnishAt_27
  · refine n_iconst hx hb 0 dX4_seenVarnishAt_12 (by decide) ?_
    refine lv_goto (tgt := 27) hx hb dX4_seenVarnishAt_13 (by decide) ?_
    exact z_iret hE hH hS (by simp [seenV, *]) rfl dX4_seenVarnishAt_27

set_option maxHeartbeats 4000000 in
set_option maxRecDepth 100000 in
theorem c_X4_notClearAt (l : Launch) (G : zG) (B0 : Nat) (M : Mm) (w : Nat) (r : Nat → Nat) (v : Wv) (hW : WlR G w r v M) (hr : rOk r) (hv : wOk v) (c : Nat) (hc : c < 60) : zMet l yX4_notClearAt cX4_notClearAt 4 (some .int) 1 0 0 G B0 M [.ref w, .int (nI c)] (some (.int (nI (notClear v c)))) (fun M1 => M = M1) := by
  refine z_met RX4 [(0, .ref w), (1, .int (nI c))] (by decide) rfl (Nat.le_of_ble_eq_true rfl) rfl ?_
  intro pg ev s m below meth cd ls hE hin hB0 hH hl
  have hx := hE.1
  have hb := hE.2.1
  have hn := hv.1
  refine z_gen B0 (fun H locs hH hS => ?_) hH
  refine n_iconst hx hb 0 dX4_notClearAt_0 (by decide) ?_
  refine lv_istore_n (lv' := [(2, .int (nI 0)), (0, .ref w), (1, .int (nI c))]) hx hb dX4_notClearAt_1 rfl hl (by decide) rfl (fun ls hl => ?_)
  refine n_iconst hx hb 0 dX4_notClearAt_2 (by decide) ?_
  refine lv_istore_n (lv' := [(3, .int (nI 0)), (2, .int (nI 0)), (0, .ref w), (1, .int (nI c))]) hx hb dX4_notClearAt_3 rfl hl (by decide) rfl (fun ls hl => ?_)
  have L4 : ∀ (dd : Nat) (k : Nat) (a : Nat), v 0 < k + dd → (k ≤ v 0) → (a = zcnt (fun j => decide (0 < cv v j c)) k) → ∀ (H : Heap) (locs : List Loc), zH G M H → zS 0 B0 s.heap H locs → ∀ (ls : Array Slot), lv_has ls 4 [(0, .ref w), (1, .int (nI c)), (2, .int (nI a)), (3, .int (nI k))] → zW pg l ev 1 0 0 s m [.ref w, .int (nI c)] below meth cd H locs 0 0 G B0 (some (.int (nI (notClear v c)))) (fun M1 => M = M1) (F0 m 4 ls []) := by
    intro dd
    induction dd with
    | zero =>
      intro k a hdd hk ha
      exact absurd hdd (by omega)
    | succ dd ih =>
      intro k a hdd hk ha H locs hH hS ls hl
      refine lv_iload_n hx hb dX4_notClearAt_4 rfl (lv_at hl 3 rfl) ?_
      refine lv_aload_n hx hb dX4_notClearAt_5 rfl (lv_at hl 0 rfl) ?_
      refine z_get (T := TX4) (v := .int (nI (v 0))) hE hH hW.1 rfl uw_X4 1 (by decide) fkX4_22 rfl dX4_notClearAt_6 ?_
      refine n_cmp_ge (tgt := 35) hx hb (by omega) (by omega) dX4_notClearAt_9 (by decide) (fun h1 => ?_) (fun h1 => ?_)
      · refine lv_iload_n hx hb dX4_notClearAt_35 rfl (lv_at hl 2 rfl) ?_
        exact z_iret hE hH hS (by have hkk : k = v 0 := (by omega); subst hkk; rw [ha]; first | done | rfl) rfl dX4_notClearAt_36
      · refine lv_aload_n hx hb dX4_notClearAt_12 rfl (lv_at hl 0 rfl) ?_
        refine z_get (T := TX4) (v := .ref (w + 1)) hE hH hW.1 rfl uw_X4 0 (by decide) fkX4_11 rfl dX4_notClearAt_13 ?_
        refine lv_iload_n hx hb dX4_notClearAt_16 rfl (lv_at hl 3 rfl) ?_
        refine z_aald hE hH hW.2.1 rfl (k := k) (by omega) (by decide) dX4_notClearAt_17 ?_
        refine z_get (T := TX3) (v := .ref (w + 2 + 2 * r k + 1)) hE hH (hW.2.2.2.2 k (by omega)).1 rfl uw_X3 7 (by decide) fkX4_53 rfl dX4_notClearAt_18 ?_
        refine lv_iload_n hx hb dX4_notClearAt_21 rfl (lv_at hl 1 rfl) ?_
        refine z_iald hE hH (hW.2.2.2.2 k (by omega)).2 (k := c) (by omega) (by decide) dX4_notClearAt_22 ?_
        have q2 := hv.coat (j := k) (c := c) (by omega) (by omega)
        refine n_if_le (tgt := 29) hx hb (by omega) dX4_notClearAt_23 (by decide) (fun h3 => ?_) (fun h3 => ?_)
        · refine lv_iinc (v := (nI (k + 1))) (lv' := [(3, .int (nI (k + 1))), (0, .ref w), (1, .int (nI c)), (2, .int (nI a))]) hx hb dX4_notClearAt_29 hl (k := 3) rfl (nI_inc _) (by decide) rfl (fun ls hl => ?_)
          refine lv_goto (tgt := 4) hx hb dX4_notClearAt_32 (by decide) ?_
          exact ih  (k + 1) a (by omega) (by omega) (by unfold zcnt; rw [← ha]; simp [*]) _ _ hH hS _ (lv_sub hl [1, 2, 3, 0] rfl)
        · refine lv_iinc (v := (nI (a + 1))) (lv' := [(2, .int (nI (a + 1))), (0, .ref w), (1, .int (nI c)), (3, .int (nI k))]) hx hb dX4_notClearAt_26 hl (k := 2) rfl (nI_inc _) (by decide) rfl (fun ls hl => ?_)
          refine lv_iinc (v := (nI (k + 1))) (lv' := [(3, .int (nI (k + 1))), (2, .int (nI (a + 1))), (0, .ref w), (1, .int (nI c))]) hx hb dX4_notClearAt_29 hl (k := 3) rfl (nI_inc _) (by decide) rfl (fun ls hl => ?_)
          refine lv_goto (tgt := 4) hx hb dX4_notClearAt_32 (by decide) ?_
          exact ih  (k + 1) (a + 1) (by omega) (by omega) (by unfold zcnt; rw [← ha]; simp [*]) _ _ hH hS _ (lv_sub hl [2, 3, 1, 0] rfl)
  exact L4 (v 0 + 1) 0 0 (by omega) (by omega) rfl _ _ hH hS _ (lv_sub hl [2, 3, 1, 0] rfl)

set_option maxHeartbeats 4000000 in
set_option maxRecDepth 100000 in
theorem c_X4_postersAt (l : Launch) (G : zG) (B0 : Nat) (M : Mm) (w : Nat) (r : Nat → Nat) (v : Wv) (hW : WlR G w r v M) (hr : rOk r) (hv : wOk v) (x y : Nat) (hx9 : x < 10) (hy9 : y < 6) : zMet l yX4_postersAt cX4_postersAt 5 (some .int) 2 0 0 G B0 M [.ref w, .int (nI x), .int (nI y)] (some (.int (nI (lieCnt v x y)))) (fun M1 => M = M1) := by
  refine z_met RX4 [(0, .ref w), (1, .int (nI x)), (2, .int (nI y))] (by decide) rfl (Nat.le_of_ble_eq_true rfl) rfl ?_
  intro pg ev s m below meth cd ls hE hin hB0 hH hl
  have hx := hE.1
  have hb := hE.2.1
  have hn := hv.1
  refine z_gen B0 (fun H locs hH hS => ?_) hH
  refine n_iconst hx hb 0 dX4_postersAt_0 (by decide) ?_
  refine lv_istore_n (lv' := [(3, .int (nI 0)), (0, .ref w), (1, .int (nI x)), (2, .int (nI y))]) hx hb dX4_postersAt_1 rfl hl (by decide) rfl (fun ls hl => ?_)
  refine n_iconst hx hb 0 dX4_postersAt_2 (by decide) ?_
  refine lv_istore (lv' := [(4, .int (nI 0)), (3, .int (nI 0)), (0, .ref w), (1, .int (nI x)), (2, .int (nI y))]) hx hb dX4_postersAt_3 hl (by decide) rfl (fun ls hl => ?_)
  have L5 : ∀ (dd : Nat) (k : Nat) (a : Nat), v 0 < k + dd → (k ≤ v 0) → (a = zcnt (fun j => liesN (pv v j) x y) k) → ∀ (H : Heap) (locs : List Loc), zH G M H → zS 0 B0 s.heap H locs → ∀ (ls : Array Slot), lv_has ls 5 [(0, .ref w), (1, .int (nI x)), (2, .int (nI y)), (3, .int (nI a)), (4, .int (nI k))] → zW pg l ev 2 0 0 s m [.ref w, .int (nI x), .int (nI y)] below meth cd H locs 0 0 G B0 (some (.int (nI (lieCnt v x y)))) (fun M1 => M = M1) (F0 m 5 ls []) := by
    intro dd
    induction dd with
    | zero =>
      intro k a hdd hk ha
      exact absurd hdd (by omega)
    | succ dd ih =>
      intro k a hdd hk ha H locs hH hS ls hl
      refine lv_iload hx hb dX4_postersAt_5 (lv_at hl 4 rfl) ?_
      refine lv_aload_n hx hb dX4_postersAt_7 rfl (lv_at hl 0 rfl) ?_
      refine z_get (T := TX4) (v := .int (nI (v 0))) hE hH hW.1 rfl uw_X4 1 (by decide) fkX4_22 rfl dX4_postersAt_8 ?_
      refine n_cmp_ge (tgt := 38) hx hb (by omega) (by omega) dX4_postersAt_11 (by decide) (fun h1 => ?_) (fun h1 => ?_)
      · refine lv_iload_n hx hb dX4_postersAt_38 rfl (lv_at hl 3 rfl) ?_
        exact z_iret hE hH hS (by have hkk : k = v 0 := (by omega); subst hkk; rw [ha]; first | done | rfl) rfl dX4_postersAt_39
      · refine lv_aload_n hx hb dX4_postersAt_14 rfl (lv_at hl 0 rfl) ?_
        refine z_get (T := TX4) (v := .ref (w + 1)) hE hH hW.1 rfl uw_X4 0 (by decide) fkX4_11 rfl dX4_postersAt_15 ?_
        refine lv_iload hx hb dX4_postersAt_18 (lv_at hl 4 rfl) ?_
        refine z_aald hE hH hW.2.1 rfl (k := k) (by omega) (by decide) dX4_postersAt_20 ?_
        refine lv_iload_n hx hb dX4_postersAt_21 rfl (lv_at hl 1 rfl) ?_
        refine lv_iload_n hx hb dX4_postersAt_22 rfl (lv_at hl 2 rfl) ?_
        refine z_callV (rest := []) (st2 := [.int (zb (liesN (pv v k) x y))]) hE hH hS hB0 hl ca_X3_liesAt mkX4_84 (c_X3_liesAt l G B0 M (w + 2 + 2 * r k) (pv v k) (cv v k) (hW.2.2.2.2 k (by omega)) (hv.rect (j := k) (by omega)).2.1 (hv.rect (j := k) (by omega)).2.2.2 x y (by omega) (by omega)) (hW.2.2.2.2 k (by omega)).1 rfl rfl rfl rfl rfl ⟨Nat.le_of_ble_eq_true rfl, Nat.le_of_ble_eq_true rfl⟩ (Nat.le_of_ble_eq_true rfl) ⟨Nat.le_refl _, Nat.le_refl _⟩ dX4_postersAt_23 (fun H locs M1 hH hp hS => ?_)
        subst hp
        refine b_if_eq (tgt := 32) hx hb dX4_postersAt_26 (by decide) (fun h2 => ?_) (fun h2 => ?_)
        · refine lv_iinc (v := (nI (k + 1))) (lv' := [(4, .int (nI (k + 1))), (0, .ref w), (1, .int (nI x)), (2, .int (nI y)), (3, .int (nI a))]) hx hb dX4_postersAt_32 hl (k := 4) rfl (nI_inc _) (by decide) rfl (fun ls hl => ?_)
          refine lv_goto (tgt := 5) hx hb dX4_postersAt_35 (by decide) ?_
          exact ih  (k + 1) a (by omega) (by omega) (by unfold zcnt; rw [← ha]; simp [*]) _ _ hH hS _ (lv_sub hl [1, 2, 3, 4, 0] rfl)
        · refine lv_iinc (v := (nI (a + 1))) (lv' := [(3, .int (nI (a + 1))), (0, .ref w), (1, .int (nI x)), (2, .int (nI y)), (4, .int (nI k))]) hx hb dX4_postersAt_29 hl (k := 3) rfl (nI_inc _) (by decide) rfl (fun ls hl => ?_)
          refine lv_iinc (v := (nI (k + 1))) (lv' := [(4, .int (nI (k + 1))), (3, .int (nI (a + 1))), (0, .ref w), (1, .int (nI x)), (2, .int (nI y))]) hx hb dX4_postersAt_32 hl (k := 4) rfl (nI_inc _) (by decide) rfl (fun ls hl => ?_)
          refine lv_goto (tgt := 5) hx hb dX4_postersAt_35 (by decide) ?_
          exact ih  (k + 1) (a + 1) (by omega) (by omega) (by unfold zcnt; rw [← ha]; simp [*]) _ _ hH hS _ (lv_sub hl [2, 3, 4, 1, 0] rfl)
  exact L5 (v 0 + 1) 0 0 (by omega) (by omega) rfl _ _ hH hS _ (lv_sub hl [2, 3, 4, 1, 0] rfl)

set_option maxHeartbeats 4000000 in
set_option maxRecDepth 100000 in
theorem c_X4_seenCellsOf (l : Launch) (G : zG) (B0 : Nat) (M : Mm) (w : Nat) (r : Nat → Nat) (v : Wv) (hW : WlR G w r v M) (hr : rOk r) (hv : wOk v) (j : Nat) (hj : j < v 0) : zMet l yX4_seenCellsOf cX4_seenCellsOf 4 (some .int) 3 0 0 G B0 M [.ref w, .int (nI j)] (some (.int (nI (seenCnt v j)))) (fun M1 => M = M1) := by
  refine z_met RX4 [(0, .ref w), (1, .int (nI j))] (by decide) rfl (Nat.le_of_ble_eq_true rfl) rfl ?_
  intro pg ev s m below meth cd ls hE hin hB0 hH hl
  have hx := hE.1
  have hb := hE.2.1
  have hn := hv.1
  refine z_gen B0 (fun H locs hH hS => ?_) hH
  refine n_iconst hx hb 0 dX4_seenCellsOf_0 (by decide) ?_
  refine lv_istore_n (lv' := [(2, .int (nI 0)), (0, .ref w), (1, .int (nI j))]) hx hb dX4_seenCellsOf_1 rfl hl (by decide) rfl (fun ls hl => ?_)
  refine n_iconst hx hb 0 dX4_seenCellsOf_2 (by decide) ?_
  refine lv_istore_n (lv' := [(3, .int (nI 0)), (2, .int (nI 0)), (0, .ref w), (1, .int (nI j))]) hx hb dX4_seenCellsOf_3 rfl hl (by decide) rfl (fun ls hl => ?_)
  have L4 : ∀ (dd : Nat) (k : Nat) (a : Nat), 60 < k + dd → (k ≤ 60) → (a = zcnt (fun c => decide (seen v (-6) c = some j)) k) → ∀ (H : Heap) (locs : List Loc), zH G M H → zS 0 B0 s.heap H locs → ∀ (ls : Array Slot), lv_has ls 4 [(0, .ref w), (1, .int (nI j)), (2, .int (nI a)), (3, .int (nI k))] → zW pg l ev 3 0 0 s m [.ref w, .int (nI j)] below meth cd H locs 0 0 G B0 (some (.int (nI (seenCnt v j)))) (fun M1 => M = M1) (F0 m 4 ls []) := by
    intro dd
    induction dd with
    | zero =>
      intro k a hdd hk ha
      exact absurd hdd (by omega)
    | succ dd ih =>
      intro k a hdd hk ha H locs hH hS ls hl
      refine lv_iload_n hx hb dX4_seenCellsOf_4 rfl (lv_at hl 3 rfl) ?_
      refine n_bipush hx hb 60 dX4_seenCellsOf_5 (by decide) ?_
      refine n_cmp_ge (tgt := 28) hx hb (by omega) (by decide) dX4_seenCellsOf_7 (by decide) (fun h1 => ?_) (fun h1 => ?_)
      · refine lv_iload_n hx hb dX4_seenCellsOf_28 rfl (lv_at hl 2 rfl) ?_
        exact z_iret hE hH hS (by have hkk : k = 60 := (by omega); subst hkk; rw [ha]; first | done | rfl) rfl dX4_seenCellsOf_29
      · refine lv_aload_n hx hb dX4_seenCellsOf_10 rfl (lv_at hl 0 rfl) ?_
        refine lv_iload_n hx hb dX4_seenCellsOf_11 rfl (lv_at hl 3 rfl) ?_
        refine z_callV (rest := []) (st2 := [.int (oI (seen v (-6) k))]) hE hH hS hB0 hl ca_X4_seenAt mkX4_56 (c_X4_seenAt l G B0 M w r v hW hr hv k (by omega)) hW.1 rfl rfl rfl rfl rfl ⟨Nat.le_of_ble_eq_true rfl, Nat.le_of_ble_eq_true rfl⟩ (Nat.le_of_ble_eq_true rfl) ⟨Nat.le_refl _, Nat.le_refl _⟩ dX4_seenCellsOf_12 (fun H locs M1 hH hp hS => ?_)
        subst hp
        refine lv_iload_n hx hb dX4_seenCellsOf_15 rfl (lv_at hl 1 rfl) ?_
        refine on_cmp_ne (tgt := 22) hx hb (seen_ob hv) (by omega) dX4_seenCellsOf_16 (by decide) (fun h2 => ?_) (fun h2 => ?_)
        · refine lv_iinc (v := (nI (k + 1))) (lv' := [(3, .int (nI (k + 1))), (0, .ref w), (1, .int (nI j)), (2, .int (nI a))]) hx hb dX4_seenCellsOf_22 hl (k := 3) rfl (nI_inc _) (by decide) rfl (fun ls hl => ?_)
          refine lv_goto (tgt := 4) hx hb dX4_seenCellsOf_25 (by decide) ?_
          exact ih  (k + 1) a (by omega) (by omega) (by unfold zcnt; rw [← ha]; simp [*]) _ _ hH hS _ (lv_sub hl [1, 2, 3, 0] rfl)
        · refine lv_iinc (v := (nI (a + 1))) (lv' := [(2, .int (nI (a + 1))), (0, .ref w), (1, .int (nI j)), (3, .int (nI k))]) hx hb dX4_seenCellsOf_19 hl (k := 2) rfl (nI_inc _) (by decide) rfl (fun ls hl => ?_)
          refine lv_iinc (v := (nI (k + 1))) (lv' := [(3, .int (nI (k + 1))), (2, .int (nI (a + 1))), (0, .ref w), (1, .int (nI j))]) hx hb dX4_seenCellsOf_22 hl (k := 3) rfl (nI_inc _) (by decide) rfl (fun ls hl => ?_)
          refine lv_goto (tgt := 4) hx hb dX4_seenCellsOf_25 (by decide) ?_
          exact ih  (k + 1) (a + 1) (by omega) (by omega) (by unfold zcnt; rw [← ha]; simp [*]) _ _ hH hS _ (lv_sub hl [2, 3, 1, 0] rfl)
  exact L4 61 0 0 (by omega) (by omega) rfl _ _ hH hS _ (lv_sub hl [2, 3, 1, 0] rfl)

theorem seenCnt_le (v : Wv) (j : Nat) : seenCnt v j ≤ 60 := zcnt_le _ _

set_option maxHeartbeats 4000000 in
set_option maxRecDepth 100000 in
theorem c_X4_cellsWithPrice (l : Launch) (G : zG) (B0 : Nat) (M : Mm) (w : Nat) (r : Nat → Nat) (v : Wv) (hW : WlR G w r v M) (hr : rOk r) (hv : wOk v) : zMet l yX4_cellsWithPrice cX4_cellsWithPrice 3 (some .int) 3 0 0 G B0 M [.ref w] (some (.int (nI (pricedCnt v)))) (fun M1 => M = M1) := by
  refine z_met RX4 [(0, .ref w)] (by decide) rfl (Nat.le_of_ble_eq_true rfl) rfl ?_
  intro pg ev s m below meth cd ls hE hin hB0 hH hl
  have hx := hE.1
  have hb := hE.2.1
  have hn := hv.1
  refine z_gen B0 (fun H locs hH hS => ?_) hH
  refine n_iconst hx hb 0 dX4_cellsWithPrice_0 (by decide) ?_
  refine lv_istore_n (lv' := [(1, .int (nI 0)), (0, .ref w)]) hx hb dX4_cellsWithPrice_1 rfl hl (by decide) rfl (fun ls hl => ?_)
  refine n_iconst hx hb 0 dX4_cellsWithPrice_2 (by decide) ?_
  refine lv_istore_n (lv' := [(2, .int (nI 0)), (1, .int (nI 0)), (0, .ref w)]) hx hb dX4_cellsWithPrice_3 rfl hl (by decide) rfl (fun ls hl => ?_)
  have L4 : ∀ (dd : Nat) (k : Nat) (a : Nat), 60 < k + dd → (k ≤ 60) → (a = zcnt (fun c => (seen v (-6) c).isSome) k) → ∀ (H : Heap) (locs : List Loc), zH G M H → zS 0 B0 s.heap H locs → ∀ (ls : Array Slot), lv_has ls 3 [(0, .ref w), (1, .int (nI a)), (2, .int (nI k))] → zW pg l ev 3 0 0 s m [.ref w] below meth cd H locs 0 0 G B0 (some (.int (nI (pricedCnt v)))) (fun M1 => M = M1) (F0 m 4 ls []) := by
    intro dd
    induction dd with
    | zero =>
      intro k a hdd hk ha
      exact absurd hdd (by omega)
    | succ dd ih =>
      intro k a hdd hk ha H locs hH hS ls hl
      refine lv_iload_n hx hb dX4_cellsWithPrice_4 rfl (lv_at hl 2 rfl) ?_
      refine n_bipush hx hb 60 dX4_cellsWithPrice_5 (by decide) ?_
      refine n_cmp_ge (tgt := 29) hx hb (by omega) (by decide) dX4_cellsWithPrice_7 (by decide) (fun h1 => ?_) (fun h1 => ?_)
      · refine lv_iload_n hx hb dX4_cellsWithPrice_29 rfl (lv_at hl 1 rfl) ?_
        exact z_iret hE hH hS (by have hkk : k = 60 := (by omega); subst hkk; rw [ha]; first | done | rfl) rfl dX4_cellsWithPrice_30
      · refine lv_aload_n hx hb dX4_cellsWithPrice_10 rfl (lv_at hl 0 rfl) ?_
        refine lv_iload_n hx hb dX4_cellsWithPrice_11 rfl (lv_at hl 2 rfl) ?_
        refine z_callV (rest := []) (st2 := [.int (oI (seen v (-6) k))]) hE hH hS hB0 hl ca_X4_seenAt mkX4_56 (c_X4_seenAt l G B0 M w r v hW hr hv k (by omega)) hW.1 rfl rfl rfl rfl rfl ⟨Nat.le_of_ble_eq_true rfl, Nat.le_of_ble_eq_true rfl⟩ (Nat.le_of_ble_eq_true rfl) ⟨Nat.le_refl _, Nat.le_refl _⟩ dX4_cellsWithPrice_12 (fun H locs M1 hH hp hS => ?_)
        subst hp
        refine lv_bipush (v := (-6)) hx hb dX4_cellsWithPrice_15 (by decide) ?_
        refine o_cmp_eq (tgt := 23) hx hb (seen_ob hv) dX4_cellsWithPrice_17 (by decide) (fun h2 => ?_) (fun j3 h2 => ?_)
        · refine lv_iinc (v := (nI (k + 1))) (lv' := [(2, .int (nI (k + 1))), (0, .ref w), (1, .int (nI a))]) hx hb dX4_cellsWithPrice_23 hl (k := 2) rfl (nI_inc _) (by decide) rfl (fun ls hl => ?_)
          refine lv_goto (tgt := 4) hx hb dX4_cellsWithPrice_26 (by decide) ?_
          exact ih  (k + 1) a (by omega) (by omega) (by unfold zcnt; rw [← ha]; simp [*]) _ _ hH hS _ (lv_sub hl [1, 2, 0] rfl)
        · replace hl : lv_has ls 3 [(0, .ref w), (1, .int (nI a)), (2, .int (nI k))] := hl
          have j3_lt := seen_lt h2
          have j3_pos := seen_pos h2
          refine lv_iinc (v := (nI (a + 1))) (lv' := [(1, .int (nI (a + 1))), (0, .ref w), (2, .int (nI k))]) hx hb dX4_cellsWithPrice_20 hl (k := 1) rfl (nI_inc _) (by decide) rfl (fun ls hl => ?_)
          refine lv_iinc (v := (nI (k + 1))) (lv' := [(2, .int (nI (k + 1))), (1, .int (nI (a + 1))), (0, .ref w)]) hx hb dX4_cellsWithPrice_23 hl (k := 2) rfl (nI_inc _) (by decide) rfl (fun ls hl => ?_)
          refine lv_goto (tgt := 4) hx hb dX4_cellsWithPrice_26 (by decide) ?_
          exact ih  (k + 1) (a + 1) (by omega) (by omega) (by unfold zcnt; rw [← ha]; simp [*]) _ _ hH hS _ (lv_sub hl [2, 1, 0] rfl)
  exact L4 61 0 0 (by omega) (by omega) rfl _ _ hH hS _ (lv_sub hl [2, 1, 0] rfl)

set_option maxHeartbeats 4000000 in
set_option maxRecDepth 100000 in
theorem c_X4_postersUnseen (l : Launch) (G : zG) (B0 : Nat) (M : Mm) (w : Nat) (r : Nat → Nat) (v : Wv) (hW : WlR G w r v M) (hr : rOk r) (hv : wOk v) : zMet l yX4_postersUnseen cX4_postersUnseen 3 (some .int) 4 0 0 G B0 M [.ref w] (some (.int (nI (unseenCnt v)))) (fun M1 => M = M1) := by
  refine z_met RX4 [(0, .ref w)] (by decide) rfl (Nat.le_of_ble_eq_true rfl) rfl ?_
  intro pg ev s m below meth cd ls hE hin hB0 hH hl
  have hx := hE.1
  have hb := hE.2.1
  have hn := hv.1
  refine z_gen B0 (fun H locs hH hS => ?_) hH
  refine n_iconst hx hb 0 dX4_postersUnseen_0 (by decide) ?_
  refine lv_istore_n (lv' := [(1, .int (nI 0)), (0, .ref w)]) hx hb dX4_postersUnseen_1 rfl hl (by decide) rfl (fun ls hl => ?_)
  refine n_iconst hx hb 0 dX4_postersUnseen_2 (by decide) ?_
  refine lv_istore_n (lv' := [(2, .int (nI 0)), (1, .int (nI 0)), (0, .ref w)]) hx hb dX4_postersUnseen_3 rfl hl (by decide) rfl (fun ls hl => ?_)
  have L4 : ∀ (dd : Nat) (k : Nat) (a : Nat), v 0 < k + dd → (k ≤ v 0) → (a = zcnt (fun j => decide (seenCnt v j = 0)) k) → ∀ (H : Heap) (locs : List Loc), zH G M H → zS 0 B0 s.heap H locs → ∀ (ls : Array Slot), lv_has ls 3 [(0, .ref w), (1, .int (nI a)), (2, .int (nI k))] → zW pg l ev 4 0 0 s m [.ref w] below meth cd H locs 0 0 G B0 (some (.int (nI (unseenCnt v)))) (fun M1 => M = M1) (F0 m 4 ls []) := by
    intro dd
    induction dd with
    | zero =>
      intro k a hdd hk ha
      exact absurd hdd (by omega)
    | succ dd ih =>
      intro k a hdd hk ha H locs hH hS ls hl
      refine lv_iload_n hx hb dX4_postersUnseen_4 rfl (lv_at hl 2 rfl) ?_
      refine lv_aload_n hx hb dX4_postersUnseen_5 rfl (lv_at hl 0 rfl) ?_
      refine z_get (T := TX4) (v := .int (nI (v 0))) hE hH hW.1 rfl uw_X4 1 (by decide) fkX4_22 rfl dX4_postersUnseen_6 ?_
      refine n_cmp_ge (tgt := 29) hx hb (by omega) (by omega) dX4_postersUnseen_9 (by decide) (fun h1 => ?_) (fun h1 => ?_)
      · refine lv_iload_n hx hb dX4_postersUnseen_29 rfl (lv_at hl 1 rfl) ?_
        exact z_iret hE hH hS (by have hkk : k = v 0 := (by omega); subst hkk; rw [ha]; first | done | rfl) rfl dX4_postersUnseen_30
      · refine lv_aload_n hx hb dX4_postersUnseen_12 rfl (lv_at hl 0 rfl) ?_
        refine lv_iload_n hx hb dX4_postersUnseen_13 rfl (lv_at hl 2 rfl) ?_
        refine z_callV (rest := []) (st2 := [.int (nI (seenCnt v k))]) hE hH hS hB0 hl ca_X4_seenCellsOf mkX4_88 (c_X4_seenCellsOf l G B0 M w r v hW hr hv k (by omega)) hW.1 rfl rfl rfl rfl rfl ⟨Nat.le_of_ble_eq_true rfl, Nat.le_of_ble_eq_true rfl⟩ (Nat.le_of_ble_eq_true rfl) ⟨Nat.le_refl _, Nat.le_refl _⟩ dX4_postersUnseen_14 (fun H locs M1 hH hp hS => ?_)
        subst hp
        have q2 := seenCnt_le v k
        refine n_if_ne (tgt := 23) hx hb (by omega) dX4_postersUnseen_17 (by decide) (fun h3 => ?_) (fun h3 => ?_)
        · refine lv_iinc (v := (nI (k + 1))) (lv' := [(2, .int (nI (k + 1))), (0, .ref w), (1, .int (nI a))]) hx hb dX4_postersUnseen_23 hl (k := 2) rfl (nI_inc _) (by decide) rfl (fun ls hl => ?_)
          refine lv_goto (tgt := 4) hx hb dX4_postersUnseen_26 (by decide) ?_
          exact ih  (k + 1) a (by omega) (by omega) (by unfold zcnt; rw [← ha]; simp [*]; try omega) _ _ hH hS _ (lv_sub hl [1, 2, 0] rfl)
        · refine lv_iinc (v := (nI (a + 1))) (lv' := [(1, .int (nI (a + 1))), (0, .ref w), (2, .int (nI k))]) hx hb dX4_postersUnseen_20 hl (k := 1) rfl (nI_inc _) (by decide) rfl (fun ls hl => ?_)
          refine lv_iinc (v := (nI (k + 1))) (lv' := [(2, .int (nI (k + 1))), (1, .int (nI (a + 1))), (0, .ref w)]) hx hb dX4_postersUnseen_23 hl (k := 2) rfl (nI_inc _) (by decide) rfl (fun ls hl => ?_)
          refine lv_goto (tgt := 4) hx hb dX4_postersUnseen_26 (by decide) ?_
          exact ih  (k + 1) (a + 1) (by omega) (by omega) (by unfold zcnt; rw [← ha]; simp [*]; try omega) _ _ hH hS _ (lv_sub hl [2, 1, 0] rfl)
  exact L4 (v 0 + 1) 0 0 (by omega) (by omega) rfl _ _ hH hS _ (lv_sub hl [2, 1, 0] rfl)

set_option maxHeartbeats 4000000 in
set_option maxRecDepth 100000 in
theorem c_X4_postersAllClear (l : Launch) (G : zG) (B0 : Nat) (M : Mm) (w : Nat) (r : Nat → Nat) (v : Wv) (hW : WlR G w r v M) (hr : rOk r) (hv : wOk v) : zMet l yX4_postersAllClear cX4_postersAllClear 3 (some .int) 2 0 0 G B0 M [.ref w] (some (.int (nI (allClr v)))) (fun M1 => M = M1) := by
  refine z_met RX4 [(0, .ref w)] (by decide) rfl (Nat.le_of_ble_eq_true rfl) rfl ?_
  intro pg ev s m below meth cd ls hE hin hB0 hH hl
  have hx := hE.1
  have hb := hE.2.1
  have hn := hv.1
  refine z_gen B0 (fun H locs hH hS => ?_) hH
  refine n_iconst hx hb 0 dX4_postersAllClear_0 (by decide) ?_
  refine lv_istore_n (lv' := [(1, .int (nI 0)), (0, .ref w)]) hx hb dX4_postersAllClear_1 rfl hl (by decide) rfl (fun ls hl => ?_)
  refine n_iconst hx hb 0 dX4_postersAllClear_2 (by decide) ?_
  refine lv_istore_n (lv' := [(2, .int (nI 0)), (1, .int (nI 0)), (0, .ref w)]) hx hb dX4_postersAllClear_3 rfl hl (by decide) rfl (fun ls hl => ?_)
  have L4 : ∀ (dd : Nat) (k : Nat) (a : Nat), v 0 < k + dd → (k ≤ v 0) → (a = zcnt (fun j => decide (ncCnt (cv v j) = 0)) k) → ∀ (H : Heap) (locs : List Loc), zH G M H → zS 0 B0 s.heap H locs → ∀ (ls : Array Slot), lv_has ls 3 [(0, .ref w), (1, .int (nI a)), (2, .int (nI k))] → zW pg l ev 2 0 0 s m [.ref w] below meth cd H locs 0 0 G B0 (some (.int (nI (allClr v)))) (fun M1 => M = M1) (F0 m 4 ls []) := by
    intro dd
    induction dd with
    | zero =>
      intro k a hdd hk ha
      exact absurd hdd (by omega)
    | succ dd ih =>
      intro k a hdd hk ha H locs hH hS ls hl
      refine lv_iload_n hx hb dX4_postersAllClear_4 rfl (lv_at hl 2 rfl) ?_
      refine lv_aload_n hx hb dX4_postersAllClear_5 rfl (lv_at hl 0 rfl) ?_
      refine z_get (T := TX4) (v := .int (nI (v 0))) hE hH hW.1 rfl uw_X4 1 (by decide) fkX4_22 rfl dX4_postersAllClear_6 ?_
      refine n_cmp_ge (tgt := 33) hx hb (by omega) (by omega) dX4_postersAllClear_9 (by decide) (fun h1 => ?_) (fun h1 => ?_)
      · refine lv_iload_n hx hb dX4_postersAllClear_33 rfl (lv_at hl 1 rfl) ?_
        exact z_iret hE hH hS (by have hkk : k = v 0 := (by omega); subst hkk; rw [ha]; first | done | rfl) rfl dX4_postersAllClear_34
      · refine lv_aload_n hx hb dX4_postersAllClear_12 rfl (lv_at hl 0 rfl) ?_
        refine z_get (T := TX4) (v := .ref (w + 1)) hE hH hW.1 rfl uw_X4 0 (by decide) fkX4_11 rfl dX4_postersAllClear_13 ?_
        refine lv_iload_n hx hb dX4_postersAllClear_16 rfl (lv_at hl 2 rfl) ?_
        refine z_aald hE hH hW.2.1 rfl (k := k) (by omega) (by decide) dX4_postersAllClear_17 ?_
        refine z_callV (rest := []) (st2 := [.int (nI (ncCnt (cv v k)))]) hE hH hS hB0 hl ca_X3_notClearCells mkX4_98 (c_X3_notClearCells l G B0 M (w + 2 + 2 * r k) (pv v k) (cv v k) (hW.2.2.2.2 k (by omega)) (fun c hc => hv.coat (j := k) (by omega) hc)) (hW.2.2.2.2 k (by omega)).1 rfl rfl rfl rfl rfl ⟨Nat.le_of_ble_eq_true rfl, Nat.le_of_ble_eq_true rfl⟩ (Nat.le_of_ble_eq_true rfl) ⟨Nat.le_refl _, Nat.le_refl _⟩ dX4_postersAllClear_18 (fun H locs M1 hH hp hS => ?_)
        subst hp
        have q2 := ncCnt_le (cv v k)
        refine n_if_ne (tgt := 27) hx hb (by omega) dX4_postersAllClear_21 (by decide) (fun h3 => ?_) (fun h3 => ?_)
        · refine lv_iinc (v := (nI (k + 1))) (lv' := [(2, .int (nI (k + 1))), (0, .ref w), (1, .int (nI a))]) hx hb dX4_postersAllClear_27 hl (k := 2) rfl (nI_inc _) (by decide) rfl (fun ls hl => ?_)
          refine lv_goto (tgt := 4) hx hb dX4_postersAllClear_30 (by decide) ?_
          exact ih  (k + 1) a (by omega) (by omega) (by unfold zcnt; rw [← ha]; simp [*]; try omega) _ _ hH hS _ (lv_sub hl [1, 2, 0] rfl)
        · refine lv_iinc (v := (nI (a + 1))) (lv' := [(1, .int (nI (a + 1))), (0, .ref w), (2, .int (nI k))]) hx hb dX4_postersAllClear_24 hl (k := 1) rfl (nI_inc _) (by decide) rfl (fun ls hl => ?_)
          refine lv_iinc (v := (nI (k + 1))) (lv' := [(2, .int (nI (k + 1))), (1, .int (nI (a + 1))), (0, .ref w)]) hx hb dX4_postersAllClear_27 hl (k := 2) rfl (nI_inc _) (by decide) rfl (fun ls hl => ?_)
          refine lv_goto (tgt := 4) hx hb dX4_postersAllClear_30 (by decide) ?_
          exact ih  (k + 1) (a + 1) (by omega) (by omega) (by unfold zcnt; rw [← ha]; simp [*]; try omega) _ _ hH hS _ (lv_sub hl [2, 1, 0] rfl)
  exact L4 (v 0 + 1) 0 0 (by omega) (by omega) rfl _ _ hH hS _ (lv_sub hl [2, 1, 0] rfl)

set_option maxHeartbeats 4000000 in
set_option maxRecDepth 100000 in
theorem c_X4_isPriceSeenBelow (l : Launch) (G : zG) (B0 : Nat) (M : Mm) (w : Nat) (r : Nat → Nat) (v : Wv) (hW : WlR G w r v M) (hr : rOk r) (hv : wOk v) (j : Nat) (hj : j < v 0) : zMet l yX4_isPriceSeenBelow cX4_isPriceSeenBelow 3 (some .boolean) 4 0 0 G B0 M [.ref w, .int (nI j)] (some (.int (zb (blw v j)))) (fun M1 => M = M1) := by
  refine z_met RX4 [(0, .ref w), (1, .int (nI j))] (by decide) rfl (Nat.le_of_ble_eq_true rfl) rfl ?_
  intro pg ev s m below meth cd ls hE hin hB0 hH hl
  have hx := hE.1
  have hb := hE.2.1
  have hn := hv.1
  refine z_gen B0 (fun H locs hH hS => ?_) hH
  refine n_iconst hx hb 0 dX4_isPriceSeenBelow_0 (by decide) ?_
  refine lv_istore_n (lv' := [(2, .int (nI 0)), (0, .ref w), (1, .int (nI j))]) hx hb dX4_isPriceSeenBelow_1 rfl hl (by decide) rfl (fun ls hl => ?_)
  have L2 : ∀ (dd : Nat) (k : Nat), j < k + dd → (k ≤ j) → (zany (fun i => decide (pv v i 4 = pv v j 4) && decide (0 < seenCnt v i)) k = false) → ∀ (H : Heap) (locs : List Loc), zH G M H → zS 0 B0 s.heap H locs → ∀ (ls : Array Slot), lv_has ls 3 [(0, .ref w), (1, .int (nI j)), (2, .int (nI k))] → zW pg l ev 4 0 0 s m [.ref w, .int (nI j)] below meth cd H locs 0 0 G B0 (some (.int (zb (blw v j)))) (fun M1 => M = M1) (F0 m 2 ls []) := by
    intro dd
    induction dd with
    | zero =>
      intro k hdd hk ha
      exact absurd hdd (by omega)
    | succ dd ih =>
      intro k hdd hk ha H locs hH hS ls hl
      refine lv_iload_n hx hb dX4_isPriceSeenBelow_2 rfl (lv_at hl 2 rfl) ?_
      refine lv_iload_n hx hb dX4_isPriceSeenBelow_3 rfl (lv_at hl 1 rfl) ?_
      refine n_cmp_ge (tgt := 44) hx hb (by omega) (by omega) dX4_isPriceSeenBelow_4 (by decide) (fun h1 => ?_) (fun h1 => ?_)
      · refine n_iconst hx hb 0 dX4_isPriceSeenBelow_44 (by decide) ?_
        exact z_zret hE hH hS (by have hkk : k = j := (by omega); subst hkk; rw [show blw v k = false from ha]; rfl) rfl dX4_isPriceSeenBelow_45
      · refine lv_aload_n hx hb dX4_isPriceSeenBelow_7 rfl (lv_at hl 0 rfl) ?_
        refine z_get (T := TX4) (v := .ref (w + 1)) hE hH hW.1 rfl uw_X4 0 (by decide) fkX4_11 rfl dX4_isPriceSeenBelow_8 ?_
        refine lv_iload_n hx hb dX4_isPriceSeenBelow_11 rfl (lv_at hl 2 rfl) ?_
        refine z_aald hE hH hW.2.1 rfl (k := k) (by omega) (by decide) dX4_isPriceSeenBelow_12 ?_
        have q2 := hv.price (j := k) (by omega)
        refine z_get (T := TX3) (v := .int (nI (pv v k 4))) hE hH (hW.2.2.2.2 k (by omega)).1 rfl uw_X3 4 (by decide) fkX4_66 rfl dX4_isPriceSeenBelow_13 ?_
        refine lv_aload_n hx hb dX4_isPriceSeenBelow_16 rfl (lv_at hl 0 rfl) ?_
        refine z_get (T := TX4) (v := .ref (w + 1)) hE hH hW.1 rfl uw_X4 0 (by decide) fkX4_11 rfl dX4_isPriceSeenBelow_17 ?_
        refine lv_iload_n hx hb dX4_isPriceSeenBelow_20 rfl (lv_at hl 1 rfl) ?_
        refine z_aald hE hH hW.2.1 rfl (k := j) (by omega) (by decide) dX4_isPriceSeenBelow_21 ?_
        have q3 := hv.price (j := j) (by omega)
        refine z_get (T := TX3) (v := .int (nI (pv v j 4))) hE hH (hW.2.2.2.2 j (by omega)).1 rfl uw_X3 4 (by decide) fkX4_66 rfl dX4_isPriceSeenBelow_22 ?_
        refine n_cmp_ne (tgt := 38) hx hb (by omega) (by omega) dX4_isPriceSeenBelow_25 (by decide) (fun h4 => ?_) (fun h4 => ?_)
        · refine lv_iinc (v := (nI (k + 1))) (lv' := [(2, .int (nI (k + 1))), (0, .ref w), (1, .int (nI j))]) hx hb dX4_isPriceSeenBelow_38 hl (k := 2) rfl (nI_inc _) (by decide) rfl (fun ls hl => ?_)
          refine lv_goto (tgt := 2) hx hb dX4_isPriceSeenBelow_41 (by decide) ?_
          exact ih  (k + 1) (by omega) (by omega) (by unfold zany; rw [ha]; simp [*]) _ _ hH hS _ (lv_sub hl [1, 2, 0] rfl)
        · refine lv_aload_n hx hb dX4_isPriceSeenBelow_28 rfl (lv_at hl 0 rfl) ?_
          refine lv_iload_n hx hb dX4_isPriceSeenBelow_29 rfl (lv_at hl 2 rfl) ?_
          refine z_callV (rest := []) (st2 := [.int (nI (seenCnt v k))]) hE hH hS hB0 hl ca_X4_seenCellsOf mkX4_88 (c_X4_seenCellsOf l G B0 M w r v hW hr hv k (by omega)) hW.1 rfl rfl rfl rfl rfl ⟨Nat.le_of_ble_eq_true rfl, Nat.le_of_ble_eq_true rfl⟩ (Nat.le_of_ble_eq_true rfl) ⟨Nat.le_refl _, Nat.le_refl _⟩ dX4_isPriceSeenBelow_30 (fun H locs M1 hH hp hS => ?_)
          subst hp
          have q5 := seenCnt_le v k
          refine n_if_le (tgt := 38) hx hb (by omega) dX4_isPriceSeenBelow_33 (by decide) (fun h6 => ?_) (fun h6 => ?_)
          · refine lv_iinc (v := (nI (k + 1))) (lv' := [(2, .int (nI (k + 1))), (0, .ref w), (1, .int (nI j))]) hx hb dX4_isPriceSeenBelow_38 hl (k := 2) rfl (nI_inc _) (by decide) rfl (fun ls hl => ?_)
            refine lv_goto (tgt := 2) hx hb dX4_isPriceSeenBelow_41 (by decide) ?_
            exact ih  (k + 1) (by omega) (by omega) (by unfold zany; rw [ha]; simp [*]) _ _ hH hS _ (lv_sub hl [1, 2, 0] rfl)
          · refine n_iconst hx hb 1 dX4_isPriceSeenBelow_36 (by decide) ?_
            exact z_zret hE hH hS (by rw [show blw v j = true from zany_of (k := k) (by omega) (by simp [*])]; rfl) rfl dX4_isPriceSeenBelow_37
  exact L2 (j + 1) 0 (by omega) (by omega) rfl _ _ hH hS _ (lv_sub hl [1, 2, 0] rfl)

set_option maxHeartbeats 4000000 in
set_option maxRecDepth 100000 in
theorem c_X4_unlikePrices (l : Launch) (G : zG) (B0 : Nat) (M : Mm) (w : Nat) (r : Nat → Nat) (v : Wv) (hW : WlR G w r v M) (hr : rOk r) (hv : wOk v) : zMet l yX4_unlikePrices cX4_unlikePrices 3 (some .int) 5 0 0 G B0 M [.ref w] (some (.int (nI (unlikeCnt v)))) (fun M1 => M = M1) := by
  refine z_met RX4 [(0, .ref w)] (by decide) rfl (Nat.le_of_ble_eq_true rfl) rfl ?_
  intro pg ev s m below meth cd ls hE hin hB0 hH hl
  have hx := hE.1
  have hb := hE.2.1
  have hn := hv.1
  refine z_gen B0 (fun H locs hH hS => ?_) hH
  refine n_iconst hx hb 0 dX4_unlikePrices_0 (by decide) ?_
  refine lv_istore_n (lv' := [(1, .int (nI 0)), (0, .ref w)]) hx hb dX4_unlikePrices_1 rfl hl (by decide) rfl (fun ls hl => ?_)
  refine n_iconst hx hb 0 dX4_unlikePrices_2 (by decide) ?_
  refine lv_istore_n (lv' := [(2, .int (nI 0)), (1, .int (nI 0)), (0, .ref w)]) hx hb dX4_unlikePrices_3 rfl hl (by decide) rfl (fun ls hl => ?_)
  have L4 : ∀ (dd : Nat) (k : Nat) (a : Nat), v 0 < k + dd → (k ≤ v 0) → (a = zcnt (fun j => decide (0 < seenCnt v j) && !(blw v j)) k) → ∀ (H : Heap) (locs : List Loc), zH G M H → zS 0 B0 s.heap H locs → ∀ (ls : Array Slot), lv_has ls 3 [(0, .ref w), (1, .int (nI a)), (2, .int (nI k))] → zW pg l ev 5 0 0 s m [.ref w] below meth cd H locs 0 0 G B0 (some (.int (nI (unlikeCnt v)))) (fun M1 => M = M1) (F0 m 4 ls []) := by
    intro dd
    induction dd with
    | zero =>
      intro k a hdd hk ha
      exact absurd hdd (by omega)
    | succ dd ih =>
      intro k a hdd hk ha H locs hH hS ls hl
      refine lv_iload_n hx hb dX4_unlikePrices_4 rfl (lv_at hl 2 rfl) ?_
      refine lv_aload_n hx hb dX4_unlikePrices_5 rfl (lv_at hl 0 rfl) ?_
      refine z_get (T := TX4) (v := .int (nI (v 0))) hE hH hW.1 rfl uw_X4 1 (by decide) fkX4_22 rfl dX4_unlikePrices_6 ?_
      refine n_cmp_ge (tgt := 37) hx hb (by omega) (by omega) dX4_unlikePrices_9 (by decide) (fun h1 => ?_) (fun h1 => ?_)
      · refine lv_iload_n hx hb dX4_unlikePrices_37 rfl (lv_at hl 1 rfl) ?_
        exact z_iret hE hH hS (by have hkk : k = v 0 := (by omega); subst hkk; rw [ha]; first | done | rfl) rfl dX4_unlikePrices_38
      · refine lv_aload_n hx hb dX4_unlikePrices_12 rfl (lv_at hl 0 rfl) ?_
        refine lv_iload_n hx hb dX4_unlikePrices_13 rfl (lv_at hl 2 rfl) ?_
        refine z_callV (rest := []) (st2 := [.int (nI (seenCnt v k))]) hE hH hS hB0 hl ca_X4_seenCellsOf mkX4_88 (c_X4_seenCellsOf l G B0 M w r v hW hr hv k (by omega)) hW.1 rfl rfl rfl rfl rfl ⟨Nat.le_of_ble_eq_true rfl, Nat.le_of_ble_eq_true rfl⟩ (Nat.le_of_ble_eq_true rfl) ⟨Nat.le_refl _, Nat.le_refl _⟩ dX4_unlikePrices_14 (fun H locs M1 hH hp hS => ?_)
        subst hp
        have q2 := seenCnt_le v k
        refine n_if_le (tgt := 31) hx hb (by omega) dX4_unlikePrices_17 (by decide) (fun h3 => ?_) (fun h3 => ?_)
        · refine lv_iinc (v := (nI (k + 1))) (lv' := [(2, .int (nI (k + 1))), (0, .ref w), (1, .int (nI a))]) hx hb dX4_unlikePrices_31 hl (k := 2) rfl (nI_inc _) (by decide) rfl (fun ls hl => ?_)
          refine lv_goto (tgt := 4) hx hb dX4_unlikePrices_34 (by decide) ?_
          exact ih  (k + 1) a (by omega) (by omega) (by unfold zcnt; rw [← ha]; simp [*]) _ _ hH hS _ (lv_sub hl [1, 2, 0] rfl)
        · refine lv_aload_n hx hb dX4_unlikePrices_20 rfl (lv_at hl 0 rfl) ?_
          refine lv_iload_n hx hb dX4_unlikePrices_21 rfl (lv_at hl 2 rfl) ?_
          refine z_callV (rest := []) (st2 := [.int (zb (blw v k))]) hE hH hS hB0 hl ca_X4_isPriceSeenBelow mkX4_91 (c_X4_isPriceSeenBelow l G B0 M w r v hW hr hv k (by omega)) hW.1 rfl rfl rfl rfl rfl ⟨Nat.le_of_ble_eq_true rfl, Nat.le_of_ble_eq_true rfl⟩ (Nat.le_of_ble_eq_true rfl) ⟨Nat.le_refl _, Nat.le_refl _⟩ dX4_unlikePrices_22 (fun H locs M1 hH hp hS => ?_)
          subst hp
          refine b_if_ne (tgt := 31) hx hb dX4_unlikePrices_25 (by decide) (fun h4 => ?_) (fun h4 => ?_)
          · refine lv_iinc (v := (nI (k + 1))) (lv' := [(2, .int (nI (k + 1))), (0, .ref w), (1, .int (nI a))]) hx hb dX4_unlikePrices_31 hl (k := 2) rfl (nI_inc _) (by decide) rfl (fun ls hl => ?_)
            refine lv_goto (tgt := 4) hx hb dX4_unlikePrices_34 (by decide) ?_
            exact ih  (k + 1) a (by omega) (by omega) (by unfold zcnt; rw [← ha]; simp [*]) _ _ hH hS _ (lv_sub hl [1, 2, 0] rfl)
          · refine lv_iinc (v := (nI (a + 1))) (lv' := [(1, .int (nI (a + 1))), (0, .ref w), (2, .int (nI k))]) hx hb dX4_unlikePrices_28 hl (k := 1) rfl (nI_inc _) (by decide) rfl (fun ls hl => ?_)
            refine lv_iinc (v := (nI (k + 1))) (lv' := [(2, .int (nI (k + 1))), (1, .int (nI (a + 1))), (0, .ref w)]) hx hb dX4_unlikePrices_31 hl (k := 2) rfl (nI_inc _) (by decide) rfl (fun ls hl => ?_)
            refine lv_goto (tgt := 4) hx hb dX4_unlikePrices_34 (by decide) ?_
            exact ih  (k + 1) (a + 1) (by omega) (by omega) (by unfold zcnt; rw [← ha]; simp [*]) _ _ hH hS _ (lv_sub hl [2, 1, 0] rfl)
  exact L4 (v 0 + 1) 0 0 (by omega) (by omega) rfl _ _ hH hS _ (lv_sub hl [2, 1, 0] rfl)

set_option maxHeartbeats 4000000 in
set_option maxRecDepth 100000 in
theorem c_X4_greatestPrice (l : Launch) (G : zG) (B0 : Nat) (M : Mm) (w : Nat) (r : Nat → Nat) (v : Wv) (hW : WlR G w r v M) (hr : rOk r) (hv : wOk v) : zMet l yX4_greatestPrice cX4_greatestPrice 3 (some .int) 4 0 0 G B0 M [.ref w] (some (.int (oI (grtTo v 60)))) (fun M1 => M = M1) := by
  refine z_met RX4 [(0, .ref w)] (by decide) rfl (Nat.le_of_ble_eq_true rfl) rfl ?_
  intro pg ev s m below meth cd ls hE hin hB0 hH hl
  have hx := hE.1
  have hb := hE.2.1
  have hn := hv.1
  refine z_gen B0 (fun H locs hH hS => ?_) hH
  refine lv_bipush (v := (-6)) hx hb dX4_greatestPrice_0 (by decide) ?_
  refine lv_istore_n (lv' := [(1, .int (-6)), (0, .ref w)]) hx hb dX4_greatestPrice_2 rfl hl (by decide) rfl (fun ls hl => ?_)
  refine n_iconst hx hb 0 dX4_greatestPrice_3 (by decide) ?_
  refine lv_istore_n (lv' := [(2, .int (nI 0)), (1, .int (-6)), (0, .ref w)]) hx hb dX4_greatestPrice_4 rfl hl (by decide) rfl (fun ls hl => ?_)
  have L5 : ∀ (dd : Nat) (k : Nat) (o : Option Nat), 60 < k + dd → (k ≤ 60) → (o = grtTo v k) → ∀ (H : Heap) (locs : List Loc), zH G M H → zS 0 B0 s.heap H locs → ∀ (ls : Array Slot), lv_has ls 3 [(0, .ref w), (1, .int (oI o)), (2, .int (nI k))] → zW pg l ev 4 0 0 s m [.ref w] below meth cd H locs 0 0 G B0 (some (.int (oI (grtTo v 60)))) (fun M1 => M = M1) (F0 m 5 ls []) := by
    intro dd
    induction dd with
    | zero =>
      intro k o hdd hk ho
      exact absurd hdd (by omega)
    | succ dd ih =>
      intro k o hdd hk ho H locs hH hS ls hl
      refine lv_iload_n hx hb dX4_greatestPrice_5 rfl (lv_at hl 2 rfl) ?_
      refine n_bipush hx hb 60 dX4_greatestPrice_6 (by decide) ?_
      refine n_cmp_ge (tgt := 27) hx hb (by omega) (by decide) dX4_greatestPrice_8 (by decide) (fun h1 => ?_) (fun h1 => ?_)
      · refine lv_iload_n hx hb dX4_greatestPrice_27 rfl (lv_at hl 1 rfl) ?_
        exact z_iret hE hH hS (by have hkk : k = 60 := (by omega); subst hkk; rw [ho]) rfl dX4_greatestPrice_28
      · refine lv_iload_n hx hb dX4_greatestPrice_11 rfl (lv_at hl 1 rfl) ?_
        refine lv_aload_n hx hb dX4_greatestPrice_12 rfl (lv_at hl 0 rfl) ?_
        refine lv_iload_n hx hb dX4_greatestPrice_13 rfl (lv_at hl 2 rfl) ?_
        refine z_callV (rest := [.int (oI o)]) (st2 := [.int (oI (prc v (-6) k)), .int (oI o)]) hE hH hS hB0 hl ca_X4_priceAt mkX4_78 (c_X4_priceAt l G B0 M w r v hW hr hv k (by omega)) hW.1 rfl rfl rfl rfl rfl ⟨Nat.le_of_ble_eq_true rfl, Nat.le_of_ble_eq_true rfl⟩ (Nat.le_of_ble_eq_true rfl) ⟨Nat.le_refl _, Nat.le_refl _⟩ dX4_greatestPrice_14 (fun H locs M1 hH hp hS => ?_)
        subst hp
        refine o_max (rest := []) hE hl mkX4_95 (by rw [ho]; exact grt_ob hv k) (prc_ob31 hv) ⟨Nat.le_of_ble_eq_true rfl, Nat.le_of_ble_eq_true rfl⟩ ⟨Nat.le_refl _, Nat.le_refl _⟩ dX4_greatestPrice_17 ?_
        refine lv_istore_n (lv' := [(1, .int (oI (omax o (prc v (-6) k)))), (0, .ref w), (2, .int (nI k))]) hx hb dX4_greatestPrice_20 rfl hl (by decide) rfl (fun ls hl => ?_)
        refine lv_iinc (v := (nI (k + 1))) (lv' := [(2, .int (nI (k + 1))), (1, .int (oI (omax o (prc v (-6) k)))), (0, .ref w)]) hx hb dX4_greatestPrice_21 hl (k := 2) rfl (nI_inc _) (by decide) rfl (fun ls hl => ?_)
        refine lv_goto (tgt := 5) hx hb dX4_greatestPrice_24 (by decide) ?_
        exact ih  (k + 1) (omax o (prc v (-6) k)) (by omega) (by omega) (by rw [ho]; rfl) _ _ hH hS _ (lv_sub hl [2, 1, 0] rfl)
  exact L5 61 0 none (by omega) (by omega) rfl _ _ hH hS _ (lv_sub hl [2, 1, 0] rfl)

set_option maxHeartbeats 4000000 in
set_option maxRecDepth 100000 in
theorem c_X4_pricesUnlike (l : Launch) (G : zG) (B0 : Nat) (M : Mm) (w : Nat) (r : Nat → Nat) (v : Wv) (hW : WlR G w r v M) (hr : rOk r) (hv : wOk v) (w2 : Nat) (r2 : Nat → Nat) (v2 : Wv) (hW2 : WlR G w2 r2 v2 M) (hr2 : rOk r2) (hv2 : wOk v2) : zMet l yX4_pricesUnlike cX4_pricesUnlike 4 (some .int) 4 0 0 G B0 M [.ref w, .ref w2] (some (.int (nI (unlikeW v v2)))) (fun M1 => M = M1) := by
  refine z_met RX4 [(0, .ref w), (1, .ref w2)] (by decide) rfl (Nat.le_of_ble_eq_true rfl) rfl ?_
  intro pg ev s m below meth cd ls hE hin hB0 hH hl
  have hx := hE.1
  have hb := hE.2.1
  have hn := hv.1
  refine z_gen B0 (fun H locs hH hS => ?_) hH
  refine n_iconst hx hb 0 dX4_pricesUnlike_0 (by decide) ?_
  refine lv_istore_n (lv' := [(2, .int (nI 0)), (0, .ref w), (1, .ref w2)]) hx hb dX4_pricesUnlike_1 rfl hl (by decide) rfl (fun ls hl => ?_)
  refine n_iconst hx hb 0 dX4_pricesUnlike_2 (by decide) ?_
  refine lv_istore_n (lv' := [(3, .int (nI 0)), (2, .int (nI 0)), (0, .ref w), (1, .ref w2)]) hx hb dX4_pricesUnlike_3 rfl hl (by decide) rfl (fun ls hl => ?_)
  have L4 : ∀ (dd : Nat) (k : Nat) (a : Nat), 60 < k + dd → (k ≤ 60) → (a = zcnt (fun c => decide (prc v (-6) c ≠ prc v2 (-6) c)) k) → ∀ (H : Heap) (locs : List Loc), zH G M H → zS 0 B0 s.heap H locs → ∀ (ls : Array Slot), lv_has ls 4 [(0, .ref w), (1, .ref w2), (2, .int (nI a)), (3, .int (nI k))] → zW pg l ev 4 0 0 s m [.ref w, .ref w2] below meth cd H locs 0 0 G B0 (some (.int (nI (unlikeW v v2)))) (fun M1 => M = M1) (F0 m 4 ls []) := by
    intro dd
    induction dd with
    | zero =>
      intro k a hdd hk ha
      exact absurd hdd (by omega)
    | succ dd ih =>
      intro k a hdd hk ha H locs hH hS ls hl
      refine lv_iload_n hx hb dX4_pricesUnlike_4 rfl (lv_at hl 3 rfl) ?_
      refine n_bipush hx hb 60 dX4_pricesUnlike_5 (by decide) ?_
      refine n_cmp_ge (tgt := 32) hx hb (by omega) (by decide) dX4_pricesUnlike_7 (by decide) (fun h1 => ?_) (fun h1 => ?_)
      · refine lv_iload_n hx hb dX4_pricesUnlike_32 rfl (lv_at hl 2 rfl) ?_
        exact z_iret hE hH hS (by have hkk : k = 60 := (by omega); subst hkk; rw [ha]; first | done | rfl) rfl dX4_pricesUnlike_33
      · refine lv_aload_n hx hb dX4_pricesUnlike_10 rfl (lv_at hl 0 rfl) ?_
        refine lv_iload_n hx hb dX4_pricesUnlike_11 rfl (lv_at hl 3 rfl) ?_
        refine z_callV (rest := []) (st2 := [.int (oI (prc v (-6) k))]) hE hH hS hB0 hl ca_X4_priceAt mkX4_78 (c_X4_priceAt l G B0 M w r v hW hr hv k (by omega)) hW.1 rfl rfl rfl rfl rfl ⟨Nat.le_of_ble_eq_true rfl, Nat.le_of_ble_eq_true rfl⟩ (Nat.le_of_ble_eq_true rfl) ⟨Nat.le_refl _, Nat.le_refl _⟩ dX4_pricesUnlike_12 (fun H locs M1 hH hp hS => ?_)
        subst hp
        refine lv_aload_n hx hb dX4_pricesUnlike_15 rfl (lv_at hl 1 rfl) ?_
        refine lv_iload_n hx hb dX4_pricesUnlike_16 rfl (lv_at hl 3 rfl) ?_
        refine z_callV (rest := [.int (oI (prc v (-6) k))]) (st2 := [.int (oI (prc v2 (-6) k)), .int (oI (prc v (-6) k))]) hE hH hS hB0 hl ca_X4_priceAt mkX4_78 (c_X4_priceAt l G B0 M w2 r2 v2 hW2 hr2 hv2 k (by omega)) hW2.1 rfl rfl rfl rfl rfl ⟨Nat.le_of_ble_eq_true rfl, Nat.le_of_ble_eq_true rfl⟩ (Nat.le_of_ble_eq_true rfl) ⟨Nat.le_refl _, Nat.le_refl _⟩ dX4_pricesUnlike_17 (fun H locs M1 hH hp hS => ?_)
        subst hp
        refine oo_cmp_eq (tgt := 26) hx hb (prc_ob31 hv) (prc_ob31 hv2) dX4_pricesUnlike_20 (by decide) (fun h2 => ?_) (fun h2 => ?_)
        · refine lv_iinc (v := (nI (k + 1))) (lv' := [(3, .int (nI (k + 1))), (0, .ref w), (1, .ref w2), (2, .int (nI a))]) hx hb dX4_pricesUnlike_26 hl (k := 3) rfl (nI_inc _) (by decide) rfl (fun ls hl => ?_)
          refine lv_goto (tgt := 4) hx hb dX4_pricesUnlike_29 (by decide) ?_
          exact ih  (k + 1) a (by omega) (by omega) (by unfold zcnt; rw [← ha]; simp [*]) _ _ hH hS _ (lv_sub hl [1, 2, 3, 0] rfl)
        · refine lv_iinc (v := (nI (a + 1))) (lv' := [(2, .int (nI (a + 1))), (0, .ref w), (1, .ref w2), (3, .int (nI k))]) hx hb dX4_pricesUnlike_23 hl (k := 2) rfl (nI_inc _) (by decide) rfl (fun ls hl => ?_)
          refine lv_iinc (v := (nI (k + 1))) (lv' := [(3, .int (nI (k + 1))), (2, .int (nI (a + 1))), (0, .ref w), (1, .ref w2)]) hx hb dX4_pricesUnlike_26 hl (k := 3) rfl (nI_inc _) (by decide) rfl (fun ls hl => ?_)
          refine lv_goto (tgt := 4) hx hb dX4_pricesUnlike_29 (by decide) ?_
          exact ih  (k + 1) (a + 1) (by omega) (by omega) (by unfold zcnt; rw [← ha]; simp [*]) _ _ hH hS _ (lv_sub hl [2, 3, 1, 0] rfl)
  exact L4 61 0 0 (by omega) (by omega) rfl _ _ hH hS _ (lv_sub hl [2, 3, 1, 0] rfl)

set_option maxHeartbeats 4000000 in
set_option maxRecDepth 100000 in
theorem c_X4_daysToClear (l : Launch) (G : zG) (B0 : Nat) (M : Mm) (w : Nat) (r : Nat → Nat) (v : Wv) (hW : WlR G w r v M) (hr : rOk r) (hv : wOk v) (j c : Nat) (hj : j < v 0) (hc : c < 60) : zMet l yX4_daysToClear cX4_daysToClear 5 (some .int) 1 0 0 G B0 M [.ref w, .int (nI j), .int (nI c)] (some (.int (nI (dtc (cv v j c) (sv v (c % 10)))))) (fun M1 => M = M1) := by
  refine z_met RX4 [(0, .ref w), (1, .int (nI j)), (2, .int (nI c))] (by decide) rfl (Nat.le_of_ble_eq_true rfl) rfl ?_
  intro pg ev s m below meth cd ls hE hin hB0 hH hl
  have hx := hE.1
  have hb := hE.2.1
  have hn := hv.1
  refine z_gen B0 (fun H locs hH hS => ?_) hH
  refine lv_aload_n hx hb dX4_daysToClear_0 rfl (lv_at hl 0 rfl) ?_
  refine z_get (T := TX4) (v := .ref (w + 1)) hE hH hW.1 rfl uw_X4 0 (by decide) fkX4_11 rfl dX4_daysToClear_1 ?_
  refine lv_iload_n hx hb dX4_daysToClear_4 rfl (lv_at hl 1 rfl) ?_
  refine z_aald hE hH hW.2.1 rfl (k := j) (by omega) (by decide) dX4_daysToClear_5 ?_
  refine z_get (T := TX3) (v := .ref (w + 2 + 2 * r j + 1)) hE hH (hW.2.2.2.2 j (by omega)).1 rfl uw_X3 7 (by decide) fkX4_53 rfl dX4_daysToClear_6 ?_
  refine lv_iload_n hx hb dX4_daysToClear_9 rfl (lv_at hl 2 rfl) ?_
  refine z_iald hE hH (hW.2.2.2.2 j (by omega)).2 (k := c) (by omega) (by decide) dX4_daysToClear_10 ?_
  have q1 := hv.coat (j := j) (c := c) (by omega) (by omega)
  refine lv_istore_n (lv' := [(3, .int (nI (cv v j c))), (0, .ref w), (1, .int (nI j)), (2, .int (nI c))]) hx hb dX4_daysToClear_11 rfl hl (by decide) rfl (fun ls hl => ?_)
  refine lv_aload_n hx hb dX4_daysToClear_12 rfl (lv_at hl 1 rfl) ?_
  refine z_get (T := TX4) (v := .ref (w + 26)) hE hH hW.1 rfl uw_X4 2 (by decide) fkX4_18 rfl dX4_daysToClear_13 ?_
  refine lv_iload_n hx hb dX4_daysToClear_16 rfl (lv_at hl 3 rfl) ?_
  refine n_bipush hx hb 10 dX4_daysToClear_17 (by decide) ?_
  refine n_irem hx hb (by omega) (by decide) (by decide) dX4_daysToClear_19 ?_
  refine z_iald hE hH hW.2.2.1 (k := c % 10) (by omega) (by decide) dX4_daysToClear_20 ?_
  have q2 := hv.2.2.1 (c % 10) (by omega)
  refine lv_istore (lv' := [(4, .int (nI (sv v (c % 10)))), (3, .int (nI (cv v j c))), (0, .ref w), (1, .int (nI j)), (2, .int (nI c))]) hx hb dX4_daysToClear_21 hl (by decide) rfl (fun ls hl => ?_)
  refine lv_iload_n hx hb dX4_daysToClear_23 rfl (lv_at hl 1 rfl) ?_
  refine n_if_ne (tgt := 29) hx hb (by omega) dX4_daysToClear_24 (by decide) (fun h3 => ?_) (fun h3 => ?_)
  · refine lv_iload hx hb dX4_daysToClear_29 (lv_at hl 0 rfl) ?_
    refine n_if_le (tgt := 46) hx hb (by omega) dX4_daysToClear_31 (by decide) (fun h4 => ?_) (fun h4 => ?_)
    · refine lv_ldc (v := nI 1000000) hx hb hE.2.2.2.1 (hE.2.2.2.2.1 _ kcX4_77) dX4_daysToClear_46 ?_
      exact z_iret hE hH hS (by congr 1; simp [dtc, *]; try omega) rfl dX4_daysToClear_48
    · refine lv_iload_n hx hb dX4_daysToClear_34 rfl (lv_at hl 1 rfl) ?_
      refine lv_iload hx hb dX4_daysToClear_35 (lv_at hl 0 rfl) ?_
      refine n_iadd hx hb dX4_daysToClear_37 ?_
      refine n_iconst hx hb 1 dX4_daysToClear_38 (by decide) ?_
      refine n_isub hx hb (by omega) dX4_daysToClear_39 ?_
      refine lv_iload hx hb dX4_daysToClear_40 (lv_at hl 0 rfl) ?_
      refine n_idiv hx hb (by omega) (by omega) (by omega) dX4_daysToClear_42 ?_
      refine lv_goto (tgt := 48) hx hb dX4_daysToClear_43 (by decide) ?_
      exact z_iret hE hH hS (by congr 1; simp [dtc, *]; try omega) rfl dX4_daysToClear_48
  · refine n_iconst hx hb 0 dX4_daysToClear_27 (by decide) ?_
    exact z_iret hE hH hS (by congr 1; simp [dtc, *]; try omega) rfl dX4_daysToClear_28

theorem dtoGo_succ (v : Wv) (c pr j d : Nat) : dtoGo v c pr (j + 1) d = if 0 < cv v j c ∧ pv v j 4 ≠ pr then d else dtoGo v c pr j (d + dtc (cv v j c) (sv v (c % 10))) := rfl

set_option maxHeartbeats 4000000 in
set_option maxRecDepth 100000 in
theorem c_X4_daysToOtherPrice (l : Launch) (G : zG) (B0 : Nat) (M : Mm) (w : Nat) (r : Nat → Nat) (v : Wv) (hW : WlR G w r v M) (hr : rOk r) (hv : wOk v) (c : Nat) (hc : c < 60) : zMet l yX4_daysToOtherPrice cX4_daysToOtherPrice 5 (some .int) 4 0 0 G B0 M [.ref w, .int (nI c)] (some (.int (nI (dtOther v c)))) (fun M1 => M = M1) := by
  refine z_met RX4 [(0, .ref w), (1, .int (nI c))] (by decide) rfl (Nat.le_of_ble_eq_true rfl) rfl ?_
  intro pg ev s m below meth cd ls hE hin hB0 hH hl
  have hx := hE.1
  have hb := hE.2.1
  have hn := hv.1
  refine z_gen B0 (fun H locs hH hS => ?_) hH
  refine lv_aload_n hx hb dX4_daysToOtherPrice_0 rfl (lv_at hl 0 rfl) ?_
  refine lv_iload_n hx hb dX4_daysToOtherPrice_1 rfl (lv_at hl 1 rfl) ?_
  refine z_callV (rest := []) (st2 := [.int (oI (prc v (-6) c))]) hE hH hS hB0 hl ca_X4_priceAt mkX4_78 (c_X4_priceAt l G B0 M w r v hW hr hv c (by omega)) hW.1 rfl rfl rfl rfl rfl ⟨Nat.le_of_ble_eq_true rfl, Nat.le_of_ble_eq_true rfl⟩ (Nat.le_of_ble_eq_true rfl) ⟨Nat.le_refl _, Nat.le_refl _⟩ dX4_daysToOtherPrice_2 (fun H locs M1 hH hp hS => ?_)
  subst hp
  refine lv_istore_n (lv' := [(2, .int (oI (prc v (-6) c))), (0, .ref w), (1, .int (nI c))]) hx hb dX4_daysToOtherPrice_5 rfl hl (by decide) rfl (fun ls hl => ?_)
  refine lv_iload_n hx hb dX4_daysToOtherPrice_6 rfl (lv_at hl 0 rfl) ?_
  refine lv_bipush (v := (-6)) hx hb dX4_daysToOtherPrice_7 (by decide) ?_
  refine o_cmp_ne (tgt := 15) hx hb (prc_ob31 hv) dX4_daysToOtherPrice_9 (by decide) (fun j2 h1 => ?_) (fun h1 => ?_)
  · rw [h1] at hl
    replace hl : lv_has ls 5 [(2, .int (nI j2)), (0, .ref w), (1, .int (nI c))] := hl
    have j2_b := prc_ob hv _ h1
    have hpr := h1
    refine n_iconst hx hb 0 dX4_daysToOtherPrice_15 (by decide) ?_
    refine lv_istore_n (lv' := [(3, .int (nI 0)), (2, .int (nI j2)), (0, .ref w), (1, .int (nI c))]) hx hb dX4_daysToOtherPrice_16 rfl hl (by decide) rfl (fun ls hl => ?_)
    refine lv_aload_n hx hb dX4_daysToOtherPrice_17 rfl (lv_at hl 2 rfl) ?_
    refine z_get (T := TX4) (v := .int (nI (v 0))) hE hH hW.1 rfl uw_X4 1 (by decide) fkX4_22 rfl dX4_daysToOtherPrice_18 ?_
    refine n_iconst hx hb 1 dX4_daysToOtherPrice_21 (by decide) ?_
    refine lv_isub hx hb dX4_daysToOtherPrice_22 ?_
    refine lv_istore (lv' := [(4, .int (nI (v 0) - nI 1)), (3, .int (nI 0)), (2, .int (nI j2)), (0, .ref w), (1, .int (nI c))]) hx hb dX4_daysToOtherPrice_23 hl (by decide) rfl (fun ls hl => ?_)
    have L25 : ∀ (dd : Nat) (n : Nat) (d : Nat), n < dd → (dtoGo v c j2 n d = dtoGo v c j2 (v 0) 0) → (n ≤ v 0) → ∀ (H : Heap) (locs : List Loc), zH G M H → zS 0 B0 s.heap H locs → ∀ (ls : Array Slot), lv_has ls 5 [(0, .ref w), (1, .int (nI c)), (2, .int (nI j2)), (3, .int (nI d)), (4, .int (nI n - nI 1))] → zW pg l ev 4 0 0 s m [.ref w, .int (nI c)] below meth cd H locs 0 0 G B0 (some (.int (nI (dtOther v c)))) (fun M1 => M = M1) (F0 m 25 ls []) := by
      intro dd
      induction dd with
      | zero =>
        intro n d hdd hs hnn
        exact absurd hdd (by omega)
      | succ dd ih =>
        intro n d hdd hs hnn H locs hH hS ls hl
        refine lv_iload hx hb dX4_daysToOtherPrice_25 (lv_at hl 4 rfl) ?_
        refine n_down_lt (tgt := 77) hx hb (by omega) dX4_daysToOtherPrice_27 (by decide) (fun h3 => ?_) (fun j4 h3 => ?_)
        · refine lv_iload_n hx hb dX4_daysToOtherPrice_77 rfl (lv_at hl 3 rfl) ?_
          exact z_iret hE hH hS (by simp only [dtOther, hpr, Option.elim]; rw [← hs, h3]; rfl) rfl dX4_daysToOtherPrice_78
        · subst h3
          rw [nI_down] at hl
          refine lv_aload_n hx hb dX4_daysToOtherPrice_30 rfl (lv_at hl 0 rfl) ?_
          refine z_get (T := TX4) (v := .ref (w + 1)) hE hH hW.1 rfl uw_X4 0 (by decide) fkX4_11 rfl dX4_daysToOtherPrice_31 ?_
          refine lv_iload hx hb dX4_daysToOtherPrice_34 (lv_at hl 4 rfl) ?_
          refine z_aald hE hH hW.2.1 rfl (k := j4) (by omega) (by decide) dX4_daysToOtherPrice_36 ?_
          refine z_get (T := TX3) (v := .ref (w + 2 + 2 * r j4 + 1)) hE hH (hW.2.2.2.2 j4 (by omega)).1 rfl uw_X3 7 (by decide) fkX4_53 rfl dX4_daysToOtherPrice_37 ?_
          refine lv_iload_n hx hb dX4_daysToOtherPrice_40 rfl (lv_at hl 1 rfl) ?_
          refine z_iald hE hH (hW.2.2.2.2 j4 (by omega)).2 (k := c) (by omega) (by decide) dX4_daysToOtherPrice_41 ?_
          have q5 := hv.coat (j := j4) (c := c) (by omega) (by omega)
          refine n_if_le (tgt := 61) hx hb (by omega) dX4_daysToOtherPrice_42 (by decide) (fun h6 => ?_) (fun h6 => ?_)
          · refine lv_iload_n hx hb dX4_daysToOtherPrice_61 rfl (lv_at hl 3 rfl) ?_
            refine lv_aload_n hx hb dX4_daysToOtherPrice_62 rfl (lv_at hl 0 rfl) ?_
            refine lv_iload hx hb dX4_daysToOtherPrice_63 (lv_at hl 4 rfl) ?_
            refine lv_iload_n hx hb dX4_daysToOtherPrice_65 rfl (lv_at hl 1 rfl) ?_
            refine z_callV (rest := [.int (nI d)]) (st2 := [.int (nI (dtc (cv v j4 c) (sv v (c % 10)))), .int (nI d)]) hE hH hS hB0 hl ca_X4_daysToClear mkX4_74 (c_X4_daysToClear l G B0 M w r v hW hr hv j4 c (by omega) (by omega)) hW.1 rfl rfl rfl rfl rfl ⟨Nat.le_of_ble_eq_true rfl, Nat.le_of_ble_eq_true rfl⟩ (Nat.le_of_ble_eq_true rfl) ⟨Nat.le_refl _, Nat.le_refl _⟩ dX4_daysToOtherPrice_66 (fun H locs M1 hH hp hS => ?_)
            subst hp
            have q7 := dtc_le (u := sv v (c % 10)) (hv.coat (j := j4) (c := c) (by omega) (by omega))
            refine n_iadd hx hb dX4_daysToOtherPrice_69 ?_
            refine lv_istore_n (lv' := [(3, .int (nI (d + (dtc (cv v j4 c) (sv v (c % 10)))))), (0, .ref w), (1, .int (nI c)), (2, .int (nI j2)), (4, .int (nI j4))]) hx hb dX4_daysToOtherPrice_70 rfl hl (by decide) rfl (fun ls hl => ?_)
            refine lv_iinc (v := (nI j4 - nI 1)) (lv' := [(4, .int (nI j4 - nI 1)), (3, .int (nI (d + (dtc (cv v j4 c) (sv v (c % 10)))))), (0, .ref w), (1, .int (nI c)), (2, .int (nI j2))]) hx hb dX4_daysToOtherPrice_71 hl (k := 4) rfl (nI_dec1 _) (by decide) rfl (fun ls hl => ?_)
            refine lv_goto (tgt := 25) hx hb dX4_daysToOtherPrice_74 (by decide) ?_
            exact ih  j4 (d + (dtc (cv v j4 c) (sv v (c % 10)))) (by omega) (by rw [← hs, dtoGo_succ, if_neg (by rintro ⟨q1, q2⟩; first | exact q2 (by assumption) | omega)]) (by omega) _ _ hH hS _ (lv_sub hl [2, 3, 4, 1, 0] rfl)
          · refine lv_aload_n hx hb dX4_daysToOtherPrice_45 rfl (lv_at hl 0 rfl) ?_
            refine z_get (T := TX4) (v := .ref (w + 1)) hE hH hW.1 rfl uw_X4 0 (by decide) fkX4_11 rfl dX4_daysToOtherPrice_46 ?_
            refine lv_iload hx hb dX4_daysToOtherPrice_49 (lv_at hl 4 rfl) ?_
            refine z_aald hE hH hW.2.1 rfl (k := j4) (by omega) (by decide) dX4_daysToOtherPrice_51 ?_
            have q8 := hv.price (j := j4) (by omega)
            refine z_get (T := TX3) (v := .int (nI (pv v j4 4))) hE hH (hW.2.2.2.2 j4 (by omega)).1 rfl uw_X3 4 (by decide) fkX4_66 rfl dX4_daysToOtherPrice_52 ?_
            refine lv_iload_n hx hb dX4_daysToOtherPrice_55 rfl (lv_at hl 2 rfl) ?_
            refine n_cmp_eq (tgt := 61) hx hb (by omega) (by omega) dX4_daysToOtherPrice_56 (by decide) (fun h9 => ?_) (fun h9 => ?_)
            · refine lv_iload_n hx hb dX4_daysToOtherPrice_61 rfl (lv_at hl 3 rfl) ?_
              refine lv_aload_n hx hb dX4_daysToOtherPrice_62 rfl (lv_at hl 0 rfl) ?_
              refine lv_iload hx hb dX4_daysToOtherPrice_63 (lv_at hl 4 rfl) ?_
              refine lv_iload_n hx hb dX4_daysToOtherPrice_65 rfl (lv_at hl 1 rfl) ?_
              refine z_callV (rest := [.int (nI d)]) (st2 := [.int (nI (dtc (cv v j4 c) (sv v (c % 10)))), .int (nI d)]) hE hH hS hB0 hl ca_X4_daysToClear mkX4_74 (c_X4_daysToClear l G B0 M w r v hW hr hv j4 c (by omega) (by omega)) hW.1 rfl rfl rfl rfl rfl ⟨Nat.le_of_ble_eq_true rfl, Nat.le_of_ble_eq_true rfl⟩ (Nat.le_of_ble_eq_true rfl) ⟨Nat.le_refl _, Nat.le_refl _⟩ dX4_daysToOtherPrice_66 (fun H locs M1 hH hp hS => ?_)
              subst hp
              have q10 := dtc_le (u := sv v (c % 10)) (hv.coat (j := j4) (c := c) (by omega) (by omega))
              refine n_iadd hx hb dX4_daysToOtherPrice_69 ?_
              refine lv_istore_n (lv' := [(3, .int (nI (d + (dtc (cv v j4 c) (sv v (c % 10)))))), (0, .ref w), (1, .int (nI c)), (2, .int (nI j2)), (4, .int (nI j4))]) hx hb dX4_daysToOtherPrice_70 rfl hl (by decide) rfl (fun ls hl => ?_)
              refine lv_iinc (v := (nI j4 - nI 1)) (lv' := [(4, .int (nI j4 - nI 1)), (3, .int (nI (d + (dtc (cv v j4 c) (sv v (c % 10)))))), (0, .ref w), (1, .int (nI c)), (2, .int (nI j2))]) hx hb dX4_daysToOtherPrice_71 hl (k := 4) rfl (nI_dec1 _) (by decide) rfl (fun ls hl => ?_)
              refine lv_goto (tgt := 25) hx hb dX4_daysToOtherPrice_74 (by decide) ?_
              exact ih  j4 (d + (dtc (cv v j4 c) (sv v (c % 10)))) (by omega) (by rw [← hs, dtoGo_succ, if_neg (by rintro ⟨q1, q2⟩; first | exact q2 (by assumption) | omega)]) (by omega) _ _ hH hS _ (lv_sub hl [2, 3, 4, 1, 0] rfl)
            · refine lv_iload_n hx hb dX4_daysToOtherPrice_59 rfl (lv_at hl 3 rfl) ?_
              exact z_iret hE hH hS (by simp only [dtOther, hpr, Option.elim]; rw [← hs, dtoGo_succ, if_pos ⟨by assumption, by assumption⟩]) rfl dX4_daysToOtherPrice_60
    exact L25 (v 0 + 1) (v 0) 0 (by omega) rfl (Nat.le_refl _) _ _ hH hS _ (lv_sub hl [3, 4, 2, 1, 0] rfl)
  · refine lv_ldc (v := nI 1000000) hx hb hE.2.2.2.1 (hE.2.2.2.2.1 _ kcX4_77) dX4_daysToOtherPrice_12 ?_
    exact z_iret hE hH hS (by simp [dtOther, h1]) rfl dX4_daysToOtherPrice_14

set_option maxHeartbeats 4000000 in
set_option maxRecDepth 100000 in
theorem c_X4_daysToSee (l : Launch) (G : zG) (B0 : Nat) (M : Mm) (w : Nat) (r : Nat → Nat) (v : Wv) (hW : WlR G w r v M) (hr : rOk r) (hv : wOk v) (j c : Nat) (hj : j < v 0) (hc : c < 60) : zMet l yX4_daysToSee cX4_daysToSee 5 (some .int) 2 0 0 G B0 M [.ref w, .int (nI j), .int (nI c)] (some (.int (nI (dtSee v j c)))) (fun M1 => M = M1) := by
  refine z_met RX4 [(0, .ref w), (1, .int (nI j)), (2, .int (nI c))] (by decide) rfl (Nat.le_of_ble_eq_true rfl) rfl ?_
  intro pg ev s m below meth cd ls hE hin hB0 hH hl
  have hx := hE.1
  have hb := hE.2.1
  have hn := hv.1
  refine z_gen B0 (fun H locs hH hS => ?_) hH
  refine lv_aload_n hx hb dX4_daysToSee_0 rfl (lv_at hl 0 rfl) ?_
  refine z_get (T := TX4) (v := .ref (w + 1)) hE hH hW.1 rfl uw_X4 0 (by decide) fkX4_11 rfl dX4_daysToSee_1 ?_
  refine lv_iload_n hx hb dX4_daysToSee_4 rfl (lv_at hl 1 rfl) ?_
  refine z_aald hE hH hW.2.1 rfl (k := j) (by omega) (by decide) dX4_daysToSee_5 ?_
  refine z_get (T := TX3) (v := .ref (w + 2 + 2 * r j + 1)) hE hH (hW.2.2.2.2 j (by omega)).1 rfl uw_X3 7 (by decide) fkX4_53 rfl dX4_daysToSee_6 ?_
  refine lv_iload_n hx hb dX4_daysToSee_9 rfl (lv_at hl 2 rfl) ?_
  refine z_iald hE hH (hW.2.2.2.2 j (by omega)).2 (k := c) (by omega) (by decide) dX4_daysToSee_10 ?_
  have q1 := hv.coat (j := j) (c := c) (by omega) (by omega)
  refine n_if_ne (tgt := 17) hx hb (by omega) dX4_daysToSee_11 (by decide) (fun h2 => ?_) (fun h2 => ?_)
  · refine n_iconst hx hb 0 dX4_daysToSee_17 (by decide) ?_
    refine lv_istore_n (lv' := [(3, .int (nI 0)), (0, .ref w), (1, .int (nI j)), (2, .int (nI c))]) hx hb dX4_daysToSee_18 rfl hl (by decide) rfl (fun ls hl => ?_)
    refine lv_iload_n hx hb dX4_daysToSee_19 rfl (lv_at hl 2 rfl) ?_
    refine n_iconst hx hb 1 dX4_daysToSee_20 (by decide) ?_
    refine n_iadd hx hb dX4_daysToSee_21 ?_
    refine lv_istore (lv' := [(4, .int (nI (j + 1))), (3, .int (nI 0)), (0, .ref w), (1, .int (nI j)), (2, .int (nI c))]) hx hb dX4_daysToSee_22 hl (by decide) rfl (fun ls hl => ?_)
    have L24 : ∀ (dd : Nat) (k : Nat) (d : Nat), v 0 < k + dd → (k ≤ v 0) → (j + 1 ≤ k) → (d = zsum (fun i => if j + 1 ≤ i then dtc (cv v i c) (sv v (c % 10)) else 0) k) → ∀ (H : Heap) (locs : List Loc), zH G M H → zS 0 B0 s.heap H locs → ∀ (ls : Array Slot), lv_has ls 5 [(0, .ref w), (1, .int (nI j)), (2, .int (nI c)), (3, .int (nI d)), (4, .int (nI k))] → zW pg l ev 2 0 0 s m [.ref w, .int (nI j), .int (nI c)] below meth cd H locs 0 0 G B0 (some (.int (nI (dtSee v j c)))) (fun M1 => M = M1) (F0 m 24 ls []) := by
      intro dd
      induction dd with
      | zero =>
        intro k d hdd hk hk1 ha
        exact absurd hdd (by omega)
      | succ dd ih =>
        intro k d hdd hk hk1 ha H locs hH hS ls hl
        refine lv_iload hx hb dX4_daysToSee_24 (lv_at hl 4 rfl) ?_
        refine lv_aload_n hx hb dX4_daysToSee_26 rfl (lv_at hl 0 rfl) ?_
        refine z_get (T := TX4) (v := .int (nI (v 0))) hE hH hW.1 rfl uw_X4 1 (by decide) fkX4_22 rfl dX4_daysToSee_27 ?_
        refine n_cmp_ge (tgt := 49) hx hb (by omega) (by omega) dX4_daysToSee_30 (by decide) (fun h3 => ?_) (fun h3 => ?_)
        · refine lv_iload_n hx hb dX4_daysToSee_49 rfl (lv_at hl 3 rfl) ?_
          exact z_iret hE hH hS (by have hkk : k = v 0 := (by omega); subst hkk; unfold dtSee; rw [if_neg (by omega), ha]) rfl dX4_daysToSee_50
        · refine lv_iload_n hx hb dX4_daysToSee_33 rfl (lv_at hl 3 rfl) ?_
          refine lv_aload_n hx hb dX4_daysToSee_34 rfl (lv_at hl 0 rfl) ?_
          refine lv_iload hx hb dX4_daysToSee_35 (lv_at hl 4 rfl) ?_
          refine lv_iload_n hx hb dX4_daysToSee_37 rfl (lv_at hl 2 rfl) ?_
          refine z_callV (rest := [.int (nI d)]) (st2 := [.int (nI (dtc (cv v k c) (sv v (c % 10)))), .int (nI d)]) hE hH hS hB0 hl ca_X4_daysToClear mkX4_74 (c_X4_daysToClear l G B0 M w r v hW hr hv k c (by omega) (by omega)) hW.1 rfl rfl rfl rfl rfl ⟨Nat.le_of_ble_eq_true rfl, Nat.le_of_ble_eq_true rfl⟩ (Nat.le_of_ble_eq_true rfl) ⟨Nat.le_refl _, Nat.le_refl _⟩ dX4_daysToSee_38 (fun H locs M1 hH hp hS => ?_)
          subst hp
          have q4 := dtc_le (u := sv v (c % 10)) (hv.coat (j := k) (c := c) (by omega) (by omega))
          refine n_iadd hx hb dX4_daysToSee_41 ?_
          refine lv_istore_n (lv' := [(3, .int (nI (d + (dtc (cv v k c) (sv v (c % 10)))))), (0, .ref w), (1, .int (nI j)), (2, .int (nI c)), (4, .int (nI k))]) hx hb dX4_daysToSee_42 rfl hl (by decide) rfl (fun ls hl => ?_)
          refine lv_iinc (v := (nI (k + 1))) (lv' := [(4, .int (nI (k + 1))), (3, .int (nI (d + (dtc (cv v k c) (sv v (c % 10)))))), (0, .ref w), (1, .int (nI j)), (2, .int (nI c))]) hx hb dX4_daysToSee_43 hl (k := 4) rfl (nI_inc _) (by decide) rfl (fun ls hl => ?_)
          refine lv_goto (tgt := 24) hx hb dX4_daysToSee_46 (by decide) ?_
          exact ih  (k + 1) (d + (dtc (cv v k c) (sv v (c % 10)))) (by omega) (by omega) (by omega) (by unfold zsum; rw [← ha, if_pos (by omega)]) _ _ hH hS _ (lv_sub hl [2, 3, 4, 1, 0] rfl)
    exact L24 (v 0 + 1) (j + 1) 0 (by omega) (by omega) (by omega) (zsum_zero (fun i hi => if_neg (by omega))).symm _ _ hH hS _ (lv_sub hl [2, 3, 4, 1, 0] rfl)
  · refine lv_ldc (v := nI 1000000) hx hb hE.2.2.2.1 (hE.2.2.2.2.1 _ kcX4_77) dX4_daysToSee_14 ?_
    exact z_iret hE hH hS (by simp [dtSee, h2]) rfl dX4_daysToSee_16
