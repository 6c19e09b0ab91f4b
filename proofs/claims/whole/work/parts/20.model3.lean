/-- the check's nine rows, by what they hold -/
def xs (v : Wv) (A U L K PD SE SH BU : Nat → Int32) : Nat → Nat → Int32 := fun j => match j with
  | 1 => fun i => nI (v i)
  | 2 => A
  | 3 => U
  | 4 => L
  | 5 => K
  | 6 => PD
  | 7 => SE
  | 8 => SH
  | _ => BU
theorem Md.setJ {G : zG} {d j : Nat} {sc : Nat → Int32} {X X2 : Nat → Nat → Int32} {M M1 : Mm} (h : Md G d sc X M) (hj : 1 ≤ j) (e : zArr G (if j = 5 then 3 else 0) M1 (d + j) (mLen j) (X2 j)) (hne : ∀ i, i ≠ j → X2 i = X i) (o : ∀ q : Nat, q ≠ d + j → M1 q = M q) : Md G d sc X2 M1 := by
  refine ⟨by rw [o d (by omega)]; exact h.1, fun i h1 h2 => ?_⟩
  by_cases hij : i = j
  · subst hij; exact e
  · rw [hne i hij]; exact (h.2 i h1 h2).kept (o _ (by omega))
theorem Md.to {G : zG} {d j : Nat} {sc : Nat → Int32} {X X2 : Nat → Nat → Int32} {M : Mm} (h : Md G d sc X M) (e : ∀ i, i < mLen j → X j i = X2 j i) (hne : ∀ i, i ≠ j → X2 i = X i) : Md G d sc X2 M := by
  refine ⟨h.1, fun i h1 h2 => ?_⟩
  by_cases hij : i = j
  · subst hij; exact (h.2 i h1 h2).to e
  · rw [hne i hij]; exact h.2 i h1 h2
section ZG
variable {p : Program} {l : Launch} {e : Env} {R : Room} {s : State} {m : MethodId} {args : Array Value} {below : List Frame} {meth : Method} {c : Code} {H : Heap} {locs : List Loc} {cells slots : Nat} {Q : State → Prop}
variable {cc : ByteArray} {pc tgt : Nat} {off : Int} {ls : Array Slot} {rest : List Value} {a b : Nat}
theorem sub_neg {a b : Nat} (ha : a < 2 ^ 30) (hb : b < 2 ^ 30) (h : a < b) : (nI a - nI b).toInt < 0 := by
  have e : (nI a - nI b).toInt = (a : Int) - (b : Int) := by
    rw [Int32.toInt_sub, nI_toInt (by omega), nI_toInt (by omega)]
    exact Int.bmod_eq_of_le (by omega) (by omega)
  omega
theorem m_if_ge (hx : p.tables.exec = Jvm.exec) (hb : c.code = cc) (ha : a < 2 ^ 30) (hbb : b < 2 ^ 30) (h : a < b) (hdg : decode cc pc = .ok (.ifCond .ge off, 3)) (ht : (pc : Int) + off = (tgt : Int)) (kf : W p l e R s m args below meth c H locs cells slots Q (F0 m (pc + 3) ls rest)) : W p l e R s m args below meth c H locs cells slots Q (F0 m pc ls (.int (nI a - nI b) :: rest)) :=
  lv_if_ge hx hb hdg ht (fun q => absurd (Int32.le_iff_toInt_le.mp q) (by have := sub_neg ha hbb h; rw [Int32.toInt_zero]; omega)) (fun _ => kf)
theorem m_if_gt (hx : p.tables.exec = Jvm.exec) (hb : c.code = cc) (ha : a < 2 ^ 30) (hbb : b < 2 ^ 30) (h : a < b) (hdg : decode cc pc = .ok (.ifCond .gt off, 3)) (ht : (pc : Int) + off = (tgt : Int)) (kf : W p l e R s m args below meth c H locs cells slots Q (F0 m (pc + 3) ls rest)) : W p l e R s m args below meth c H locs cells slots Q (F0 m pc ls (.int (nI a - nI b) :: rest)) :=
  lv_if_gt hx hb hdg ht (fun q => absurd (Int32.lt_iff_toInt_lt.mp q) (by have := sub_neg ha hbb h; rw [Int32.toInt_zero]; omega)) (fun _ => kf)
end ZG

set_option maxHeartbeats 4000000 in
set_option maxRecDepth 100000 in
theorem c_X6_lays (l : Launch) (G : zG) (B0 : Nat) (M : Mm) (d : Nat) (sc : Nat → Int32) (v : Wv) (A U L K PD SE SH BU : Nat → Int32) (hM : Md G d sc (xs v A U L K PD SE SH BU) M) (hv : wOk v) (hBd : B0 ≤ d) (j c x : Nat) (hj : j < 12) (hc : c < 60) : zMet l yX6_lays cX6_lays 4 none 0 0 0 G B0 M [.ref d, .int (nI j), .int (nI c), .int (nI x)] none (fun M1 => Md G d sc (xs (vset v (98 + 60 * j + c) x) A U L K PD SE SH BU) M1 ∧ ∀ q, (q < d ∨ d + 10 ≤ q) → M1 q = M q) := by
  refine z_met RX6 [(0, .ref d), (1, .int (nI j)), (2, .int (nI c)), (3, .int (nI x))] (by decide) rfl (Nat.le_of_ble_eq_true rfl) rfl ?_
  intro pg ev s m below meth cd ls hE hin hB0 hH hl
  have hx := hE.1
  have hb := hE.2.1
  have hn : v 0 ≤ 12 := hv.1
  have hA : zArr G 0 M (d + 1) 818 (fun i => nI (v i)) := hM.s (fun _ _ => rfl)
  have hF : ∀ q, (q < d ∨ d + 10 ≤ q) → M q = M q := fun _ _ => rfl
  refine z_gen B0 (fun H locs hH hS => ?_) hH
  refine lv_aload_n hx hb dX6_lays_0 rfl (lv_at hl 0 rfl) ?_
  refine z_get (T := TX6) (v := .ref (d + 1)) hE hH hM.1 rfl uw_X6 1 (by decide) fkX6_7 rfl dX6_lays_1 ?_
  refine n_bipush hx hb 98 dX6_lays_4 (by decide) ?_
  refine n_bipush hx hb 60 dX6_lays_6 (by decide) ?_
  refine lv_iload_n hx hb dX6_lays_8 rfl (lv_at hl 1 rfl) ?_
  refine n_imul hx hb dX6_lays_9 ?_
  refine n_iadd hx hb dX6_lays_10 ?_
  refine lv_iload_n hx hb dX6_lays_11 rfl (lv_at hl 2 rfl) ?_
  refine n_iadd hx hb dX6_lays_12 ?_
  refine lv_iload_n hx hb dX6_lays_13 rfl (lv_at hl 3 rfl) ?_
  refine z_iast hE hH hS hA (k := (98 + (60 * j)) + c) (by omega) (by decide) (by omega) dX6_lays_14 (fun H locs M3 hH hS e1 o2 => ?_)
  have hM4 : Md G d sc (xs (vset v ((98 + (60 * j)) + c) x) A U L K PD SE SH BU) M3 := Md.setJ (j := 1) hM (by decide) (zArr.to e1 (fun q _ => by show (if q = _ then nI _ else nI _) = nI (fset _ _ _ q); unfold fset; by_cases hq : q = (98 + (60 * j)) + c <;> (first | (simp [hq]; done) | (rw [if_pos hq, if_pos hq]; rfl) | (rw [if_neg hq, if_neg hq]; rfl)))) (fun i hi => by unfold xs; split <;> first | rfl | exact absurd rfl hi) o2
  have hA6 := hM4.s (fun _ _ => rfl)
  have hF7 := fun q hq => (o2 q (by omega)).trans (hF q hq)
  exact z_vret hE hH hS ⟨hM4, hF7⟩ dX6_lays_15

set_option maxHeartbeats 4000000 in
set_option maxRecDepth 100000 in
theorem c_X6_adds (l : Launch) (G : zG) (B0 : Nat) (M : Mm) (d : Nat) (sc : Nat → Int32) (v : Wv) (A U L K PD SE SH BU : Nat → Int32) (hM : Md G d sc (xs v A U L K PD SE SH BU) M) (hv : wOk v) (hBd : B0 ≤ d) (j k x : Nat) (hj : j < 12) (hk : k < 7) : zMet l yX6_adds cX6_adds 4 none 0 0 0 G B0 M [.ref d, .int (nI j), .int (nI k), .int (nI x)] none (fun M1 => Md G d sc (xs (vset v (14 + 7 * j + k) (v (14 + 7 * j + k) + x)) A U L K PD SE SH BU) M1 ∧ ∀ q, (q < d ∨ d + 10 ≤ q) → M1 q = M q) := by
  refine z_met RX6 [(0, .ref d), (1, .int (nI j)), (2, .int (nI k)), (3, .int (nI x))] (by decide) rfl (Nat.le_of_ble_eq_true rfl) rfl ?_
  intro pg ev s m below meth cd ls hE hin hB0 hH hl
  have hx := hE.1
  have hb := hE.2.1
  have hn : v 0 ≤ 12 := hv.1
  have hA : zArr G 0 M (d + 1) 818 (fun i => nI (v i)) := hM.s (fun _ _ => rfl)
  have hF : ∀ q, (q < d ∨ d + 10 ≤ q) → M q = M q := fun _ _ => rfl
  refine z_gen B0 (fun H locs hH hS => ?_) hH
  refine lv_aload_n hx hb dX6_adds_0 rfl (lv_at hl 0 rfl) ?_
  refine z_get (T := TX6) (v := .ref (d + 1)) hE hH hM.1 rfl uw_X6 1 (by decide) fkX6_7 rfl dX6_adds_1 ?_
  refine n_bipush hx hb 14 dX6_adds_4 (by decide) ?_
  refine n_bipush hx hb 7 dX6_adds_6 (by decide) ?_
  refine lv_iload_n hx hb dX6_adds_8 rfl (lv_at hl 1 rfl) ?_
  refine n_imul hx hb dX6_adds_9 ?_
  refine n_iadd hx hb dX6_adds_10 ?_
  refine lv_iload_n hx hb dX6_adds_11 rfl (lv_at hl 2 rfl) ?_
  refine n_iadd hx hb dX6_adds_12 ?_
  refine lv_dup2_11 hx hb dX6_adds_13 rfl rfl ?_
  refine z_iald hE hH hA (k := (14 + (7 * j)) + k) (by omega) (by decide) dX6_adds_14 ?_
  refine lv_iload_n hx hb dX6_adds_15 rfl (lv_at hl 3 rfl) ?_
  refine n_iadd hx hb dX6_adds_16 ?_
  refine z_iast hE hH hS hA (k := (14 + (7 * j)) + k) (by omega) (by decide) (by omega) dX6_adds_17 (fun H locs M3 hH hS e1 o2 => ?_)
  have hM4 : Md G d sc (xs (vset v ((14 + (7 * j)) + k) ((v ((14 + (7 * j)) + k)) + x)) A U L K PD SE SH BU) M3 := Md.setJ (j := 1) hM (by decide) (zArr.to e1 (fun q _ => by show (if q = _ then nI _ else nI _) = nI (fset _ _ _ q); unfold fset; by_cases hq : q = (14 + (7 * j)) + k <;> (first | (simp [hq]; done) | (rw [if_pos hq, if_pos hq]; rfl) | (rw [if_neg hq, if_neg hq]; rfl)))) (fun i hi => by unfold xs; split <;> first | rfl | exact absurd rfl hi) o2
  have hA6 := hM4.s (fun _ _ => rfl)
  have hF7 := fun q hq => (o2 q (by omega)).trans (hF q hq)
  exact z_vret hE hH hS ⟨hM4, hF7⟩ dX6_adds_18

set_option maxHeartbeats 4000000 in
set_option maxRecDepth 100000 in
theorem c_X6_loses (l : Launch) (G : zG) (B0 : Nat) (M : Mm) (d : Nat) (sc : Nat → Int32) (v : Wv) (A U L K PD SE SH BU : Nat → Int32) (hM : Md G d sc (xs v A U L K PD SE SH BU) M) (hv : wOk v) (hBd : B0 ≤ d) (j c b : Nat) (hj : j < v 0) (hc : c < 60) (hb9 : b ≤ 999) : zMet l yX6_loses cX6_loses 5 (some .boolean) 1 0 0 G B0 M [.ref d, .int (nI j), .int (nI c), .int (nI b)] (some (.int (zb (decide (cv v j c ≤ b))))) (fun M1 => Md G d sc (xs (vset v (98 + 60 * j + c) (cv v j c - b)) A U L K PD SE SH BU) M1 ∧ ∀ q, (q < d ∨ d + 10 ≤ q) → M1 q = M q) := by
  refine z_met RX6 [(0, .ref d), (1, .int (nI j)), (2, .int (nI c)), (3, .int (nI b))] (by decide) rfl (Nat.le_of_ble_eq_true rfl) rfl ?_
  intro pg ev s m below meth cd ls hE hin hB0 hH hl
  have hx := hE.1
  have hb := hE.2.1
  have hn : v 0 ≤ 12 := hv.1
  have hA : zArr G 0 M (d + 1) 818 (fun i => nI (v i)) := hM.s (fun _ _ => rfl)
  have hF : ∀ q, (q < d ∨ d + 10 ≤ q) → M q = M q := fun _ _ => rfl
  refine z_gen B0 (fun H locs hH hS => ?_) hH
  refine lv_aload_n hx hb dX6_loses_0 rfl (lv_at hl 0 rfl) ?_
  refine lv_iload_n hx hb dX6_loses_1 rfl (lv_at hl 1 rfl) ?_
  refine lv_iload_n hx hb dX6_loses_2 rfl (lv_at hl 2 rfl) ?_
  refine z_callV (rest := []) (st2 := [.int (nI (cv v j c))]) hE hH hS hB0 hl ca_X6_has mkX6_57 (c_X6_has l G B0 M d sc (xs v A U L K PD SE SH BU) hM v (fun _ _ => rfl) hv j c (by omega) (by omega)) hM.1 rfl rfl rfl rfl rfl ⟨Nat.le_of_ble_eq_true rfl, Nat.le_of_ble_eq_true rfl⟩ (Nat.le_of_ble_eq_true rfl) ⟨Nat.le_refl _, Nat.le_refl _⟩ dX6_loses_3 (fun H locs M1 hH hp hS => ?_)
  subst hp
  have q1 := hv.coat (j := j) (c := c) (by omega) (by omega)
  refine lv_iload_n hx hb dX6_loses_6 rfl (lv_at hl 3 rfl) ?_
  rcases Nat.lt_or_ge (cv v j c) (b) with hlt | hge
  · refine lv_isub hx hb dX6_loses_7 ?_
    refine lv_istore (lv' := [(4, .int (nI (cv v j c) - nI (b))), (0, .ref d), (1, .int (nI j)), (2, .int (nI c)), (3, .int (nI b))]) hx hb dX6_loses_8 hl (by decide) rfl (fun ls hl => ?_)
    refine lv_aload_n hx hb dX6_loses_10 rfl (lv_at hl 1 rfl) ?_
    refine lv_iload_n hx hb dX6_loses_11 rfl (lv_at hl 2 rfl) ?_
    refine lv_iload_n hx hb dX6_loses_12 rfl (lv_at hl 3 rfl) ?_
    refine lv_iload hx hb dX6_loses_13 (lv_at hl 0 rfl) ?_
    refine m_if_ge (tgt := 22) hx hb (by omega) (by omega) hlt dX6_loses_15 (by decide) ?_
    refine n_iconst hx hb 0 dX6_loses_18 (by decide) ?_
    refine lv_goto (tgt := 24) hx hb dX6_loses_19 (by decide) ?_
    refine z_callV (rest := []) (st2 := []) hE hH hS hB0 hl ca_X6_lays mkX6_63 (c_X6_lays l G B0 M d sc v A U L K PD SE SH BU hM hv (by omega) j c 0 (by omega) (by omega)) hM.1 rfl rfl rfl rfl rfl ⟨Nat.le_of_ble_eq_true rfl, Nat.le_of_ble_eq_true rfl⟩ (Nat.le_of_ble_eq_true rfl) ⟨Nat.le_refl _, Nat.le_refl _⟩ dX6_loses_24 (fun H locs M3 hH hp hS => ?_)
    obtain ⟨hM4, hG5⟩ := hp
    have hA7 := hM4.s (fun _ _ => rfl)
    have hF6 := fun q hq => (hG5 q hq).trans (hF q hq)
    refine lv_iload hx hb dX6_loses_27 (lv_at hl 0 rfl) ?_
    refine m_if_gt (tgt := 36) hx hb (by omega) (by omega) hlt dX6_loses_29 (by decide) ?_
    refine n_iconst hx hb 1 dX6_loses_32 (by decide) ?_
    refine lv_goto (tgt := 37) hx hb dX6_loses_33 (by decide) ?_
    exact z_zret hE hH hS (by rw [show decide (cv v j c ≤ b) = true from by simp; omega]; rfl) ⟨by have hz : cv v j c - b = 0 := (by omega); rw [hz]; exact hM4, hF6⟩ dX6_loses_37
  · refine n_isub hx hb (by omega) dX6_loses_7 ?_
    refine lv_istore (lv' := [(4, .int (nI ((cv v j c) - b))), (0, .ref d), (1, .int (nI j)), (2, .int (nI c)), (3, .int (nI b))]) hx hb dX6_loses_8 hl (by decide) rfl (fun ls hl => ?_)
    refine lv_aload_n hx hb dX6_loses_10 rfl (lv_at hl 1 rfl) ?_
    refine lv_iload_n hx hb dX6_loses_11 rfl (lv_at hl 2 rfl) ?_
    refine lv_iload_n hx hb dX6_loses_12 rfl (lv_at hl 3 rfl) ?_
    refine lv_iload hx hb dX6_loses_13 (lv_at hl 0 rfl) ?_
    refine n_if_ge (tgt := 22) hx hb (by omega) dX6_loses_15 (by decide) ?_
    refine lv_iload hx hb dX6_loses_22 (lv_at hl 0 rfl) ?_
    refine z_callV (rest := []) (st2 := []) hE hH hS hB0 hl ca_X6_lays mkX6_63 (c_X6_lays l G B0 M d sc v A U L K PD SE SH BU hM hv (by omega) j c ((cv v j c) - b) (by omega) (by omega)) hM.1 rfl rfl rfl rfl rfl ⟨Nat.le_of_ble_eq_true rfl, Nat.le_of_ble_eq_true rfl⟩ (Nat.le_of_ble_eq_true rfl) ⟨Nat.le_refl _, Nat.le_refl _⟩ dX6_loses_24 (fun H locs M10 hH hp hS => ?_)
    obtain ⟨hM11, hG12⟩ := hp
    have hA14 := hM11.s (fun _ _ => rfl)
    have hF13 := fun q hq => (hG12 q hq).trans (hF q hq)
    refine lv_iload hx hb dX6_loses_27 (lv_at hl 0 rfl) ?_
    refine n_if_gt (tgt := 36) hx hb (by omega) dX6_loses_29 (by decide) (fun h15 => ?_) (fun h15 => ?_)
    · refine n_iconst hx hb 0 dX6_loses_36 (by decide) ?_
      exact z_zret hE hH hS (by rw [show decide (cv v j c ≤ b) = false from by simp; omega]; rfl) ⟨hM11, hF13⟩ dX6_loses_37
    · refine n_iconst hx hb 1 dX6_loses_32 (by decide) ?_
      refine lv_goto (tgt := 37) hx hb dX6_loses_33 (by decide) ?_
      exact z_zret hE hH hS (by rw [show decide (cv v j c ≤ b) = true from by simp; omega]; rfl) ⟨hM11, hF13⟩ dX6_loses_37

set_option maxHeartbeats 4000000 in
set_option maxRecDepth 100000 in
theorem c_X6_laysShown (l : Launch) (G : zG) (B0 : Nat) (M : Mm) (d : Nat) (sc : Nat → Int32) (v : Wv) (A U L K PD SE SH BU : Nat → Int32) (hM : Md G d sc (xs v A U L K PD SE SH BU) M) (hv : wOk v) (hBd : B0 ≤ d) : zMet l yX6_laysShown cX6_laysShown 2 none 4 0 0 G B0 M [.ref d] none (fun M1 => Md G d sc (xs v A U L K PD SE (fun k => oI (prc v (-6) k)) BU) M1 ∧ ∀ q, (q < d ∨ d + 10 ≤ q) → M1 q = M q) := by
  refine z_met RX6 [(0, .ref d)] (by decide) rfl (Nat.le_of_ble_eq_true rfl) rfl ?_
  intro pg ev s m below meth cd ls hE hin hB0 hH hl
  have hx := hE.1
  have hb := hE.2.1
  have hn : v 0 ≤ 12 := hv.1
  have hA : zArr G 0 M (d + 1) 818 (fun i => nI (v i)) := hM.s (fun _ _ => rfl)
  have hF : ∀ q, (q < d ∨ d + 10 ≤ q) → M q = M q := fun _ _ => rfl
  refine z_gen B0 (fun H locs hH hS => ?_) hH
  refine n_iconst hx hb 0 dX6_laysShown_0 (by decide) ?_
  refine lv_istore_n (lv' := [(1, .int (nI 0)), (0, .ref d)]) hx hb dX6_laysShown_1 rfl hl (by decide) rfl (fun ls hl => ?_)
  have L2 : ∀ (dd : Nat) (k : Nat) (f : Nat → Int32) (M1 : Mm), 60 < k + dd → (k ≤ 60) → (Md G d sc (xs v A U L K PD SE f BU) M1) → (∀ q, (q < d ∨ d + 10 ≤ q) → M1 q = M q) → (∀ i, i < k → f i = oI (prc v (-6) i)) → ∀ (H : Heap) (locs : List Loc), zH G M1 H → zS 0 B0 s.heap H locs → ∀ (ls : Array Slot), lv_has ls 2 [(0, .ref d), (1, .int (nI k))] → zW pg l ev 4 0 0 s m [.ref d] below meth cd H locs 0 0 G B0 none (fun M1 => Md G d sc (xs v A U L K PD SE (fun k => oI (prc v (-6) k)) BU) M1 ∧ ∀ q, (q < d ∨ d + 10 ≤ q) → M1 q = M q) (F0 m 2 ls []) := by
    intro dd
    induction dd with
    | zero =>
      intro k f M1 hdd hk hM1 hF1 hf
      exact absurd hdd (by omega)
    | succ dd ih =>
      intro k f M1 hdd hk hM1 hF1 hf H locs hH hS ls hl
      have hA1 : zArr G 0 M1 (d + 1) 818 (fun i => nI (v i)) := hM1.s (fun _ _ => rfl)
      refine lv_iload_n hx hb dX6_laysShown_2 rfl (lv_at hl 1 rfl) ?_
      refine n_bipush hx hb 60 dX6_laysShown_3 (by decide) ?_
      refine n_cmp_ge (tgt := 25) hx hb (by omega) (by decide) dX6_laysShown_5 (by decide) (fun h1 => ?_) (fun h1 => ?_)
      · exact z_vret hE hH hS ⟨hM1.to (j := 8) (fun i hi => hf i (by have : i < 60 := hi; omega)) (fun i hi => by unfold xs; split <;> first | rfl | exact absurd rfl hi), hF1⟩ dX6_laysShown_25
      · refine lv_aload_n hx hb dX6_laysShown_8 rfl (lv_at hl 0 rfl) ?_
        refine z_get (T := TX6) (v := .ref (d + 8)) hE hH hM1.1 rfl uw_X6 10 (by decide) fkX6_32 rfl dX6_laysShown_9 ?_
        refine lv_iload_n hx hb dX6_laysShown_12 rfl (lv_at hl 1 rfl) ?_
        refine lv_aload_n hx hb dX6_laysShown_13 rfl (lv_at hl 0 rfl) ?_
        refine lv_iload_n hx hb dX6_laysShown_14 rfl (lv_at hl 1 rfl) ?_
        refine z_callV (rest := [.int (nI k), .ref (d + 8)]) (st2 := [.int (oI (prc v (-6) k)), .int (nI k), .ref (d + 8)]) hE hH hS hB0 hl ca_X6_priceAt mkX6_74 (c_X6_priceAt l G B0 M1 d sc (xs v A U L K PD SE f BU) hM1 v (fun _ _ => rfl) hv k (by omega)) hM1.1 rfl rfl rfl rfl rfl ⟨Nat.le_of_ble_eq_true rfl, Nat.le_of_ble_eq_true rfl⟩ (Nat.le_of_ble_eq_true rfl) ⟨Nat.le_refl _, Nat.le_refl _⟩ dX6_laysShown_15 (fun H locs M1 hH hp hS => ?_)
        subst hp
        refine z_iast hE hH hS (show zArr G 0 M1 (d + 8) 60 f from hM1.2 8 (by decide) (by decide)) (k := k) (by omega) (by decide) (by omega) dX6_laysShown_18 (fun H locs M4 hH hS e2 o3 => ?_)
        have hM5 : Md G d sc (xs v A U L K PD SE (fun i => if i = k then (oI (prc v (-6) k)) else f i) BU) M4 := Md.setJ (j := 8) hM1 (by decide) e2 (fun i hi => by unfold xs; split <;> first | rfl | exact absurd rfl hi) o3
        have hA6 := hM5.s (fun _ _ => rfl)
        have hF7 := fun q hq => (o3 q (by omega)).trans (hF1 q hq)
        refine lv_iinc (v := (nI (k + 1))) (lv' := [(1, .int (nI (k + 1))), (0, .ref d)]) hx hb dX6_laysShown_19 hl (k := 1) rfl (nI_inc _) (by decide) rfl (fun ls hl => ?_)
        refine lv_goto (tgt := 2) hx hb dX6_laysShown_22 (by decide) ?_
        exact ih  (k + 1) (fun i => if i = k then (oI (prc v (-6) k)) else f i) M4 (by omega) (by omega) hM5 hF7 (fun i hi => by show (if i = k then _ else _) = _; by_cases hik : i = k; (· subst hik; rw [if_pos rfl]); (· rw [if_neg hik]; exact hf i (by omega))) _ _ hH hS _ (lv_sub hl [1, 0] rfl)
  exact L2 61 0 SH M (by omega) (by omega) hM hF (fun i hi => absurd hi (Nat.not_lt_zero i)) _ _ hH hS _ (lv_sub hl [1, 0] rfl)

set_option maxHeartbeats 4000000 in
set_option maxRecDepth 100000 in
theorem c_X6_putAside (l : Launch) (G : zG) (B0 : Nat) (M : Mm) (d : Nat) (sc : Nat → Int32) (v : Wv) (A U L K PD SE SH BU : Nat → Int32) (hM : Md G d sc (xs v A U L K PD SE SH BU) M) (hv : wOk v) (hBd : B0 ≤ d) : zMet l yX6_putAside cX6_putAside 2 none 0 0 0 G B0 M [.ref d] none (fun M1 => Md G d sc (xs v (fun i => nI (v i)) U L K PD SE SH BU) M1 ∧ ∀ q, (q < d ∨ d + 10 ≤ q) → M1 q = M q) := by
  refine z_met RX6 [(0, .ref d)] (by decide) rfl (Nat.le_of_ble_eq_true rfl) rfl ?_
  intro pg ev s m below meth cd ls hE hin hB0 hH hl
  have hx := hE.1
  have hb := hE.2.1
  have hn : v 0 ≤ 12 := hv.1
  have hA : zArr G 0 M (d + 1) 818 (fun i => nI (v i)) := hM.s (fun _ _ => rfl)
  have hF : ∀ q, (q < d ∨ d + 10 ≤ q) → M q = M q := fun _ _ => rfl
  refine z_gen B0 (fun H locs hH hS => ?_) hH
  refine n_iconst hx hb 0 dX6_putAside_0 (by decide) ?_
  refine lv_istore_n (lv' := [(1, .int (nI 0)), (0, .ref d)]) hx hb dX6_putAside_1 rfl hl (by decide) rfl (fun ls hl => ?_)
  have L2 : ∀ (dd : Nat) (k : Nat) (f : Nat → Int32) (M1 : Mm), 818 < k + dd → (k ≤ 818) → (Md G d sc (xs v f U L K PD SE SH BU) M1) → (∀ q, (q < d ∨ d + 10 ≤ q) → M1 q = M q) → (∀ i, i < k → f i = nI (v i)) → ∀ (H : Heap) (locs : List Loc), zH G M1 H → zS 0 B0 s.heap H locs → ∀ (ls : Array Slot), lv_has ls 2 [(0, .ref d), (1, .int (nI k))] → zW pg l ev 0 0 0 s m [.ref d] below meth cd H locs 0 0 G B0 none (fun M1 => Md G d sc (xs v (fun i => nI (v i)) U L K PD SE SH BU) M1 ∧ ∀ q, (q < d ∨ d + 10 ≤ q) → M1 q = M q) (F0 m 2 ls []) := by
    intro dd
    induction dd with
    | zero =>
      intro k f M1 hdd hk hM1 hF1 hf
      exact absurd hdd (by omega)
    | succ dd ih =>
      intro k f M1 hdd hk hM1 hF1 hf H locs hH hS ls hl
      have hA1 : zArr G 0 M1 (d + 1) 818 (fun i => nI (v i)) := hM1.s (fun _ _ => rfl)
      refine lv_iload_n hx hb dX6_putAside_2 rfl (lv_at hl 1 rfl) ?_
      refine n_sipush hx hb 818 dX6_putAside_3 (by decide) ?_
      refine n_cmp_ge (tgt := 27) hx hb (by omega) (by decide) dX6_putAside_6 (by decide) (fun h1 => ?_) (fun h1 => ?_)
      · exact z_vret hE hH hS ⟨hM1.to (j := 2) (fun i hi => hf i (by have : i < 818 := hi; omega)) (fun i hi => by unfold xs; split <;> first | rfl | exact absurd rfl hi), hF1⟩ dX6_putAside_27
      · refine lv_aload_n hx hb dX6_putAside_9 rfl (lv_at hl 0 rfl) ?_
        refine z_get (T := TX6) (v := .ref (d + 2)) hE hH hM1.1 rfl uw_X6 2 (by decide) fkX6_13 rfl dX6_putAside_10 ?_
        refine lv_iload_n hx hb dX6_putAside_13 rfl (lv_at hl 1 rfl) ?_
        refine lv_aload_n hx hb dX6_putAside_14 rfl (lv_at hl 0 rfl) ?_
        refine z_get (T := TX6) (v := .ref (d + 1)) hE hH hM1.1 rfl uw_X6 1 (by decide) fkX6_7 rfl dX6_putAside_15 ?_
        refine lv_iload_n hx hb dX6_putAside_18 rfl (lv_at hl 1 rfl) ?_
        refine z_iald hE hH hA1 (k := k) (by omega) (by decide) dX6_putAside_19 ?_
        refine z_iast hE hH hS (show zArr G 0 M1 (d + 2) 818 f from hM1.2 2 (by decide) (by decide)) (k := k) (by omega) (by decide) (by omega) dX6_putAside_20 (fun H locs M4 hH hS e2 o3 => ?_)
        have hM5 : Md G d sc (xs v (fun i => if i = k then (nI (v (k))) else f i) U L K PD SE SH BU) M4 := Md.setJ (j := 2) hM1 (by decide) e2 (fun i hi => by unfold xs; split <;> first | rfl | exact absurd rfl hi) o3
        have hA6 := hM5.s (fun _ _ => rfl)
        have hF7 := fun q hq => (o3 q (by omega)).trans (hF1 q hq)
        refine lv_iinc (v := (nI (k + 1))) (lv' := [(1, .int (nI (k + 1))), (0, .ref d)]) hx hb dX6_putAside_21 hl (k := 1) rfl (nI_inc _) (by decide) rfl (fun ls hl => ?_)
        refine lv_goto (tgt := 2) hx hb dX6_putAside_24 (by decide) ?_
        exact ih  (k + 1) (fun i => if i = k then (nI (v (k))) else f i) M4 (by omega) (by omega) hM5 hF7 (fun i hi => by show (if i = k then _ else _) = _; by_cases hik : i = k; (· subst hik; rw [if_pos rfl]); (· rw [if_neg hik]; exact hf i (by omega))) _ _ hH hS _ (lv_sub hl [1, 0] rfl)
  exact L2 819 0 A M (by omega) (by omega) hM hF (fun i hi => absurd hi (Nat.not_lt_zero i)) _ _ hH hS _ (lv_sub hl [1, 0] rfl)

set_option maxHeartbeats 4000000 in
set_option maxRecDepth 100000 in
theorem c_X6_takeBack (l : Launch) (G : zG) (B0 : Nat) (M : Mm) (d : Nat) (sc : Nat → Int32) (v v2 : Wv) (U L K PD SE SH BU : Nat → Int32) (hM : Md G d sc (xs v (fun i => nI (v2 i)) U L K PD SE SH BU) M) (hBd : B0 ≤ d) : zMet l yX6_takeBack cX6_takeBack 2 none 0 0 0 G B0 M [.ref d] none (fun M1 => Md G d sc (xs v2 (fun i => nI (v2 i)) U L K PD SE SH BU) M1 ∧ ∀ q, (q < d ∨ d + 10 ≤ q) → M1 q = M q) := by
  refine z_met RX6 [(0, .ref d)] (by decide) rfl (Nat.le_of_ble_eq_true rfl) rfl ?_
  intro pg ev s m below meth cd ls hE hin hB0 hH hl
  have hx := hE.1
  have hb := hE.2.1
  have hA : zArr G 0 M (d + 1) 818 (fun i => nI (v i)) := hM.s (fun _ _ => rfl)
  have hF : ∀ q, (q < d ∨ d + 10 ≤ q) → M q = M q := fun _ _ => rfl
  refine z_gen B0 (fun H locs hH hS => ?_) hH
  refine n_iconst hx hb 0 dX6_takeBack_0 (by decide) ?_
  refine lv_istore_n (lv' := [(1, .int (nI 0)), (0, .ref d)]) hx hb dX6_takeBack_1 rfl hl (by decide) rfl (fun ls hl => ?_)
  have L2 : ∀ (dd : Nat) (k : Nat) (u : Wv) (M1 : Mm), 818 < k + dd → (k ≤ 818) → (Md G d sc (xs u (fun i => nI (v2 i)) U L K PD SE SH BU) M1) → (∀ q, (q < d ∨ d + 10 ≤ q) → M1 q = M q) → (∀ i, i < k → u i = v2 i) → ∀ (H : Heap) (locs : List Loc), zH G M1 H → zS 0 B0 s.heap H locs → ∀ (ls : Array Slot), lv_has ls 2 [(0, .ref d), (1, .int (nI k))] → zW pg l ev 0 0 0 s m [.ref d] below meth cd H locs 0 0 G B0 none (fun M1 => Md G d sc (xs v2 (fun i => nI (v2 i)) U L K PD SE SH BU) M1 ∧ ∀ q, (q < d ∨ d + 10 ≤ q) → M1 q = M q) (F0 m 2 ls []) := by
    intro dd
    induction dd with
    | zero =>
      intro k u M1 hdd hk hM1 hF1 hf
      exact absurd hdd (by omega)
    | succ dd ih =>
      intro k u M1 hdd hk hM1 hF1 hf H locs hH hS ls hl
      have hA1 : zArr G 0 M1 (d + 1) 818 (fun i => nI (u i)) := hM1.s (fun _ _ => rfl)
      refine lv_iload_n hx hb dX6_takeBack_2 rfl (lv_at hl 1 rfl) ?_
      refine n_sipush hx hb 818 dX6_takeBack_3 (by decide) ?_
      refine n_cmp_ge (tgt := 27) hx hb (by omega) (by decide) dX6_takeBack_6 (by decide) (fun h1 => ?_) (fun h1 => ?_)
      · exact z_vret hE hH hS ⟨hM1.to (j := 1) (fun i hi => congrArg nI (hf i (by have : i < 818 := hi; omega))) (fun i hi => by unfold xs; split <;> first | rfl | exact absurd rfl hi), hF1⟩ dX6_takeBack_27
      · refine lv_aload_n hx hb dX6_takeBack_9 rfl (lv_at hl 0 rfl) ?_
        refine z_get (T := TX6) (v := .ref (d + 1)) hE hH hM1.1 rfl uw_X6 1 (by decide) fkX6_7 rfl dX6_takeBack_10 ?_
        refine lv_iload_n hx hb dX6_takeBack_13 rfl (lv_at hl 1 rfl) ?_
        refine lv_aload_n hx hb dX6_takeBack_14 rfl (lv_at hl 0 rfl) ?_
        refine z_get (T := TX6) (v := .ref (d + 2)) hE hH hM1.1 rfl uw_X6 2 (by decide) fkX6_13 rfl dX6_takeBack_15 ?_
        refine lv_iload_n hx hb dX6_takeBack_18 rfl (lv_at hl 1 rfl) ?_
        refine z_iald hE hH (show zArr G 0 M1 (d + 2) 818 (fun i => nI (v2 i)) from hM1.2 2 (by decide) (by decide)) (k := k) (by omega) (by decide) dX6_takeBack_19 ?_
        refine z_iast hE hH hS hA1 (k := k) (by omega) (by decide) (by omega) dX6_takeBack_20 (fun H locs M4 hH hS e2 o3 => ?_)
        have hM5 : Md G d sc (xs (vset u (k) (v2 k)) (fun i => nI (v2 i)) U L K PD SE SH BU) M4 := Md.setJ (j := 1) hM1 (by decide) (zArr.to e2 (fun q _ => by show (if q = _ then nI _ else nI _) = nI (fset _ _ _ q); unfold fset; by_cases hq : q = k <;> (first | (simp [hq]; done) | (rw [if_pos hq, if_pos hq]; rfl) | (rw [if_neg hq, if_neg hq]; rfl)))) (fun i hi => by unfold xs; split <;> first | rfl | exact absurd rfl hi) o3
        have hA7 := hM5.s (fun _ _ => rfl)
        have hF8 := fun q hq => (o3 q (by omega)).trans (hF1 q hq)
        refine lv_iinc (v := (nI (k + 1))) (lv' := [(1, .int (nI (k + 1))), (0, .ref d)]) hx hb dX6_takeBack_21 hl (k := 1) rfl (nI_inc _) (by decide) rfl (fun ls hl => ?_)
        refine lv_goto (tgt := 2) hx hb dX6_takeBack_24 (by decide) ?_
        exact ih  (k + 1) (vset u (k) (v2 k)) M4 (by omega) (by omega) hM5 hF8 (fun i hi => by show fset u _ _ i = _; unfold fset; by_cases hik : i = k; (· subst hik; rw [if_pos rfl]); (· rw [if_neg hik]; exact hf i (by omega))) _ _ hH hS _ (lv_sub hl [1, 0] rfl)
  exact L2 819 0 v M (by omega) (by omega) hM hF (fun i hi => absurd hi (Nat.not_lt_zero i)) _ _ hH hS _ (lv_sub hl [1, 0] rfl)
