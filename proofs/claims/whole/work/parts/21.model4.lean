/-- a day, cell after cell: k cells are through -/
def dayV (v : Wv) : Nat → Wv
  | 0 => v
  | k + 1 => (seen v (-6) k).elim (dayV v k) (fun j => vset (dayV v k) (98 + 60 * j + k) (cv (dayV v k) j k - sv (dayV v k) (k % 10)))
def dayC (v : Wv) (k : Nat) : Bool := (seen v (-6) k).elim false (fun j => decide (cv (dayV v k) j k ≤ sv (dayV v k) (k % 10)))
def dayW (v : Wv) : Wv := vset (dayV v 60) 1 (dayV v 60 1 + 1)
def dayN (v : Wv) : Nat := zcnt (dayC v) 60
theorem dayV_none {v : Wv} {k : Nat} (h : seen v (-6) k = none) : dayV v (k + 1) = dayV v k := by
  show (seen v (-6) k).elim _ _ = _
  rw [h]; rfl
theorem dayV_some {v : Wv} {k j : Nat} (h : seen v (-6) k = some j) : dayV v (k + 1) = vset (dayV v k) (98 + 60 * j + k) (cv (dayV v k) j k - sv (dayV v k) (k % 10)) := by
  show (seen v (-6) k).elim _ _ = _
  rw [h]; rfl
theorem dayC_none {v : Wv} {k : Nat} (h : seen v (-6) k = none) : dayC v k = false := by
  unfold dayC; rw [h]; rfl
theorem dayC_some {v : Wv} {k j : Nat} (h : seen v (-6) k = some j) : dayC v k = decide (cv (dayV v k) j k ≤ sv (dayV v k) (k % 10)) := by
  unfold dayC; rw [h]; rfl
theorem dayV_ok {v : Wv} (hv : wOk v) : ∀ k, k ≤ 60 → wOk (dayV v k) ∧ ∀ u, u < 14 → dayV v k u = v u
  | 0, _ => ⟨hv, fun _ _ => rfl⟩
  | k + 1, hk => by
    have hi := dayV_ok hv k (by omega)
    cases hs : seen v (-6) k with
    | none => rw [dayV_none hs]; exact hi
    | some j =>
      rw [dayV_some hs]
      have hj := seen_lt hs
      exact ⟨hi.1.decC (by rw [hi.2 0 (by decide)]; exact hj) (by omega) (Nat.sub_le _ _), fun u hu => (v0_setC _ _ hu).trans (hi.2 u hu)⟩
theorem dayW_ok {v : Wv} (hv : wOk v) (hd : v 1 < 10500) : wOk (dayW v) ∧ dayW v 0 = v 0 ∧ dayW v 1 = v 1 + 1 := by
  have h := dayV_ok hv 60 (Nat.le_refl _)
  have h1 := h.2 1 (by decide)
  refine ⟨h.1.setDay (by omega), (fset_ne _ _ (by decide)).trans (h.2 0 (by decide)), ?_⟩
  show fset _ 1 _ 1 = _
  rw [fset_self, h1]
def dysV (v : Wv) : Nat → Wv
  | 0 => v
  | k + 1 => dayW (dysV v k)
def dysN (v : Wv) : Nat → Nat
  | 0 => 0
  | k + 1 => dysN v k + dayN (dysV v k)
theorem dysV_ok {v : Wv} (hv : wOk v) : ∀ k, v 1 + k ≤ 10500 → wOk (dysV v k) ∧ dysV v k 0 = v 0 ∧ dysV v k 1 = v 1 + k
  | 0, _ => ⟨hv, rfl, rfl⟩
  | k + 1, hk => by
    obtain ⟨h1, h2, h3⟩ := dysV_ok hv k (by omega)
    obtain ⟨h4, h5, h6⟩ := dayW_ok h1 (by omega)
    exact ⟨h4, h5.trans h2, by show dayW _ 1 = _; rw [h6, h3]; omega⟩

set_option maxHeartbeats 4000000 in
set_option maxRecDepth 100000 in
theorem c_X6_day (l : Launch) (G : zG) (B0 : Nat) (M : Mm) (d : Nat) (sc : Nat → Int32) (v : Wv) (A U L K PD SE SH BU : Nat → Int32) (hM : Md G d sc (xs v A U L K PD SE SH BU) M) (hv : wOk v) (hBd : B0 ≤ d) : zMet l yX6_day cX6_day 3 (some .int) 3 0 0 G B0 M [.ref d] (some (.int (nI (dayN v)))) (fun M1 => Md G d sc (xs (dayW v) A U L K PD (fun k => oI (seen v (-6) k)) SH BU) M1 ∧ ∀ q, (q < d ∨ d + 10 ≤ q) → M1 q = M q) := by
  refine z_met RX6 [(0, .ref d)] (by decide) rfl (Nat.le_of_ble_eq_true rfl) rfl ?_
  intro pg ev s m below meth cd ls hE hin hB0 hH hl
  have hx := hE.1
  have hb := hE.2.1
  have hn : v 0 ≤ 12 := hv.1
  have hA : zArr G 0 M (d + 1) 818 (fun i => nI (v i)) := hM.s (fun _ _ => rfl)
  have hF : ∀ q, (q < d ∨ d + 10 ≤ q) → M q = M q := fun _ _ => rfl
  have hv0 := hv
  refine z_gen B0 (fun H locs hH hS => ?_) hH
  refine n_iconst hx hb 0 dX6_day_0 (by decide) ?_
  refine lv_istore_n (lv' := [(1, .int (nI 0)), (0, .ref d)]) hx hb dX6_day_1 rfl hl (by decide) rfl (fun ls hl => ?_)
  refine n_iconst hx hb 0 dX6_day_2 (by decide) ?_
  refine lv_istore_n (lv' := [(2, .int (nI 0)), (1, .int (nI 0)), (0, .ref d)]) hx hb dX6_day_3 rfl hl (by decide) rfl (fun ls hl => ?_)
  have L4 : ∀ (dd : Nat) (k : Nat) (f : Nat → Int32) (M1 : Mm), 60 < k + dd → (k ≤ 60) → (Md G d sc (xs v A U L K PD f SH BU) M1) → (∀ q, (q < d ∨ d + 10 ≤ q) → M1 q = M q) → (∀ i, i < k → f i = oI (seen v (-6) i)) → ∀ (H : Heap) (locs : List Loc), zH G M1 H → zS 0 B0 s.heap H locs → ∀ (ls : Array Slot), lv_has ls 3 [(0, .ref d), (1, .int (nI 0)), (2, .int (nI k))] → zW pg l ev 3 0 0 s m [.ref d] below meth cd H locs 0 0 G B0 (some (.int (nI (dayN v)))) (fun M1 => Md G d sc (xs (dayW v) A U L K PD (fun k => oI (seen v (-6) k)) SH BU) M1 ∧ ∀ q, (q < d ∨ d + 10 ≤ q) → M1 q = M q) (F0 m 4 ls []) := by
    intro dd
    induction dd with
    | zero =>
      intro k f M1 hdd hk hM1 hF1 hf
      exact absurd hdd (by omega)
    | succ dd ih =>
      intro k f M1 hdd hk hM1 hF1 hf H locs hH hS ls hl
      have hA1 : zArr G 0 M1 (d + 1) 818 (fun i => nI (v i)) := hM1.s (fun _ _ => rfl)
      refine lv_iload_n hx hb dX6_day_4 rfl (lv_at hl 2 rfl) ?_
      refine n_bipush hx hb 60 dX6_day_5 (by decide) ?_
      refine n_cmp_ge (tgt := 29) hx hb (by omega) (by decide) dX6_day_7 (by decide) (fun h1 => ?_) (fun h1 => ?_)
      · have hM2 : Md G d sc (xs v A U L K PD (fun k => oI (seen v (-6) k)) SH BU) M1 := hM1.to (j := 7) (fun i hi => hf i (by have : i < 60 := hi; omega)) (fun i hi => by unfold xs; split <;> first | rfl | exact absurd rfl hi)
        refine n_iconst hx hb 0 dX6_day_29 (by decide) ?_
        refine lv_istore_n (lv' := [(2, .int (nI 0)), (0, .ref d), (1, .int (nI 0))]) hx hb dX6_day_30 rfl hl (by decide) rfl (fun ls hl => ?_)
        have L31 : ∀ (dd31 : Nat) (k : Nat) (a : Nat) (u : Wv) (M2 : Mm), 60 < k + dd31 → (k ≤ 60) → (Md G d sc (xs u A U L K PD (fun k => oI (seen v (-6) k)) SH BU) M2) → (∀ q, (q < d ∨ d + 10 ≤ q) → M2 q = M q) → (u = dayV v k) → (a = zcnt (dayC v) k) → ∀ (H : Heap) (locs : List Loc), zH G M2 H → zS 0 B0 s.heap H locs → ∀ (ls : Array Slot), lv_has ls 3 [(0, .ref d), (1, .int (nI a)), (2, .int (nI k))] → zW pg l ev 3 0 0 s m [.ref d] below meth cd H locs 0 0 G B0 (some (.int (nI (dayN v)))) (fun M1 => Md G d sc (xs (dayW v) A U L K PD (fun k => oI (seen v (-6) k)) SH BU) M1 ∧ ∀ q, (q < d ∨ d + 10 ≤ q) → M1 q = M q) (F0 m 31 ls []) := by
          intro dd31
          induction dd31 with
          | zero =>
            intro k a u M2 hdd31 hk hM3 hF2 hu ha
            exact absurd hdd31 (by omega)
          | succ dd31 ih31 =>
            intro k a u M2 hdd31 hk hM3 hF2 hu ha H locs hH hS ls hl
            have hA2 : zArr G 0 M2 (d + 1) 818 (fun i => nI (u i)) := hM3.s (fun _ _ => rfl)
            have hvu : wOk u := by rw [hu]; exact (dayV_ok hv0 k hk).1
            have hu0 : u 0 = v 0 := by rw [hu]; exact (dayV_ok hv0 k hk).2 0 (by decide)
            refine lv_iload_n hx hb dX6_day_31 rfl (lv_at hl 2 rfl) ?_
            refine n_bipush hx hb 60 dX6_day_32 (by decide) ?_
            refine n_cmp_ge (tgt := 87) hx hb (by omega) (by decide) dX6_day_34 (by decide) (fun h2 => ?_) (fun h2 => ?_)
            · refine lv_aload_n hx hb dX6_day_87 rfl (lv_at hl 0 rfl) ?_
              refine z_get (T := TX6) (v := .ref (d + 1)) hE hH hM3.1 rfl uw_X6 1 (by decide) fkX6_7 rfl dX6_day_88 ?_
              refine n_iconst hx hb 1 dX6_day_91 (by decide) ?_
              refine lv_dup2_11 hx hb dX6_day_92 rfl rfl ?_
              refine z_iald hE hH hA2 (k := 1) (by omega) (by decide) dX6_day_93 ?_
              refine n_iconst hx hb 1 dX6_day_94 (by decide) ?_
              refine n_iadd hx hb dX6_day_95 ?_
              refine z_iast hE hH hS hA2 (k := 1) (by omega) (by decide) (by omega) dX6_day_96 (fun H locs M5 hH hS e3 o4 => ?_)
              have hM6 : Md G d sc (xs (vset u (1) ((u (1)) + 1)) A U L K PD (fun k => oI (seen v (-6) k)) SH BU) M5 := Md.setJ (j := 1) hM3 (by decide) (zArr.to e3 (fun q _ => by show (if q = _ then nI _ else nI _) = nI (fset _ _ _ q); unfold fset; by_cases hq : q = 1 <;> (first | (simp [hq]; done) | (rw [if_pos hq, if_pos hq]; rfl) | (rw [if_neg hq, if_neg hq]; rfl)))) (fun i hi => by unfold xs; split <;> first | rfl | exact absurd rfl hi) o4
              have hA8 := hM6.s (fun _ _ => rfl)
              have hF9 := fun q hq => (o4 q (by omega)).trans (hF2 q hq)
              refine lv_iload_n hx hb dX6_day_97 rfl (lv_at hl 1 rfl) ?_
              exact z_iret hE hH hS (by have hkk : k = 60 := (by omega); subst hkk; rw [ha]; first | done | rfl) ⟨by have hkk : k = 60 := (by omega); subst hkk; unfold dayW; rw [← hu]; exact hM6, hF9⟩ dX6_day_98
            · refine lv_iload_n hx hb dX6_day_37 rfl (lv_at hl 1 rfl) ?_
              refine lv_aload_n hx hb dX6_day_38 rfl (lv_at hl 0 rfl) ?_
              refine z_get (T := TX6) (v := .ref (d + 7)) hE hH hM3.1 rfl uw_X6 9 (by decide) fkX6_29 rfl dX6_day_39 ?_
              refine lv_iload_n hx hb dX6_day_42 rfl (lv_at hl 2 rfl) ?_
              refine z_iald hE hH (show zArr G 0 M2 (d + 7) 60 (fun k => oI (seen v (-6) k)) from hM3.2 7 (by decide) (by decide)) (k := k) (by omega) (by decide) dX6_day_43 ?_
              refine lv_bipush (v := (-6)) hx hb dX6_day_44 (by decide) ?_
              refine o_cmp_eq (tgt := 78) hx hb (seen_ob hv0) dX6_day_46 (by decide) (fun h10 => ?_) (fun j11 h10 => ?_)
              · refine n_iconst hx hb 0 dX6_day_78 (by decide) ?_
                refine n_iadd hx hb dX6_day_79 ?_
                refine lv_istore_n (lv' := [(1, .int (nI (a + 0))), (0, .ref d), (2, .int (nI k))]) hx hb dX6_day_80 rfl hl (by decide) rfl (fun ls hl => ?_)
                refine lv_iinc (v := (nI (k + 1))) (lv' := [(2, .int (nI (k + 1))), (1, .int (nI (a + 0))), (0, .ref d)]) hx hb dX6_day_81 hl (k := 2) rfl (nI_inc _) (by decide) rfl (fun ls hl => ?_)
                refine lv_goto (tgt := 31) hx hb dX6_day_84 (by decide) ?_
                exact ih31  (k + 1) (a + 0) u M2 (by omega) (by omega) hM3 hF2 (by rw [dayV_none h10]; exact hu) (by unfold zcnt; rw [dayC_none h10, ← ha]; rfl) _ _ hH hS _ (lv_sub hl [2, 1, 0] rfl)
              · replace hl : lv_has ls 3 [(0, .ref d), (1, .int (nI a)), (2, .int (nI k))] := hl
                have j11_lt := seen_lt h10
                have hsun : u (4 + k % 10) ≤ 9 := hvu.2.2.1 (k % 10) (by omega)
                refine lv_aload_n hx hb dX6_day_49 rfl (lv_at hl 0 rfl) ?_
                refine lv_aload_n hx hb dX6_day_50 rfl (lv_at hl 0 rfl) ?_
                refine z_get (T := TX6) (v := .ref (d + 7)) hE hH hM3.1 rfl uw_X6 9 (by decide) fkX6_29 rfl dX6_day_51 ?_
                refine lv_iload_n hx hb dX6_day_54 rfl (lv_at hl 2 rfl) ?_
                refine z_iald hE hH (show zArr G 0 M2 (d + 7) 60 (fun k => oI (seen v (-6) k)) from hM3.2 7 (by decide) (by decide)) (k := k) (by omega) (by decide) dX6_day_55 ?_
                refine z_topeq (show oI (seen v (-6) k) = nI j11 from by rw [h10]; rfl) ?_
                refine lv_iload_n hx hb dX6_day_56 rfl (lv_at hl 2 rfl) ?_
                refine lv_aload_n hx hb dX6_day_57 rfl (lv_at hl 0 rfl) ?_
                refine z_get (T := TX6) (v := .ref (d + 1)) hE hH hM3.1 rfl uw_X6 1 (by decide) fkX6_7 rfl dX6_day_58 ?_
                refine n_iconst hx hb 4 dX6_day_61 (by decide) ?_
                refine lv_iload_n hx hb dX6_day_62 rfl (lv_at hl 2 rfl) ?_
                refine n_bipush hx hb 10 dX6_day_63 (by decide) ?_
                refine n_irem hx hb (by omega) (by decide) (by decide) dX6_day_65 ?_
                refine n_iadd hx hb dX6_day_66 ?_
                refine z_iald hE hH hA2 (k := 4 + (k % 10)) (by omega) (by decide) dX6_day_67 ?_
                refine z_callV (rest := [.int (nI a)]) (st2 := [.int (zb (decide (cv u j11 k ≤ (u (4 + (k % 10)))))), .int (nI a)]) hE hH hS hB0 hl ca_X6_loses mkX6_67 (c_X6_loses l G B0 M2 d sc u A U L K PD (fun k => oI (seen v (-6) k)) SH BU hM3 hvu (by omega) j11 k (u (4 + (k % 10))) (by omega) (by omega) (by omega)) hM3.1 rfl rfl rfl rfl rfl ⟨Nat.le_of_ble_eq_true rfl, Nat.le_of_ble_eq_true rfl⟩ (Nat.le_of_ble_eq_true rfl) ⟨Nat.le_refl _, Nat.le_refl _⟩ dX6_day_68 (fun H locs M12 hH hp hS => ?_)
                obtain ⟨hM13, hG14⟩ := hp
                have hv16 : wOk (vset u (98 + 60 * j11 + k) (cv u j11 k - (u (4 + (k % 10))))) := hvu.decC (by omega) (by omega) (Nat.sub_le _ _)
                have hA17 := hM13.s (fun _ _ => rfl)
                have hF15 := fun q hq => (hG14 q hq).trans (hF2 q hq)
                refine b_if_eq (tgt := 78) hx hb dX6_day_71 (by decide) (fun h18 => ?_) (fun h18 => ?_)
                · refine n_iconst hx hb 0 dX6_day_78 (by decide) ?_
                  refine n_iadd hx hb dX6_day_79 ?_
                  refine lv_istore_n (lv' := [(1, .int (nI (a + 0))), (0, .ref d), (2, .int (nI k))]) hx hb dX6_day_80 rfl hl (by decide) rfl (fun ls hl => ?_)
                  refine lv_iinc (v := (nI (k + 1))) (lv' := [(2, .int (nI (k + 1))), (1, .int (nI (a + 0))), (0, .ref d)]) hx hb dX6_day_81 hl (k := 2) rfl (nI_inc _) (by decide) rfl (fun ls hl => ?_)
                  refine lv_goto (tgt := 31) hx hb dX6_day_84 (by decide) ?_
                  exact ih31  (k + 1) (a + 0) (vset u (98 + 60 * j11 + k) (cv u j11 k - (u (4 + (k % 10))))) M12 (by omega) (by omega) hM13 hF15 (by rw [dayV_some h10, ← hu]; rfl) (by unfold zcnt; rw [dayC_some h10, ← ha, ← hu, show decide (cv u j11 k ≤ sv u (k % 10)) = false from h18]; rfl) _ _ hH hS _ (lv_sub hl [2, 1, 0] rfl)
                · refine n_iconst hx hb 1 dX6_day_74 (by decide) ?_
                  refine lv_goto (tgt := 79) hx hb dX6_day_75 (by decide) ?_
                  refine n_iadd hx hb dX6_day_79 ?_
                  refine lv_istore_n (lv' := [(1, .int (nI (a + 1))), (0, .ref d), (2, .int (nI k))]) hx hb dX6_day_80 rfl hl (by decide) rfl (fun ls hl => ?_)
                  refine lv_iinc (v := (nI (k + 1))) (lv' := [(2, .int (nI (k + 1))), (1, .int (nI (a + 1))), (0, .ref d)]) hx hb dX6_day_81 hl (k := 2) rfl (nI_inc _) (by decide) rfl (fun ls hl => ?_)
                  refine lv_goto (tgt := 31) hx hb dX6_day_84 (by decide) ?_
                  exact ih31  (k + 1) (a + 1) (vset u (98 + 60 * j11 + k) (cv u j11 k - (u (4 + (k % 10))))) M12 (by omega) (by omega) hM13 hF15 (by rw [dayV_some h10, ← hu]; rfl) (by unfold zcnt; rw [dayC_some h10, ← ha, ← hu, show decide (cv u j11 k ≤ sv u (k % 10)) = true from h18]; rfl) _ _ hH hS _ (lv_sub hl [2, 1, 0] rfl)
        exact L31 61 0 0 v M1 (by omega) (by omega) hM2 hF1 rfl rfl _ _ hH hS _ (lv_sub hl [1, 2, 0] rfl)
      · refine lv_aload_n hx hb dX6_day_10 rfl (lv_at hl 0 rfl) ?_
        refine z_get (T := TX6) (v := .ref (d + 7)) hE hH hM1.1 rfl uw_X6 9 (by decide) fkX6_29 rfl dX6_day_11 ?_
        refine lv_iload_n hx hb dX6_day_14 rfl (lv_at hl 2 rfl) ?_
        refine lv_aload_n hx hb dX6_day_15 rfl (lv_at hl 0 rfl) ?_
        refine lv_iload_n hx hb dX6_day_16 rfl (lv_at hl 2 rfl) ?_
        refine lv_bipush (v := (-6)) hx hb dX6_day_17 (by decide) ?_
        refine z_callV (rest := [.int (nI k), .ref (d + 7)]) (st2 := [.int (oI (seen v (-6) k)), .int (nI k), .ref (d + 7)]) hE hH hS hB0 hl ca_X6_seenAt mkX6_60 (c_X6_seenAt l G B0 M1 d sc (xs v A U L K PD f SH BU) hM1 v (fun _ _ => rfl) hv k (-6) (by omega)) hM1.1 rfl rfl rfl rfl rfl ⟨Nat.le_of_ble_eq_true rfl, Nat.le_of_ble_eq_true rfl⟩ (Nat.le_of_ble_eq_true rfl) ⟨Nat.le_refl _, Nat.le_refl _⟩ dX6_day_19 (fun H locs M1 hH hp hS => ?_)
        subst hp
        refine z_iast hE hH hS (show zArr G 0 M1 (d + 7) 60 f from hM1.2 7 (by decide) (by decide)) (k := k) (by omega) (by decide) (by omega) dX6_day_22 (fun H locs M21 hH hS e19 o20 => ?_)
        have hM22 : Md G d sc (xs v A U L K PD (fun i => if i = k then (oI (seen v (-6) k)) else f i) SH BU) M21 := Md.setJ (j := 7) hM1 (by decide) e19 (fun i hi => by unfold xs; split <;> first | rfl | exact absurd rfl hi) o20
        have hA23 := hM22.s (fun _ _ => rfl)
        have hF24 := fun q hq => (o20 q (by omega)).trans (hF1 q hq)
        refine lv_iinc (v := (nI (k + 1))) (lv' := [(2, .int (nI (k + 1))), (0, .ref d), (1, .int (nI 0))]) hx hb dX6_day_23 hl (k := 2) rfl (nI_inc _) (by decide) rfl (fun ls hl => ?_)
        refine lv_goto (tgt := 4) hx hb dX6_day_26 (by decide) ?_
        exact ih  (k + 1) (fun i => if i = k then (oI (seen v (-6) k)) else f i) M21 (by omega) (by omega) hM22 hF24 (fun i hi => by show (if i = k then _ else _) = _; by_cases hik : i = k; (· subst hik; rw [if_pos rfl]); (· rw [if_neg hik]; exact hf i (by omega))) _ _ hH hS _ (lv_sub hl [1, 2, 0] rfl)
  exact L4 61 0 SE M (by omega) (by omega) hM hF (fun i hi => absurd hi (Nat.not_lt_zero i)) _ _ hH hS _ (lv_sub hl [2, 1, 0] rfl)

theorem dayN_le (v : Wv) : dayN v ≤ 60 := zcnt_le _ _

set_option maxHeartbeats 4000000 in
set_option maxRecDepth 100000 in
theorem c_X6_days (l : Launch) (G : zG) (B0 : Nat) (M : Mm) (d : Nat) (sc : Nat → Int32) (v : Wv) (A U L K PD SE SH BU : Nat → Int32) (hM : Md G d sc (xs v A U L K PD SE SH BU) M) (hv : wOk v) (hBd : B0 ≤ d) (n : Nat) (hn3 : n ≤ 300) (hdy : v 1 + n ≤ 10500) : zMet l yX6_days cX6_days 4 (some .int) 4 0 0 G B0 M [.ref d, .int (nI n)] (some (.int (nI (dysN v n)))) (fun M1 => ∃ SE1, Md G d sc (xs (dysV v n) A U L K PD SE1 SH BU) M1 ∧ ∀ q, (q < d ∨ d + 10 ≤ q) → M1 q = M q) := by
  refine z_met RX6 [(0, .ref d), (1, .int (nI n))] (by decide) rfl (Nat.le_of_ble_eq_true rfl) rfl ?_
  intro pg ev s m below meth cd ls hE hin hB0 hH hl
  have hx := hE.1
  have hb := hE.2.1
  have hn : v 0 ≤ 12 := hv.1
  have hA : zArr G 0 M (d + 1) 818 (fun i => nI (v i)) := hM.s (fun _ _ => rfl)
  have hF : ∀ q, (q < d ∨ d + 10 ≤ q) → M q = M q := fun _ _ => rfl
  refine z_gen B0 (fun H locs hH hS => ?_) hH
  refine n_iconst hx hb 0 dX6_days_0 (by decide) ?_
  refine lv_istore_n (lv' := [(2, .int (nI 0)), (0, .ref d), (1, .int (nI n))]) hx hb dX6_days_1 rfl hl (by decide) rfl (fun ls hl => ?_)
  refine n_iconst hx hb 0 dX6_days_2 (by decide) ?_
  refine lv_istore_n (lv' := [(3, .int (nI 0)), (2, .int (nI 0)), (0, .ref d), (1, .int (nI n))]) hx hb dX6_days_3 rfl hl (by decide) rfl (fun ls hl => ?_)
  have L4 : ∀ (dd : Nat) (k : Nat) (a : Nat) (u : Wv) (SE1 : Nat → Int32) (M1 : Mm), n < k + dd → (k ≤ n) → (Md G d sc (xs u A U L K PD SE1 SH BU) M1) → (∀ q, (q < d ∨ d + 10 ≤ q) → M1 q = M q) → (u = dysV v k) → (a = dysN v k) → (a ≤ 60 * k) → ∀ (H : Heap) (locs : List Loc), zH G M1 H → zS 0 B0 s.heap H locs → ∀ (ls : Array Slot), lv_has ls 4 [(0, .ref d), (1, .int (nI n)), (2, .int (nI a)), (3, .int (nI k))] → zW pg l ev 4 0 0 s m [.ref d, .int (nI n)] below meth cd H locs 0 0 G B0 (some (.int (nI (dysN v n)))) (fun M1 => ∃ SE1, Md G d sc (xs (dysV v n) A U L K PD SE1 SH BU) M1 ∧ ∀ q, (q < d ∨ d + 10 ≤ q) → M1 q = M q) (F0 m 4 ls []) := by
    intro dd
    induction dd with
    | zero =>
      intro k a u SE1 M1 hdd hk hM1 hF1 hu ha ha9
      exact absurd hdd (by omega)
    | succ dd ih =>
      intro k a u SE1 M1 hdd hk hM1 hF1 hu ha ha9 H locs hH hS ls hl
      have hA1 : zArr G 0 M1 (d + 1) 818 (fun i => nI (u i)) := hM1.s (fun _ _ => rfl)
      have hq := dysV_ok hv k (by omega)
      rw [← hu] at hq
      have hvu : wOk u := hq.1
      have hu1 := hq.2.2
      refine lv_iload_n hx hb dX6_days_4 rfl (lv_at hl 3 rfl) ?_
      refine lv_iload_n hx hb dX6_days_5 rfl (lv_at hl 1 rfl) ?_
      refine n_cmp_ge (tgt := 22) hx hb (by omega) (by omega) dX6_days_6 (by decide) (fun h1 => ?_) (fun h1 => ?_)
      · refine lv_iload_n hx hb dX6_days_22 rfl (lv_at hl 2 rfl) ?_
        exact z_iret hE hH hS (by have hkk : k = n := (by omega); subst hkk; rw [ha]; first | done | rfl) ⟨SE1, by have hkk : k = n := (by omega); subst hkk; rw [← hu]; exact hM1, hF1⟩ dX6_days_23
      · refine lv_iload_n hx hb dX6_days_9 rfl (lv_at hl 2 rfl) ?_
        refine lv_aload_n hx hb dX6_days_10 rfl (lv_at hl 0 rfl) ?_
        refine z_callV (rest := [.int (nI a)]) (st2 := [.int (nI (dayN u)), .int (nI a)]) hE hH hS hB0 hl ca_X6_day mkX6_70 (c_X6_day l G B0 M1 d sc u A U L K PD SE1 SH BU hM1 hvu (by omega)) hM1.1 rfl rfl rfl rfl rfl ⟨Nat.le_of_ble_eq_true rfl, Nat.le_of_ble_eq_true rfl⟩ (Nat.le_of_ble_eq_true rfl) ⟨Nat.le_refl _, Nat.le_refl _⟩ dX6_days_11 (fun H locs M2 hH hp hS => ?_)
        obtain ⟨hM3, hG4⟩ := hp
        have hv6 : wOk (dayW u) := (dayW_ok hvu (by omega)).1
        have z7 := (dayW_ok hvu (by omega)).2
        have hA8 := hM3.s (fun _ _ => rfl)
        have hF5 := fun q hq => (hG4 q hq).trans (hF1 q hq)
        have q9 := dayN_le u
        refine n_iadd hx hb dX6_days_14 ?_
        refine lv_istore_n (lv' := [(2, .int (nI (a + (dayN u)))), (0, .ref d), (1, .int (nI n)), (3, .int (nI k))]) hx hb dX6_days_15 rfl hl (by decide) rfl (fun ls hl => ?_)
        refine lv_iinc (v := (nI (k + 1))) (lv' := [(3, .int (nI (k + 1))), (2, .int (nI (a + (dayN u)))), (0, .ref d), (1, .int (nI n))]) hx hb dX6_days_16 hl (k := 3) rfl (nI_inc _) (by decide) rfl (fun ls hl => ?_)
        refine lv_goto (tgt := 4) hx hb dX6_days_19 (by decide) ?_
        exact ih  (k + 1) (a + (dayN u)) (dayW u) (fun k => oI (seen u (-6) k)) M2 (by omega) (by omega) hM3 hF5 (by rw [hu]; rfl) (by rw [ha, hu]; rfl) (by omega) _ _ hH hS _ (lv_sub hl [2, 3, 1, 0] rfl)
  exact L4 (n + 1) 0 0 v SE M (by omega) (by omega) hM hF rfl rfl (by omega) _ _ hH hS _ (lv_sub hl [2, 3, 1, 0] rfl)

set_option maxHeartbeats 4000000 in
set_option maxRecDepth 100000 in
theorem c_X6_pays (l : Launch) (G : zG) (B0 : Nat) (M : Mm) (d : Nat) (sc : Nat → Int32) (v : Wv) (A U L K PD SE SH BU : Nat → Int32) (hM : Md G d sc (xs v A U L K PD SE SH BU) M) (hv : wOk v) (hBd : B0 ≤ d) (c pu : Nat) (hc : c < 60) (hpu : pu ≤ 999) : zMet l yX6_pays cX6_pays 5 (some .boolean) 3 0 0 G B0 M [.ref d, .int (nI c), .int (nI pu)] (some (.int (zb (sells v c pu)))) (fun M1 => Md G d sc (xs (sellV v c pu) A U L K PD SE SH BU) M1 ∧ ∀ q, (q < d ∨ d + 10 ≤ q) → M1 q = M q) := by
  refine z_met RX6 [(0, .ref d), (1, .int (nI c)), (2, .int (nI pu))] (by decide) rfl (Nat.le_of_ble_eq_true rfl) rfl ?_
  intro pg ev s m below meth cd ls hE hin hB0 hH hl
  have hx := hE.1
  have hb := hE.2.1
  have hn : v 0 ≤ 12 := hv.1
  have hA : zArr G 0 M (d + 1) 818 (fun i => nI (v i)) := hM.s (fun _ _ => rfl)
  have hF : ∀ q, (q < d ∨ d + 10 ≤ q) → M q = M q := fun _ _ => rfl
  refine z_gen B0 (fun H locs hH hS => ?_) hH
  refine lv_aload_n hx hb dX6_pays_0 rfl (lv_at hl 0 rfl) ?_
  refine lv_iload_n hx hb dX6_pays_1 rfl (lv_at hl 1 rfl) ?_
  refine lv_bipush (v := (-6)) hx hb dX6_pays_2 (by decide) ?_
  refine z_callV (rest := []) (st2 := [.int (oI (seen v (-6) c))]) hE hH hS hB0 hl ca_X6_seenAt mkX6_60 (c_X6_seenAt l G B0 M d sc (xs v A U L K PD SE SH BU) hM v (fun _ _ => rfl) hv c (-6) (by omega)) hM.1 rfl rfl rfl rfl rfl ⟨Nat.le_of_ble_eq_true rfl, Nat.le_of_ble_eq_true rfl⟩ (Nat.le_of_ble_eq_true rfl) ⟨Nat.le_refl _, Nat.le_refl _⟩ dX6_pays_4 (fun H locs M1 hH hp hS => ?_)
  subst hp
  refine lv_istore_n (lv' := [(3, .int (oI (seen v (-6) c))), (0, .ref d), (1, .int (nI c)), (2, .int (nI pu))]) hx hb dX6_pays_7 rfl hl (by decide) rfl (fun ls hl => ?_)
  refine lv_iload_n hx hb dX6_pays_8 rfl (lv_at hl 0 rfl) ?_
  refine lv_bipush (v := (-6)) hx hb dX6_pays_9 (by decide) ?_
  refine o_cmp_eq (tgt := 24) hx hb (seen_ob hv) dX6_pays_11 (by decide) (fun h1 => ?_) (fun j2 h1 => ?_)
  · refine n_iconst hx hb 0 dX6_pays_24 (by decide) ?_
    exact z_zret hE hH hS (by rw [show sells v c pu = false from by simp [sells, prc, *]; try omega]; rfl) ⟨by simp only [sellV, h1, Option.elim]; first | exact hM | (rw [if_neg (by omega)]; exact hM) | (rw [if_pos (by omega)]; exact hM), hF⟩ dX6_pays_25
  · rw [h1] at hl
    replace hl : lv_has ls 5 [(3, .int (nI j2)), (0, .ref d), (1, .int (nI c)), (2, .int (nI pu))] := hl
    have j2_lt := seen_lt h1
    have hpj := hv.price j2_lt
    refine lv_aload_n hx hb dX6_pays_14 rfl (lv_at hl 1 rfl) ?_
    refine lv_iload_n hx hb dX6_pays_15 rfl (lv_at hl 0 rfl) ?_
    refine n_iconst hx hb 4 dX6_pays_16 (by decide) ?_
    refine z_callV (rest := []) (st2 := [.int (nI (pv v j2 4))]) hE hH hS hB0 hl ca_X6_of mkX6_46 (c_X6_of l G B0 M d sc (xs v A U L K PD SE SH BU) hM v (fun _ _ => rfl) hv j2 4 (by omega) (by omega)) hM.1 rfl rfl rfl rfl rfl ⟨Nat.le_of_ble_eq_true rfl, Nat.le_of_ble_eq_true rfl⟩ (Nat.le_of_ble_eq_true rfl) ⟨Nat.le_refl _, Nat.le_refl _⟩ dX6_pays_17 (fun H locs M1 hH hp hS => ?_)
    subst hp
    have q3 := hv.price (j := j2) (by omega)
    refine lv_iload_n hx hb dX6_pays_20 rfl (lv_at hl 3 rfl) ?_
    refine n_cmp_le (tgt := 26) hx hb (by omega) (by omega) dX6_pays_21 (by decide) (fun h4 => ?_) (fun h4 => ?_)
    · refine lv_aload_n hx hb dX6_pays_26 rfl (lv_at hl 1 rfl) ?_
      refine lv_iload_n hx hb dX6_pays_27 rfl (lv_at hl 0 rfl) ?_
      refine n_iconst hx hb 4 dX6_pays_28 (by decide) ?_
      refine z_callV (rest := []) (st2 := [.int (nI (pv v j2 4))]) hE hH hS hB0 hl ca_X6_of mkX6_46 (c_X6_of l G B0 M d sc (xs v A U L K PD SE SH BU) hM v (fun _ _ => rfl) hv j2 4 (by omega) (by omega)) hM.1 rfl rfl rfl rfl rfl ⟨Nat.le_of_ble_eq_true rfl, Nat.le_of_ble_eq_true rfl⟩ (Nat.le_of_ble_eq_true rfl) ⟨Nat.le_refl _, Nat.le_refl _⟩ dX6_pays_29 (fun H locs M1 hH hp hS => ?_)
      subst hp
      have q5 := hv.price (j := j2) (by omega)
      refine lv_istore (lv' := [(4, .int (nI (pv v j2 4))), (3, .int (nI j2)), (0, .ref d), (1, .int (nI c)), (2, .int (nI pu))]) hx hb dX6_pays_32 hl (by decide) rfl (fun ls hl => ?_)
      refine lv_aload_n hx hb dX6_pays_34 rfl (lv_at hl 2 rfl) ?_
      refine lv_iload_n hx hb dX6_pays_35 rfl (lv_at hl 1 rfl) ?_
      refine n_iconst hx hb 5 dX6_pays_36 (by decide) ?_
      refine n_iconst hx hb 1 dX6_pays_37 (by decide) ?_
      refine z_callV (rest := []) (st2 := []) hE hH hS hB0 hl ca_X6_adds mkX6_95 (c_X6_adds l G B0 M d sc v A U L K PD SE SH BU hM hv (by omega) j2 5 1 (by omega) (by omega)) hM.1 rfl rfl rfl rfl rfl ⟨Nat.le_of_ble_eq_true rfl, Nat.le_of_ble_eq_true rfl⟩ (Nat.le_of_ble_eq_true rfl) ⟨Nat.le_refl _, Nat.le_refl _⟩ dX6_pays_38 (fun H locs M6 hH hp hS => ?_)
      obtain ⟨hM7, hG8⟩ := hp
      have hv10 : wOk (vset v (14 + 7 * j2 + 5) (pv v j2 5 + 1)) := (hv.setP56 (by omega) (by decide)).1
      have z11 := (hv.setP56 (v := v) (j := j2) (k := 5) (x := pv v j2 5 + 1) (by omega) (by decide)).2
      have hA12 := hM7.s (fun _ _ => rfl)
      have hF9 := fun q hq => (hG8 q hq).trans (hF q hq)
      refine lv_aload_n hx hb dX6_pays_41 rfl (lv_at hl 2 rfl) ?_
      refine lv_iload_n hx hb dX6_pays_42 rfl (lv_at hl 1 rfl) ?_
      refine n_bipush hx hb 6 dX6_pays_43 (by decide) ?_
      refine lv_iload hx hb dX6_pays_45 (lv_at hl 0 rfl) ?_
      refine z_callV (rest := []) (st2 := []) hE hH hS hB0 hl ca_X6_adds mkX6_95 (c_X6_adds l G B0 M6 d sc (vset v (14 + 7 * j2 + 5) (pv v j2 5 + 1)) A U L K PD SE SH BU hM7 hv10 (by omega) j2 6 (pv v j2 4) (by omega) (by omega)) hM7.1 rfl rfl rfl rfl rfl ⟨Nat.le_of_ble_eq_true rfl, Nat.le_of_ble_eq_true rfl⟩ (Nat.le_of_ble_eq_true rfl) ⟨Nat.le_refl _, Nat.le_refl _⟩ dX6_pays_47 (fun H locs M13 hH hp hS => ?_)
      obtain ⟨hM14, hG15⟩ := hp
      have hv17 : wOk (vset (vset v (14 + 7 * j2 + 5) (pv v j2 5 + 1)) (14 + 7 * j2 + 6) (pv (vset v (14 + 7 * j2 + 5) (pv v j2 5 + 1)) j2 6 + (pv v j2 4))) := (hv10.setP56 (by omega) (by decide)).1
      have z18 := (hv10.setP56 (v := (vset v (14 + 7 * j2 + 5) (pv v j2 5 + 1))) (j := j2) (k := 6) (x := pv (vset v (14 + 7 * j2 + 5) (pv v j2 5 + 1)) j2 6 + (pv v j2 4)) (by omega) (by decide)).2
      have hA19 := hM14.s (fun _ _ => rfl)
      have hF16 := fun q hq => (hG15 q hq).trans (hF9 q hq)
      refine lv_aload_n hx hb dX6_pays_50 rfl (lv_at hl 2 rfl) ?_
      refine z_get (T := TX6) (v := .ref (d + 1)) hE hH hM14.1 rfl uw_X6 1 (by decide) fkX6_7 rfl dX6_pays_51 ?_
      refine n_iconst hx hb 2 dX6_pays_54 (by decide) ?_
      refine lv_dup2_11 hx hb dX6_pays_55 rfl rfl ?_
      refine z_iald hE hH hA19 (k := 2) (by omega) (by decide) dX6_pays_56 ?_
      refine n_iconst hx hb 1 dX6_pays_57 (by decide) ?_
      refine n_iadd hx hb dX6_pays_58 ?_
      refine z_iast hE hH hS hA19 (k := 2) (by omega) (by decide) (by omega) dX6_pays_59 (fun H locs M22 hH hS e20 o21 => ?_)
      have hM23 : Md G d sc (xs (vset (vset (vset v (14 + 7 * j2 + 5) (pv v j2 5 + 1)) (14 + 7 * j2 + 6) (pv (vset v (14 + 7 * j2 + 5) (pv v j2 5 + 1)) j2 6 + (pv v j2 4))) (2) (((vset (vset v (14 + 7 * j2 + 5) (pv v j2 5 + 1)) (14 + 7 * j2 + 6) (pv (vset v (14 + 7 * j2 + 5) (pv v j2 5 + 1)) j2 6 + (pv v j2 4))) (2)) + 1)) A U L K PD SE SH BU) M22 := Md.setJ (j := 1) hM14 (by decide) (zArr.to e20 (fun q _ => by show (if q = _ then nI _ else nI _) = nI (fset _ _ _ q); unfold fset; by_cases hq : q = 2 <;> (first | (simp [hq]; done) | (rw [if_pos hq, if_pos hq]; rfl) | (rw [if_neg hq, if_neg hq]; rfl)))) (fun i hi => by unfold xs; split <;> first | rfl | exact absurd rfl hi) o21
      have hA25 := hM23.s (fun _ _ => rfl)
      have hF26 := fun q hq => (o21 q (by omega)).trans (hF16 q hq)
      refine lv_aload_n hx hb dX6_pays_60 rfl (lv_at hl 2 rfl) ?_
      refine z_get (T := TX6) (v := .ref (d + 1)) hE hH hM23.1 rfl uw_X6 1 (by decide) fkX6_7 rfl dX6_pays_61 ?_
      refine n_iconst hx hb 3 dX6_pays_64 (by decide) ?_
      refine lv_dup2_11 hx hb dX6_pays_65 rfl rfl ?_
      refine z_iald hE hH hA25 (k := 3) (by omega) (by decide) dX6_pays_66 ?_
      refine lv_iload hx hb dX6_pays_67 (lv_at hl 0 rfl) ?_
      refine n_iadd hx hb dX6_pays_69 ?_
      refine z_iast hE hH hS hA25 (k := 3) (by omega) (by decide) (by omega) dX6_pays_70 (fun H locs M29 hH hS e27 o28 => ?_)
      have hM30 : Md G d sc (xs (vset (vset (vset (vset v (14 + 7 * j2 + 5) (pv v j2 5 + 1)) (14 + 7 * j2 + 6) (pv (vset v (14 + 7 * j2 + 5) (pv v j2 5 + 1)) j2 6 + (pv v j2 4))) (2) (((vset (vset v (14 + 7 * j2 + 5) (pv v j2 5 + 1)) (14 + 7 * j2 + 6) (pv (vset v (14 + 7 * j2 + 5) (pv v j2 5 + 1)) j2 6 + (pv v j2 4))) (2)) + 1)) (3) (((vset (vset (vset v (14 + 7 * j2 + 5) (pv v j2 5 + 1)) (14 + 7 * j2 + 6) (pv (vset v (14 + 7 * j2 + 5) (pv v j2 5 + 1)) j2 6 + (pv v j2 4))) (2) (((vset (vset v (14 + 7 * j2 + 5) (pv v j2 5 + 1)) (14 + 7 * j2 + 6) (pv (vset v (14 + 7 * j2 + 5) (pv v j2 5 + 1)) j2 6 + (pv v j2 4))) (2)) + 1)) (3)) + (pv v j2 4))) A U L K PD SE SH BU) M29 := Md.setJ (j := 1) hM23 (by decide) (zArr.to e27 (fun q _ => by show (if q = _ then nI _ else nI _) = nI (fset _ _ _ q); unfold fset; by_cases hq : q = 3 <;> (first | (simp [hq]; done) | (rw [if_pos hq, if_pos hq]; rfl) | (rw [if_neg hq, if_neg hq]; rfl)))) (fun i hi => by unfold xs; split <;> first | rfl | exact absurd rfl hi) o28
      have hA32 := hM30.s (fun _ _ => rfl)
      have hF33 := fun q hq => (o28 q (by omega)).trans (hF26 q hq)
      refine n_iconst hx hb 1 dX6_pays_71 (by decide) ?_
      exact z_zret hE hH hS (by rw [show sells v c pu = true from by simp [sells, prc, h1, *]]; rfl) ⟨by simp only [sellV, h1, Option.elim]; first | exact hM30 | (rw [if_neg (by omega)]; exact hM30) | (rw [if_pos (by omega)]; exact hM30), hF33⟩ dX6_pays_72
    · refine n_iconst hx hb 0 dX6_pays_24 (by decide) ?_
      exact z_zret hE hH hS (by rw [show sells v c pu = false from by simp [sells, prc, *]; try omega]; rfl) ⟨by simp only [sellV, h1, Option.elim]; first | exact hM | (rw [if_neg (by omega)]; exact hM) | (rw [if_pos (by omega)]; exact hM), hF⟩ dX6_pays_25
