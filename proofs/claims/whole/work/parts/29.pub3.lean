theorem othN_le (v : Wv) (Z : Nat → Option Nat) : othN v Z ≤ 60 := zcnt_le _ _
theorem dys_oth {v : Wv} (hn : v 0 ≤ 12) {t : Nat} (ht : t < 1000000) : othN (dysV v t) (prc v (-6)) = unlikeW (fadA v t 60) v :=
  zcnt_congr fun c _ => by rw [dys_prc hn ht]
theorem dys_sum {v : Wv} (hn : v 0 ≤ 12) {t : Nat} (ht : t < 1000000) (b : Int32) : sumW (dysV v t) b = sumW (fadA v t 60) b :=
  zsum_congr fun c _ => by rw [dys_prc hn ht]
theorem post7 {a b c s : Nat} (h : c + a = b) : nI b - nI s - nI c = nI a - nI s := by
  rw [← h, Nat.add_comm c a, ← nI_add, Int32.sub_sub, Int32.add_comm (nI s), ← Int32.sub_sub, Int32.add_sub_cancel]
theorem post6 {a b c : Nat} (h : c + a = b) : nI c = nI b - nI a := by
  rw [← h, ← nI_add, Int32.add_sub_cancel]

set_option maxHeartbeats 4000000 in
set_option maxRecDepth 100000 in
theorem c_X6_sunOf (l : Launch) (G : zG) (B0 : Nat) (M : Mm) (d : Nat) (σ : Sg) (hC : Mo G d σ M) (hok : sOk σ) (hBd : B0 ≤ d) (x : Int32) : zMet l yX6_sunOf cX6_sunOf 2 (some .int) 5 0 0 G B0 M [.ref d, .int x] (some (.int (fSunOf σ x))) (fun M1 => Mo G d σ M1 ∧ ∀ q, (q < d ∨ d + 10 ≤ q) → M1 q = M q) := by
  refine z_met RX6 [(0, .ref d), (1, .int x)] (by decide) rfl (Nat.le_of_ble_eq_true rfl) rfl ?_
  intro pg ev s m below meth cd ls hE hin hB0 hH hl
  have hx := hE.1
  have hb := hE.2.1
  have hv : wOk σ.1 := hok.hw
  have hn : σ.1 0 ≤ 12 := hv.1
  have hdy : σ.1 1 ≤ 9999 := hok.1.2
  have hn6 : σ.2.1 ≤ 6 := hok.2.1
  have hhv : ∀ k, k < σ.2.1 → wOk (σ.2.2.1 k) := hok.hh
  have hsv : ∀ k, k < 2 → σ.2.2.2.2.1 k = true → wOk (σ.2.2.2.1 k) := hok.hs
  have hln : σ.2.2.2.2.2.1 ≤ 60 := hok.2.2.2.2.1
  have hpc : ∀ i, i < σ.2.2.2.2.2.1 → σ.2.2.2.2.2.2 i < 128 := fun i hi => by have h7 := (hok.2.2.2.2.2 i hi).2; exact Nat.lt_of_le_of_lt h7 (by decide)
  obtain ⟨t, at', w, bm, A, U, L, K, SE, SH, BU, hM, hU, hL, hK⟩ := hC
  have hA : zArr G 0 M (d + 1) 818 (fun i => nI (σ.1 i)) := hM.s (fun _ _ => rfl)
  have hF : ∀ q, (q < d ∨ d + 10 ≤ q) → M q = M q := fun _ _ => rfl
  refine z_gen B0 (fun H locs hH hS => ?_) hH
  refine lv_aload_n hx hb dX6_sunOf_0 rfl (lv_at hl 0 rfl) ?_
  refine n_iconst hx hb 0 dX6_sunOf_1 (by decide) ?_
  refine z_put (T := TX6) hE hH hS hM.1 rfl uw_X6 tyX6 tyX6_ok nmX6 0 (by decide) fkX6_38 rfl rfl rfl (Nat.le_of_ble_eq_true rfl) (by omega) dX6_sunOf_2 (fun H locs M3 hH hS e1 o2 => ?_)
  have hM4 : Md G d (sg (nI 0) (nI σ.2.1) (nI σ.2.2.2.2.2.1) at' w bm) (xs σ.1 A U L K (fun i => nI (σ.2.2.2.2.2.2 i)) SE SH BU) M3 := Md.setC hM e1 o2
  have hA5 := hM4.s (fun _ _ => rfl)
  have hF6 := fun q hq => (o2 q (by omega)).trans (hF q hq)
  refine lv_iload_n hx hb dX6_sunOf_5 rfl (lv_at hl 1 rfl) ?_
  refine n_iconst hx hb 0 dX6_sunOf_6 (by decide) ?_
  refine n_bipush hx hb 9 dX6_sunOf_7 (by decide) ?_
  refine z_callS (rest := []) (st2 := [.int (zb (wi x (nI 0) (nI 9)))]) hE hH hS hB0 hl ca_X6_in mkX6_42 (c_X6_in l G B0 M3 x (nI 0) (nI 9)) rfl rfl rfl ⟨Nat.le_of_ble_eq_true rfl, Nat.le_of_ble_eq_true rfl⟩ (Nat.le_of_ble_eq_true rfl) ⟨Nat.le_refl _, Nat.le_refl _⟩ dX6_sunOf_9 (fun H locs M1 hH hp hS => ?_)
  subst hp
  refine b_if_eq (tgt := 26) hx hb dX6_sunOf_12 (by decide) (fun h8 => ?_) (fun h8 => ?_)
  · refine lv_iconst (v := (-1)) hx hb dX6_sunOf_26 (by decide) ?_
    have hf : (fSunOf σ x) = (-1) := by
      simp [fSunOf, chg, sV, sN, sH, sS, sD, sL, sP, sv, h8]
      try omega
    rw [hf]
    exact z_iret hE hH hS rfl ⟨⟨_, _, _, _, _, _, _, _, _, _, _, hM4, hU, hL, hK⟩, hF6⟩ dX6_sunOf_27
  · obtain ⟨x', rfl, x1, x2⟩ := wi_nat (by decide) (by decide) h8
    have tx9 : tn (nI x') = x' := tn_nI (by omega)
    refine lv_aload_n hx hb dX6_sunOf_15 rfl (lv_at hl 0 rfl) ?_
    refine z_get (T := TX6) (v := .ref (d + 1)) hE hH hM4.1 rfl uw_X6 1 (by decide) fkX6_7 rfl dX6_sunOf_16 ?_
    refine n_iconst hx hb 4 dX6_sunOf_19 (by decide) ?_
    refine lv_iload_n hx hb dX6_sunOf_20 rfl (lv_at hl 1 rfl) ?_
    refine n_iadd hx hb dX6_sunOf_21 ?_
    refine z_iald hE hH hA5 (k := 4 + x') (by omega) (by decide) dX6_sunOf_22 ?_
    refine lv_goto (tgt := 27) hx hb dX6_sunOf_23 (by decide) ?_
    have hf : (fSunOf σ (nI x')) = (nI (σ.1 (4 + x'))) := by
      simp [fSunOf, chg, sV, sN, sH, sS, sD, sL, sP, sv, h8, tx9]
      try omega
    rw [hf]
    exact z_iret hE hH hS rfl ⟨⟨_, _, _, _, _, _, _, _, _, _, _, hM4, hU, hL, hK⟩, hF6⟩ dX6_sunOf_27

set_option maxHeartbeats 4000000 in
set_option maxRecDepth 100000 in
theorem c_X6_varnish (l : Launch) (G : zG) (B0 : Nat) (M : Mm) (d : Nat) (σ : Sg) (hC : Mo G d σ M) (hok : sOk σ) (hBd : B0 ≤ d) (p x y : Int32) : zMet l yX6_varnish cX6_varnish 4 (some .int) 5 0 0 G B0 M [.ref d, .int p, .int x, .int y] (some (.int (fVarnish σ p x y))) (fun M1 => Mo G d σ M1 ∧ ∀ q, (q < d ∨ d + 10 ≤ q) → M1 q = M q) := by
  refine z_met RX6 [(0, .ref d), (1, .int p), (2, .int x), (3, .int y)] (by decide) rfl (Nat.le_of_ble_eq_true rfl) rfl ?_
  intro pg ev s m below meth cd ls hE hin hB0 hH hl
  have hx := hE.1
  have hb := hE.2.1
  have hv : wOk σ.1 := hok.hw
  have hn : σ.1 0 ≤ 12 := hv.1
  have hdy : σ.1 1 ≤ 9999 := hok.1.2
  have hn6 : σ.2.1 ≤ 6 := hok.2.1
  have hhv : ∀ k, k < σ.2.1 → wOk (σ.2.2.1 k) := hok.hh
  have hsv : ∀ k, k < 2 → σ.2.2.2.2.1 k = true → wOk (σ.2.2.2.1 k) := hok.hs
  have hln : σ.2.2.2.2.2.1 ≤ 60 := hok.2.2.2.2.1
  have hpc : ∀ i, i < σ.2.2.2.2.2.1 → σ.2.2.2.2.2.2 i < 128 := fun i hi => by have h7 := (hok.2.2.2.2.2 i hi).2; exact Nat.lt_of_le_of_lt h7 (by decide)
  obtain ⟨t, at', w, bm, A, U, L, K, SE, SH, BU, hM, hU, hL, hK⟩ := hC
  have hA : zArr G 0 M (d + 1) 818 (fun i => nI (σ.1 i)) := hM.s (fun _ _ => rfl)
  have hF : ∀ q, (q < d ∨ d + 10 ≤ q) → M q = M q := fun _ _ => rfl
  refine z_gen B0 (fun H locs hH hS => ?_) hH
  refine lv_aload_n hx hb dX6_varnish_0 rfl (lv_at hl 0 rfl) ?_
  refine n_iconst hx hb 0 dX6_varnish_1 (by decide) ?_
  refine z_put (T := TX6) hE hH hS hM.1 rfl uw_X6 tyX6 tyX6_ok nmX6 0 (by decide) fkX6_38 rfl rfl rfl (Nat.le_of_ble_eq_true rfl) (by omega) dX6_varnish_2 (fun H locs M3 hH hS e1 o2 => ?_)
  have hM4 : Md G d (sg (nI 0) (nI σ.2.1) (nI σ.2.2.2.2.2.1) at' w bm) (xs σ.1 A U L K (fun i => nI (σ.2.2.2.2.2.2 i)) SE SH BU) M3 := Md.setC hM e1 o2
  have hA5 := hM4.s (fun _ _ => rfl)
  have hF6 := fun q hq => (o2 q (by omega)).trans (hF q hq)
  refine lv_aload_n hx hb dX6_varnish_5 rfl (lv_at hl 0 rfl) ?_
  refine lv_iload_n hx hb dX6_varnish_6 rfl (lv_at hl 1 rfl) ?_
  refine z_callV (rest := []) (st2 := [.int (zb (isP σ.1 p))]) hE hH hS hB0 hl ca_X6_isPoster mkX6_84 (c_X6_isPoster l G B0 M3 d (sg (nI 0) (nI σ.2.1) (nI σ.2.2.2.2.2.1) at' w bm) (xs σ.1 A U L K (fun i => nI (σ.2.2.2.2.2.2 i)) SE SH BU) hM4 σ.1 (fun _ _ => rfl) hv p) hM4.1 rfl rfl rfl rfl rfl ⟨Nat.le_of_ble_eq_true rfl, Nat.le_of_ble_eq_true rfl⟩ (Nat.le_of_ble_eq_true rfl) ⟨Nat.le_refl _, Nat.le_refl _⟩ dX6_varnish_7 (fun H locs M1 hH hp hS => ?_)
  subst hp
  refine b_if_eq (tgt := 21) hx hb dX6_varnish_10 (by decide) (fun h8 => ?_) (fun h8 => ?_)
  · refine lv_iconst (v := (-1)) hx hb dX6_varnish_21 (by decide) ?_
    have hf : (fVarnish σ p x y) = (-1) := by
      simp [fVarnish, chg, sV, sN, sH, sS, sD, sL, sP, h8]
      try omega
    rw [hf]
    exact z_iret hE hH hS rfl ⟨⟨_, _, _, _, _, _, _, _, _, _, _, hM4, hU, hL, hK⟩, hF6⟩ dX6_varnish_22
  · obtain ⟨p', rfl, p2⟩ := isP_nat hn h8
    have tx9 : tn (nI p') = p' := tn_nI (by omega)
    refine lv_iload_n hx hb dX6_varnish_13 rfl (lv_at hl 2 rfl) ?_
    refine lv_iload_n hx hb dX6_varnish_14 rfl (lv_at hl 3 rfl) ?_
    refine z_callS (rest := []) (st2 := [.int (zb (isC x y))]) hE hH hS hB0 hl ca_X6_isCell mkX6_78 (c_X6_isCell l G B0 M3 x y) rfl rfl rfl ⟨Nat.le_of_ble_eq_true rfl, Nat.le_of_ble_eq_true rfl⟩ (Nat.le_of_ble_eq_true rfl) ⟨Nat.le_refl _, Nat.le_refl _⟩ dX6_varnish_15 (fun H locs M1 hH hp hS => ?_)
    subst hp
    refine b_if_ne (tgt := 23) hx hb dX6_varnish_18 (by decide) (fun h11 => ?_) (fun h11 => ?_)
    · obtain ⟨x', y', rfl, rfl, x9, y9⟩ := isC_nat h11
      have tx12 : tn (nI x') = x' := tn_nI (by omega)
      have tx13 : tn (nI y') = y' := tn_nI (by omega)
      have e10 : (y' * 10 + x') % 10 = x' := by omega
      have e11 : (y' * 10 + x') / 10 = y' := by omega
      refine lv_aload_n hx hb dX6_varnish_23 rfl (lv_at hl 0 rfl) ?_
      refine lv_iload_n hx hb dX6_varnish_24 rfl (lv_at hl 1 rfl) ?_
      refine n_bipush hx hb 10 dX6_varnish_25 (by decide) ?_
      refine lv_iload_n hx hb dX6_varnish_27 rfl (lv_at hl 3 rfl) ?_
      refine n_imul hx hb dX6_varnish_28 ?_
      refine lv_iload_n hx hb dX6_varnish_29 rfl (lv_at hl 2 rfl) ?_
      refine n_iadd hx hb dX6_varnish_30 ?_
      refine z_topeq (show nI ((10 * y') + x') = nI (y' * 10 + x') from by rw [show (10 * y') + x' = y' * 10 + x' by omega]) ?_
      refine z_callV (rest := []) (st2 := [.int (zb (liesN (pv σ.1 p') ((y' * 10 + x') % 10) ((y' * 10 + x') / 10)))]) hE hH hS hB0 hl ca_X6_lies mkX6_53 (c_X6_lies l G B0 M3 d (sg (nI 0) (nI σ.2.1) (nI σ.2.2.2.2.2.1) at' w bm) (xs σ.1 A U L K (fun i => nI (σ.2.2.2.2.2.2 i)) SE SH BU) hM4 σ.1 (fun _ _ => rfl) hv p' (y' * 10 + x') (by omega) (by omega)) hM4.1 rfl rfl rfl rfl rfl ⟨Nat.le_of_ble_eq_true rfl, Nat.le_of_ble_eq_true rfl⟩ (Nat.le_of_ble_eq_true rfl) ⟨Nat.le_refl _, Nat.le_refl _⟩ dX6_varnish_31 (fun H locs M1 hH hp hS => ?_)
      subst hp
      refine b_if_eq (tgt := 51) hx hb dX6_varnish_34 (by decide) (fun h15 => ?_) (fun h15 => ?_)
      · rw [e10, e11] at h15
        refine lv_bipush (v := (-6)) hx hb dX6_varnish_51 (by decide) ?_
        have hf : (fVarnish σ (nI p') (nI x') (nI y')) = (-6) := by
          simp [fVarnish, chg, sV, sN, sH, sS, sD, sL, sP, e10, e11, h8, tx9, h11, tx12, tx13, h15]
          try omega
        rw [hf]
        exact z_iret hE hH hS rfl ⟨⟨_, _, _, _, _, _, _, _, _, _, _, hM4, hU, hL, hK⟩, hF6⟩ dX6_varnish_53
      · rw [e10, e11] at h15
        refine lv_aload_n hx hb dX6_varnish_37 rfl (lv_at hl 0 rfl) ?_
        refine lv_iload_n hx hb dX6_varnish_38 rfl (lv_at hl 1 rfl) ?_
        refine n_bipush hx hb 10 dX6_varnish_39 (by decide) ?_
        refine lv_iload_n hx hb dX6_varnish_41 rfl (lv_at hl 3 rfl) ?_
        refine n_imul hx hb dX6_varnish_42 ?_
        refine lv_iload_n hx hb dX6_varnish_43 rfl (lv_at hl 2 rfl) ?_
        refine n_iadd hx hb dX6_varnish_44 ?_
        refine z_topeq (show nI ((10 * y') + x') = nI (y' * 10 + x') from by rw [show (10 * y') + x' = y' * 10 + x' by omega]) ?_
        refine z_callV (rest := []) (st2 := [.int (nI (cv σ.1 p' (y' * 10 + x')))]) hE hH hS hB0 hl ca_X6_has mkX6_57 (c_X6_has l G B0 M3 d (sg (nI 0) (nI σ.2.1) (nI σ.2.2.2.2.2.1) at' w bm) (xs σ.1 A U L K (fun i => nI (σ.2.2.2.2.2.2 i)) SE SH BU) hM4 σ.1 (fun _ _ => rfl) hv p' (y' * 10 + x') (by omega) (by omega)) hM4.1 rfl rfl rfl rfl rfl ⟨Nat.le_of_ble_eq_true rfl, Nat.le_of_ble_eq_true rfl⟩ (Nat.le_of_ble_eq_true rfl) ⟨Nat.le_refl _, Nat.le_refl _⟩ dX6_varnish_45 (fun H locs M1 hH hp hS => ?_)
        subst hp
        have q16 := hv.coat (j := p') (c := y' * 10 + x') (by omega) (by omega)
        refine lv_goto (tgt := 53) hx hb dX6_varnish_48 (by decide) ?_
        have hf : (fVarnish σ (nI p') (nI x') (nI y')) = (nI (cv σ.1 p' (y' * 10 + x'))) := by
          simp [fVarnish, chg, sV, sN, sH, sS, sD, sL, sP, e10, e11, h8, tx9, h11, tx12, tx13, h15]
          try omega
        rw [hf]
        exact z_iret hE hH hS rfl ⟨⟨_, _, _, _, _, _, _, _, _, _, _, hM4, hU, hL, hK⟩, hF6⟩ dX6_varnish_53
    · refine lv_iconst (v := (-1)) hx hb dX6_varnish_21 (by decide) ?_
      have hf : (fVarnish σ (nI p') x y) = (-1) := by
        simp [fVarnish, chg, sV, sN, sH, sS, sD, sL, sP, h8, tx9, h11]
        try omega
      rw [hf]
      exact z_iret hE hH hS rfl ⟨⟨_, _, _, _, _, _, _, _, _, _, _, hM4, hU, hL, hK⟩, hF6⟩ dX6_varnish_22

set_option maxHeartbeats 4000000 in
set_option maxRecDepth 100000 in
theorem c_X6_cell (l : Launch) (G : zG) (B0 : Nat) (M : Mm) (d : Nat) (σ : Sg) (hC : Mo G d σ M) (hok : sOk σ) (hBd : B0 ≤ d) (x y c : Int32) : zMet l yX6_cell cX6_cell 6 (some .int) 5 0 0 G B0 M [.ref d, .int x, .int y, .int c] (some (.int (fCell σ x y c))) (fun M1 => Mo G d σ M1 ∧ ∀ q, (q < d ∨ d + 10 ≤ q) → M1 q = M q) := by
  refine z_met RX6 [(0, .ref d), (1, .int x), (2, .int y), (3, .int c)] (by decide) rfl (Nat.le_of_ble_eq_true rfl) rfl ?_
  intro pg ev s m below meth cd ls hE hin hB0 hH hl
  have hx := hE.1
  have hb := hE.2.1
  have hv : wOk σ.1 := hok.hw
  have hn : σ.1 0 ≤ 12 := hv.1
  have hdy : σ.1 1 ≤ 9999 := hok.1.2
  have hn6 : σ.2.1 ≤ 6 := hok.2.1
  have hhv : ∀ k, k < σ.2.1 → wOk (σ.2.2.1 k) := hok.hh
  have hsv : ∀ k, k < 2 → σ.2.2.2.2.1 k = true → wOk (σ.2.2.2.1 k) := hok.hs
  have hln : σ.2.2.2.2.2.1 ≤ 60 := hok.2.2.2.2.1
  have hpc : ∀ i, i < σ.2.2.2.2.2.1 → σ.2.2.2.2.2.2 i < 128 := fun i hi => by have h7 := (hok.2.2.2.2.2 i hi).2; exact Nat.lt_of_le_of_lt h7 (by decide)
  obtain ⟨t, at', w, bm, A, U, L, K, SE, SH, BU, hM, hU, hL, hK⟩ := hC
  have hA : zArr G 0 M (d + 1) 818 (fun i => nI (σ.1 i)) := hM.s (fun _ _ => rfl)
  have hF : ∀ q, (q < d ∨ d + 10 ≤ q) → M q = M q := fun _ _ => rfl
  refine z_gen B0 (fun H locs hH hS => ?_) hH
  refine lv_aload_n hx hb dX6_cell_0 rfl (lv_at hl 0 rfl) ?_
  refine n_iconst hx hb 0 dX6_cell_1 (by decide) ?_
  refine z_put (T := TX6) hE hH hS hM.1 rfl uw_X6 tyX6 tyX6_ok nmX6 0 (by decide) fkX6_38 rfl rfl rfl (Nat.le_of_ble_eq_true rfl) (by omega) dX6_cell_2 (fun H locs M3 hH hS e1 o2 => ?_)
  have hM4 : Md G d (sg (nI 0) (nI σ.2.1) (nI σ.2.2.2.2.2.1) at' w bm) (xs σ.1 A U L K (fun i => nI (σ.2.2.2.2.2.2 i)) SE SH BU) M3 := Md.setC hM e1 o2
  have hA5 := hM4.s (fun _ _ => rfl)
  have hF6 := fun q hq => (o2 q (by omega)).trans (hF q hq)
  refine lv_iload_n hx hb dX6_cell_5 rfl (lv_at hl 1 rfl) ?_
  refine lv_iload_n hx hb dX6_cell_6 rfl (lv_at hl 2 rfl) ?_
  refine z_callS (rest := []) (st2 := [.int (zb (isC x y))]) hE hH hS hB0 hl ca_X6_isCell mkX6_78 (c_X6_isCell l G B0 M3 x y) rfl rfl rfl ⟨Nat.le_of_ble_eq_true rfl, Nat.le_of_ble_eq_true rfl⟩ (Nat.le_of_ble_eq_true rfl) ⟨Nat.le_refl _, Nat.le_refl _⟩ dX6_cell_7 (fun H locs M1 hH hp hS => ?_)
  subst hp
  refine b_if_ne (tgt := 15) hx hb dX6_cell_10 (by decide) (fun h8 => ?_) (fun h8 => ?_)
  · obtain ⟨x', y', rfl, rfl, x9, y9⟩ := isC_nat h8
    have tx9 : tn (nI x') = x' := tn_nI (by omega)
    have tx10 : tn (nI y') = y' := tn_nI (by omega)
    have e10 : (y' * 10 + x') % 10 = x' := by omega
    have e11 : (y' * 10 + x') / 10 = y' := by omega
    have e12 := lyC_1 hv (c := y' * 10 + x') (by omega)
    refine n_bipush hx hb 10 dX6_cell_15 (by decide) ?_
    refine lv_iload_n hx hb dX6_cell_17 rfl (lv_at hl 2 rfl) ?_
    refine n_imul hx hb dX6_cell_18 ?_
    refine lv_iload_n hx hb dX6_cell_19 rfl (lv_at hl 1 rfl) ?_
    refine n_iadd hx hb dX6_cell_20 ?_
    refine z_topeq (show nI ((10 * y') + x') = nI (y' * 10 + x') from by rw [show (10 * y') + x' = y' * 10 + x' by omega]) ?_
    refine lv_istore (lv' := [(4, .int (nI (y' * 10 + x'))), (0, .ref d), (1, .int (nI x')), (2, .int (nI y')), (3, .int c)]) hx hb dX6_cell_21 hl (by decide) rfl (fun ls hl => ?_)
    refine lv_aload_n hx hb dX6_cell_23 rfl (lv_at hl 1 rfl) ?_
    refine lv_iload hx hb dX6_cell_24 (lv_at hl 0 rfl) ?_
    refine lv_bipush (v := (-6)) hx hb dX6_cell_26 (by decide) ?_
    refine z_callV (rest := []) (st2 := [.int (oI (seen σ.1 (-6) (y' * 10 + x')))]) hE hH hS hB0 hl ca_X6_seenAt mkX6_60 (c_X6_seenAt l G B0 M3 d (sg (nI 0) (nI σ.2.1) (nI σ.2.2.2.2.2.1) at' w bm) (xs σ.1 A U L K (fun i => nI (σ.2.2.2.2.2.2 i)) SE SH BU) hM4 σ.1 (fun _ _ => rfl) hv (y' * 10 + x') (-6) (by omega)) hM4.1 rfl rfl rfl rfl rfl ⟨Nat.le_of_ble_eq_true rfl, Nat.le_of_ble_eq_true rfl⟩ (Nat.le_of_ble_eq_true rfl) ⟨Nat.le_refl _, Nat.le_refl _⟩ dX6_cell_28 (fun H locs M1 hH hp hS => ?_)
    subst hp
    refine lv_istore (lv' := [(5, .int (oI (seen σ.1 (-6) (y' * 10 + x')))), (4, .int (nI (y' * 10 + x'))), (0, .ref d), (1, .int (nI x')), (2, .int (nI y')), (3, .int c)]) hx hb dX6_cell_31 hl (by decide) rfl (fun ls hl => ?_)
    refine lv_iload_n hx hb dX6_cell_33 rfl (lv_at hl 5 rfl) ?_
    rcases wi_cases c 0 4 with hw11 | hw11
    · obtain ⟨c', rfl, c1, c2⟩ := wi_nat (by decide) (by decide) hw11
      rcases (show c' = 0 ∨ c' = 1 ∨ c' = 2 ∨ c' = 3 ∨ c' = 4 by omega) with rfl | rfl | rfl | rfl | rfl
      · have tx12 : tn (nI 0) = 0 := tn_nI (by decide)
        refine lv_tableIn (tgt := 68) hx hb dX6_cell_34 (by decide +kernel) (by decide +kernel) (off := 34) (by decide +kernel) (by decide) ?_
        refine lv_aload_n hx hb dX6_cell_68 rfl (lv_at hl 2 rfl) ?_
        refine lv_iload hx hb dX6_cell_69 (lv_at hl 1 rfl) ?_
        refine z_callV (rest := []) (st2 := [.int (oI (prc σ.1 (-6) (y' * 10 + x')))]) hE hH hS hB0 hl ca_X6_priceAt mkX6_74 (c_X6_priceAt l G B0 M3 d (sg (nI 0) (nI σ.2.1) (nI σ.2.2.2.2.2.1) at' w bm) (xs σ.1 A U L K (fun i => nI (σ.2.2.2.2.2.2 i)) SE SH BU) hM4 σ.1 (fun _ _ => rfl) hv (y' * 10 + x') (by omega)) hM4.1 rfl rfl rfl rfl rfl ⟨Nat.le_of_ble_eq_true rfl, Nat.le_of_ble_eq_true rfl⟩ (Nat.le_of_ble_eq_true rfl) ⟨Nat.le_refl _, Nat.le_refl _⟩ dX6_cell_71 (fun H locs M1 hH hp hS => ?_)
        subst hp
        have hf : (fCell σ (nI x') (nI y') (nI 0)) = (oI (prc σ.1 (-6) (y' * 10 + x'))) := by
          simp [fCell, chg, sV, sN, sH, sS, sD, sL, sP, cellN, seenV, lyC_0, e10, e11, e12, h8, tx9, tx10, hw11, tx12]
          try omega
        rw [hf]
        exact z_iret hE hH hS rfl ⟨⟨_, _, _, _, _, _, _, _, _, _, _, hM4, hU, hL, hK⟩, hF6⟩ dX6_cell_74
      · have tx13 : tn (nI 1) = 1 := tn_nI (by decide)
        refine lv_tableIn (tgt := 75) hx hb dX6_cell_34 (by decide +kernel) (by decide +kernel) (off := 41) (by decide +kernel) (by decide) ?_
        refine lv_iload hx hb dX6_cell_75 (lv_at hl 0 rfl) ?_
        have hf : (fCell σ (nI x') (nI y') (nI 1)) = (oI (seen σ.1 (-6) (y' * 10 + x'))) := by
          simp [fCell, chg, sV, sN, sH, sS, sD, sL, sP, cellN, seenV, lyC_0, e10, e11, e12, h8, tx9, tx10, hw11, tx13]
          try omega
        rw [hf]
        exact z_iret hE hH hS rfl ⟨⟨_, _, _, _, _, _, _, _, _, _, _, hM4, hU, hL, hK⟩, hF6⟩ dX6_cell_77
      · have tx14 : tn (nI 2) = 2 := tn_nI (by decide)
        refine lv_tableIn (tgt := 78) hx hb dX6_cell_34 (by decide +kernel) (by decide +kernel) (off := 44) (by decide +kernel) (by decide) ?_
        refine lv_iload hx hb dX6_cell_78 (lv_at hl 0 rfl) ?_
        refine lv_bipush (v := (-6)) hx hb dX6_cell_80 (by decide) ?_
        refine o_cmp_ne (tgt := 89) hx hb (seen_ob hv) dX6_cell_82 (by decide) (fun j16 h15 => ?_) (fun h15 => ?_)
        · rw [h15] at hl
          replace hl : lv_has ls 6 [(5, .int (nI j16)), (4, .int (nI (y' * 10 + x'))), (0, .ref d), (1, .int (nI x')), (2, .int (nI y')), (3, .int (nI 2))] := hl
          have j16_lt := seen_lt h15
          refine lv_aload_n hx hb dX6_cell_89 rfl (lv_at hl 2 rfl) ?_
          refine lv_iload hx hb dX6_cell_90 (lv_at hl 0 rfl) ?_
          refine lv_iload hx hb dX6_cell_92 (lv_at hl 1 rfl) ?_
          refine z_callV (rest := []) (st2 := [.int (nI (cv σ.1 j16 (y' * 10 + x')))]) hE hH hS hB0 hl ca_X6_has mkX6_57 (c_X6_has l G B0 M3 d (sg (nI 0) (nI σ.2.1) (nI σ.2.2.2.2.2.1) at' w bm) (xs σ.1 A U L K (fun i => nI (σ.2.2.2.2.2.2 i)) SE SH BU) hM4 σ.1 (fun _ _ => rfl) hv j16 (y' * 10 + x') (by omega) (by omega)) hM4.1 rfl rfl rfl rfl rfl ⟨Nat.le_of_ble_eq_true rfl, Nat.le_of_ble_eq_true rfl⟩ (Nat.le_of_ble_eq_true rfl) ⟨Nat.le_refl _, Nat.le_refl _⟩ dX6_cell_94 (fun H locs M1 hH hp hS => ?_)
          subst hp
          have q17 := hv.coat (j := j16) (c := y' * 10 + x') (by omega) (by omega)
          have hf : (fCell σ (nI x') (nI y') (nI 2)) = (nI (cv σ.1 j16 (y' * 10 + x'))) := by
            simp [fCell, chg, sV, sN, sH, sS, sD, sL, sP, cellN, seenV, lyC_0, e10, e11, e12, h8, tx9, tx10, hw11, tx14, h15]
            try omega
          rw [hf]
          exact z_iret hE hH hS rfl ⟨⟨_, _, _, _, _, _, _, _, _, _, _, hM4, hU, hL, hK⟩, hF6⟩ dX6_cell_97
        · refine n_iconst hx hb 0 dX6_cell_85 (by decide) ?_
          refine lv_goto (tgt := 97) hx hb dX6_cell_86 (by decide) ?_
          have hf : (fCell σ (nI x') (nI y') (nI 2)) = (nI 0) := by
            simp [fCell, chg, sV, sN, sH, sS, sD, sL, sP, cellN, seenV, lyC_0, e10, e11, e12, h8, tx9, tx10, hw11, tx14, h15]
            try omega
          rw [hf]
          exact z_iret hE hH hS rfl ⟨⟨_, _, _, _, _, _, _, _, _, _, _, hM4, hU, hL, hK⟩, hF6⟩ dX6_cell_97
      · have tx18 : tn (nI 3) = 3 := tn_nI (by decide)
        refine lv_tableIn (tgt := 98) hx hb dX6_cell_34 (by decide +kernel) (by decide +kernel) (off := 64) (by decide +kernel) (by decide) ?_
        refine lv_aload_n hx hb dX6_cell_98 rfl (lv_at hl 2 rfl) ?_
        refine lv_iload hx hb dX6_cell_99 (lv_at hl 1 rfl) ?_
        refine lv_iload_n hx hb dX6_cell_101 rfl (lv_at hl 5 rfl) ?_
        refine n_iconst hx hb 4 dX6_cell_102 (by decide) ?_
        refine n_cmp_ne (tgt := 110) hx hb (by decide) (by decide) dX6_cell_103 (by decide) (fun _ => ?_) (fun h => absurd h (by decide))
        refine n_iconst hx hb 0 dX6_cell_110 (by decide) ?_
        refine z_callV (rest := []) (st2 := [.int (nI (lyC σ.1 (y' * 10 + x') 0))]) hE hH hS hB0 hl ca_X6_lyingAt mkX6_113 (c_X6_lyingAt l G B0 M3 d (sg (nI 0) (nI σ.2.1) (nI σ.2.2.2.2.2.1) at' w bm) (xs σ.1 A U L K (fun i => nI (σ.2.2.2.2.2.2 i)) SE SH BU) hM4 σ.1 (fun _ _ => rfl) hv (y' * 10 + x') 0 (by omega) (by omega)) hM4.1 rfl rfl rfl rfl rfl ⟨Nat.le_of_ble_eq_true rfl, Nat.le_of_ble_eq_true rfl⟩ (Nat.le_of_ble_eq_true rfl) ⟨Nat.le_refl _, Nat.le_refl _⟩ dX6_cell_111 (fun H locs M1 hH hp hS => ?_)
        subst hp
        have hf : (fCell σ (nI x') (nI y') (nI 3)) = (nI (lyC σ.1 (y' * 10 + x') 0)) := by
          simp [fCell, chg, sV, sN, sH, sS, sD, sL, sP, cellN, seenV, lyC_0, e10, e11, e12, h8, tx9, tx10, hw11, tx18]
          try omega
        rw [hf]
        exact z_iret hE hH hS rfl ⟨⟨_, _, _, _, _, _, _, _, _, _, _, hM4, hU, hL, hK⟩, hF6⟩ dX6_cell_114
      · have tx19 : tn (nI 4) = 4 := tn_nI (by decide)
        refine lv_tableIn (tgt := 98) hx hb dX6_cell_34 (by decide +kernel) (by decide +kernel) (off := 64) (by decide +kernel) (by decide) ?_
        refine lv_aload_n hx hb dX6_cell_98 rfl (lv_at hl 2 rfl) ?_
        refine lv_iload hx hb dX6_cell_99 (lv_at hl 1 rfl) ?_
        refine lv_iload_n hx hb dX6_cell_101 rfl (lv_at hl 5 rfl) ?_
        refine n_iconst hx hb 4 dX6_cell_102 (by decide) ?_
        refine n_cmp_ne (tgt := 110) hx hb (by decide) (by decide) dX6_cell_103 (by decide) (fun h => absurd rfl h) (fun _ => ?_)
        refine n_iconst hx hb 1 dX6_cell_106 (by decide) ?_
        refine lv_goto (tgt := 111) hx hb dX6_cell_107 (by decide) ?_
        refine z_callV (rest := []) (st2 := [.int (nI (lyC σ.1 (y' * 10 + x') 1))]) hE hH hS hB0 hl ca_X6_lyingAt mkX6_113 (c_X6_lyingAt l G B0 M3 d (sg (nI 0) (nI σ.2.1) (nI σ.2.2.2.2.2.1) at' w bm) (xs σ.1 A U L K (fun i => nI (σ.2.2.2.2.2.2 i)) SE SH BU) hM4 σ.1 (fun _ _ => rfl) hv (y' * 10 + x') 1 (by omega) (by omega)) hM4.1 rfl rfl rfl rfl rfl ⟨Nat.le_of_ble_eq_true rfl, Nat.le_of_ble_eq_true rfl⟩ (Nat.le_of_ble_eq_true rfl) ⟨Nat.le_refl _, Nat.le_refl _⟩ dX6_cell_111 (fun H locs M1 hH hp hS => ?_)
        subst hp
        have hf : (fCell σ (nI x') (nI y') (nI 4)) = (nI (lyC σ.1 (y' * 10 + x') 1)) := by
          simp [fCell, chg, sV, sN, sH, sS, sD, sL, sP, cellN, seenV, lyC_0, e10, e11, e12, h8, tx9, tx10, hw11, tx19]
          try omega
        rw [hf]
        exact z_iret hE hH hS rfl ⟨⟨_, _, _, _, _, _, _, _, _, _, _, hM4, hU, hL, hK⟩, hF6⟩ dX6_cell_114
    · refine lv_tableOut (tgt := 115) hx hb dX6_cell_34 (wi_false (by decide) (by decide) hw11) (by decide) ?_
      refine lv_bipush (v := (-2)) hx hb dX6_cell_115 (by decide) ?_
      have hf : (fCell σ (nI x') (nI y') c) = (-2) := by
        simp [fCell, chg, sV, sN, sH, sS, sD, sL, sP, cellN, seenV, lyC_0, e10, e11, e12, h8, tx9, tx10, hw11]
        try omega
      rw [hf]
      exact z_iret hE hH hS rfl ⟨⟨_, _, _, _, _, _, _, _, _, _, _, hM4, hU, hL, hK⟩, hF6⟩ dX6_cell_117
  · refine lv_iconst (v := (-1)) hx hb dX6_cell_13 (by decide) ?_
    have hf : (fCell σ x y c) = (-1) := by
      simp [fCell, chg, sV, sN, sH, sS, sD, sL, sP, cellN, seenV, lyC_0, h8]
      try omega
    rw [hf]
    exact z_iret hE hH hS rfl ⟨⟨_, _, _, _, _, _, _, _, _, _, _, hM4, hU, hL, hK⟩, hF6⟩ dX6_cell_14

set_option maxHeartbeats 4000000 in
set_option maxRecDepth 100000 in
theorem c_X6_poster (l : Launch) (G : zG) (B0 : Nat) (M : Mm) (d : Nat) (σ : Sg) (hC : Mo G d σ M) (hok : sOk σ) (hBd : B0 ≤ d) (p c : Int32) : zMet l yX6_poster cX6_poster 3 (some .int) 5 0 0 G B0 M [.ref d, .int p, .int c] (some (.int (fPoster σ p c))) (fun M1 => Mo G d σ M1 ∧ ∀ q, (q < d ∨ d + 10 ≤ q) → M1 q = M q) := by
  refine z_met RX6 [(0, .ref d), (1, .int p), (2, .int c)] (by decide) rfl (Nat.le_of_ble_eq_true rfl) rfl ?_
  intro pg ev s m below meth cd ls hE hin hB0 hH hl
  have hx := hE.1
  have hb := hE.2.1
  have hv : wOk σ.1 := hok.hw
  have hn : σ.1 0 ≤ 12 := hv.1
  have hdy : σ.1 1 ≤ 9999 := hok.1.2
  have hn6 : σ.2.1 ≤ 6 := hok.2.1
  have hhv : ∀ k, k < σ.2.1 → wOk (σ.2.2.1 k) := hok.hh
  have hsv : ∀ k, k < 2 → σ.2.2.2.2.1 k = true → wOk (σ.2.2.2.1 k) := hok.hs
  have hln : σ.2.2.2.2.2.1 ≤ 60 := hok.2.2.2.2.1
  have hpc : ∀ i, i < σ.2.2.2.2.2.1 → σ.2.2.2.2.2.2 i < 128 := fun i hi => by have h7 := (hok.2.2.2.2.2 i hi).2; exact Nat.lt_of_le_of_lt h7 (by decide)
  obtain ⟨t, at', w, bm, A, U, L, K, SE, SH, BU, hM, hU, hL, hK⟩ := hC
  have hA : zArr G 0 M (d + 1) 818 (fun i => nI (σ.1 i)) := hM.s (fun _ _ => rfl)
  have hF : ∀ q, (q < d ∨ d + 10 ≤ q) → M q = M q := fun _ _ => rfl
  refine z_gen B0 (fun H locs hH hS => ?_) hH
  refine lv_aload_n hx hb dX6_poster_0 rfl (lv_at hl 0 rfl) ?_
  refine n_iconst hx hb 0 dX6_poster_1 (by decide) ?_
  refine z_put (T := TX6) hE hH hS hM.1 rfl uw_X6 tyX6 tyX6_ok nmX6 0 (by decide) fkX6_38 rfl rfl rfl (Nat.le_of_ble_eq_true rfl) (by omega) dX6_poster_2 (fun H locs M3 hH hS e1 o2 => ?_)
  have hM4 : Md G d (sg (nI 0) (nI σ.2.1) (nI σ.2.2.2.2.2.1) at' w bm) (xs σ.1 A U L K (fun i => nI (σ.2.2.2.2.2.2 i)) SE SH BU) M3 := Md.setC hM e1 o2
  have hA5 := hM4.s (fun _ _ => rfl)
  have hF6 := fun q hq => (o2 q (by omega)).trans (hF q hq)
  refine lv_aload_n hx hb dX6_poster_5 rfl (lv_at hl 0 rfl) ?_
  refine lv_iload_n hx hb dX6_poster_6 rfl (lv_at hl 1 rfl) ?_
  refine z_callV (rest := []) (st2 := [.int (zb (isP σ.1 p))]) hE hH hS hB0 hl ca_X6_isPoster mkX6_84 (c_X6_isPoster l G B0 M3 d (sg (nI 0) (nI σ.2.1) (nI σ.2.2.2.2.2.1) at' w bm) (xs σ.1 A U L K (fun i => nI (σ.2.2.2.2.2.2 i)) SE SH BU) hM4 σ.1 (fun _ _ => rfl) hv p) hM4.1 rfl rfl rfl rfl rfl ⟨Nat.le_of_ble_eq_true rfl, Nat.le_of_ble_eq_true rfl⟩ (Nat.le_of_ble_eq_true rfl) ⟨Nat.le_refl _, Nat.le_refl _⟩ dX6_poster_7 (fun H locs M1 hH hp hS => ?_)
  subst hp
  refine b_if_ne (tgt := 15) hx hb dX6_poster_10 (by decide) (fun h8 => ?_) (fun h8 => ?_)
  · obtain ⟨p', rfl, p2⟩ := isP_nat hn h8
    have tx9 : tn (nI p') = p' := tn_nI (by omega)
    refine lv_iload_n hx hb dX6_poster_15 rfl (lv_at hl 2 rfl) ?_
    rcases wi_cases c 0 10 with hw10 | hw10
    · obtain ⟨c', rfl, c1, c2⟩ := wi_nat (by decide) (by decide) hw10
      rcases (show c' = 0 ∨ c' = 1 ∨ c' = 2 ∨ c' = 3 ∨ c' = 4 ∨ c' = 5 ∨ c' = 6 ∨ c' = 7 ∨ c' = 8 ∨ c' = 9 ∨ c' = 10 by omega) with rfl | rfl | rfl | rfl | rfl | rfl | rfl | rfl | rfl | rfl | rfl
      · have tx11 : tn (nI 0) = 0 := tn_nI (by decide)
        refine lv_tableIn (tgt := 76) hx hb dX6_poster_16 (by decide +kernel) (by decide +kernel) (off := 60) (by decide +kernel) (by decide) ?_
        refine lv_aload_n hx hb dX6_poster_76 rfl (lv_at hl 0 rfl) ?_
        refine lv_iload_n hx hb dX6_poster_77 rfl (lv_at hl 1 rfl) ?_
        refine lv_iload_n hx hb dX6_poster_78 rfl (lv_at hl 2 rfl) ?_
        refine z_callV (rest := []) (st2 := [.int (nI (pv σ.1 p' 0))]) hE hH hS hB0 hl ca_X6_of mkX6_46 (c_X6_of l G B0 M3 d (sg (nI 0) (nI σ.2.1) (nI σ.2.2.2.2.2.1) at' w bm) (xs σ.1 A U L K (fun i => nI (σ.2.2.2.2.2.2 i)) SE SH BU) hM4 σ.1 (fun _ _ => rfl) hv p' 0 (by omega) (by omega)) hM4.1 rfl rfl rfl rfl rfl ⟨Nat.le_of_ble_eq_true rfl, Nat.le_of_ble_eq_true rfl⟩ (Nat.le_of_ble_eq_true rfl) ⟨Nat.le_refl _, Nat.le_refl _⟩ dX6_poster_79 (fun H locs M1 hH hp hS => ?_)
        subst hp
        have q12 := hv.rect (j := p') (by omega)
        have hf : (fPoster σ (nI p') (nI 0)) = (nI (pv σ.1 p' 0)) := by
          simp [fPoster, chg, sV, sN, sH, sS, sD, sL, sP, postN, h8, tx9, hw10, tx11]
          try omega
        rw [hf]
        exact z_iret hE hH hS rfl ⟨⟨_, _, _, _, _, _, _, _, _, _, _, hM4, hU, hL, hK⟩, hF6⟩ dX6_poster_82
      · have tx13 : tn (nI 1) = 1 := tn_nI (by decide)
        refine lv_tableIn (tgt := 76) hx hb dX6_poster_16 (by decide +kernel) (by decide +kernel) (off := 60) (by decide +kernel) (by decide) ?_
        refine lv_aload_n hx hb dX6_poster_76 rfl (lv_at hl 0 rfl) ?_
        refine lv_iload_n hx hb dX6_poster_77 rfl (lv_at hl 1 rfl) ?_
        refine lv_iload_n hx hb dX6_poster_78 rfl (lv_at hl 2 rfl) ?_
        refine z_callV (rest := []) (st2 := [.int (nI (pv σ.1 p' 1))]) hE hH hS hB0 hl ca_X6_of mkX6_46 (c_X6_of l G B0 M3 d (sg (nI 0) (nI σ.2.1) (nI σ.2.2.2.2.2.1) at' w bm) (xs σ.1 A U L K (fun i => nI (σ.2.2.2.2.2.2 i)) SE SH BU) hM4 σ.1 (fun _ _ => rfl) hv p' 1 (by omega) (by omega)) hM4.1 rfl rfl rfl rfl rfl ⟨Nat.le_of_ble_eq_true rfl, Nat.le_of_ble_eq_true rfl⟩ (Nat.le_of_ble_eq_true rfl) ⟨Nat.le_refl _, Nat.le_refl _⟩ dX6_poster_79 (fun H locs M1 hH hp hS => ?_)
        subst hp
        have q14 := hv.rect (j := p') (by omega)
        have hf : (fPoster σ (nI p') (nI 1)) = (nI (pv σ.1 p' 1)) := by
          simp [fPoster, chg, sV, sN, sH, sS, sD, sL, sP, postN, h8, tx9, hw10, tx13]
          try omega
        rw [hf]
        exact z_iret hE hH hS rfl ⟨⟨_, _, _, _, _, _, _, _, _, _, _, hM4, hU, hL, hK⟩, hF6⟩ dX6_poster_82
      · have tx15 : tn (nI 2) = 2 := tn_nI (by decide)
        refine lv_tableIn (tgt := 76) hx hb dX6_poster_16 (by decide +kernel) (by decide +kernel) (off := 60) (by decide +kernel) (by decide) ?_
        refine lv_aload_n hx hb dX6_poster_76 rfl (lv_at hl 0 rfl) ?_
        refine lv_iload_n hx hb dX6_poster_77 rfl (lv_at hl 1 rfl) ?_
        refine lv_iload_n hx hb dX6_poster_78 rfl (lv_at hl 2 rfl) ?_
        refine z_callV (rest := []) (st2 := [.int (nI (pv σ.1 p' 2))]) hE hH hS hB0 hl ca_X6_of mkX6_46 (c_X6_of l G B0 M3 d (sg (nI 0) (nI σ.2.1) (nI σ.2.2.2.2.2.1) at' w bm) (xs σ.1 A U L K (fun i => nI (σ.2.2.2.2.2.2 i)) SE SH BU) hM4 σ.1 (fun _ _ => rfl) hv p' 2 (by omega) (by omega)) hM4.1 rfl rfl rfl rfl rfl ⟨Nat.le_of_ble_eq_true rfl, Nat.le_of_ble_eq_true rfl⟩ (Nat.le_of_ble_eq_true rfl) ⟨Nat.le_refl _, Nat.le_refl _⟩ dX6_poster_79 (fun H locs M1 hH hp hS => ?_)
        subst hp
        have q16 := hv.rect (j := p') (by omega)
        have hf : (fPoster σ (nI p') (nI 2)) = (nI (pv σ.1 p' 2)) := by
          simp [fPoster, chg, sV, sN, sH, sS, sD, sL, sP, postN, h8, tx9, hw10, tx15]
          try omega
        rw [hf]
        exact z_iret hE hH hS rfl ⟨⟨_, _, _, _, _, _, _, _, _, _, _, hM4, hU, hL, hK⟩, hF6⟩ dX6_poster_82
      · have tx17 : tn (nI 3) = 3 := tn_nI (by decide)
        refine lv_tableIn (tgt := 76) hx hb dX6_poster_16 (by decide +kernel) (by decide +kernel) (off := 60) (by decide +kernel) (by decide) ?_
        refine lv_aload_n hx hb dX6_poster_76 rfl (lv_at hl 0 rfl) ?_
        refine lv_iload_n hx hb dX6_poster_77 rfl (lv_at hl 1 rfl) ?_
        refine lv_iload_n hx hb dX6_poster_78 rfl (lv_at hl 2 rfl) ?_
        refine z_callV (rest := []) (st2 := [.int (nI (pv σ.1 p' 3))]) hE hH hS hB0 hl ca_X6_of mkX6_46 (c_X6_of l G B0 M3 d (sg (nI 0) (nI σ.2.1) (nI σ.2.2.2.2.2.1) at' w bm) (xs σ.1 A U L K (fun i => nI (σ.2.2.2.2.2.2 i)) SE SH BU) hM4 σ.1 (fun _ _ => rfl) hv p' 3 (by omega) (by omega)) hM4.1 rfl rfl rfl rfl rfl ⟨Nat.le_of_ble_eq_true rfl, Nat.le_of_ble_eq_true rfl⟩ (Nat.le_of_ble_eq_true rfl) ⟨Nat.le_refl _, Nat.le_refl _⟩ dX6_poster_79 (fun H locs M1 hH hp hS => ?_)
        subst hp
        have q18 := hv.rect (j := p') (by omega)
        have hf : (fPoster σ (nI p') (nI 3)) = (nI (pv σ.1 p' 3)) := by
          simp [fPoster, chg, sV, sN, sH, sS, sD, sL, sP, postN, h8, tx9, hw10, tx17]
          try omega
        rw [hf]
        exact z_iret hE hH hS rfl ⟨⟨_, _, _, _, _, _, _, _, _, _, _, hM4, hU, hL, hK⟩, hF6⟩ dX6_poster_82
      · have tx19 : tn (nI 4) = 4 := tn_nI (by decide)
        refine lv_tableIn (tgt := 76) hx hb dX6_poster_16 (by decide +kernel) (by decide +kernel) (off := 60) (by decide +kernel) (by decide) ?_
        refine lv_aload_n hx hb dX6_poster_76 rfl (lv_at hl 0 rfl) ?_
        refine lv_iload_n hx hb dX6_poster_77 rfl (lv_at hl 1 rfl) ?_
        refine lv_iload_n hx hb dX6_poster_78 rfl (lv_at hl 2 rfl) ?_
        refine z_callV (rest := []) (st2 := [.int (nI (pv σ.1 p' 4))]) hE hH hS hB0 hl ca_X6_of mkX6_46 (c_X6_of l G B0 M3 d (sg (nI 0) (nI σ.2.1) (nI σ.2.2.2.2.2.1) at' w bm) (xs σ.1 A U L K (fun i => nI (σ.2.2.2.2.2.2 i)) SE SH BU) hM4 σ.1 (fun _ _ => rfl) hv p' 4 (by omega) (by omega)) hM4.1 rfl rfl rfl rfl rfl ⟨Nat.le_of_ble_eq_true rfl, Nat.le_of_ble_eq_true rfl⟩ (Nat.le_of_ble_eq_true rfl) ⟨Nat.le_refl _, Nat.le_refl _⟩ dX6_poster_79 (fun H locs M1 hH hp hS => ?_)
        subst hp
        have q20 := hv.price (j := p') (by omega)
        have hf : (fPoster σ (nI p') (nI 4)) = (nI (pv σ.1 p' 4)) := by
          simp [fPoster, chg, sV, sN, sH, sS, sD, sL, sP, postN, h8, tx9, hw10, tx19]
          try omega
        rw [hf]
        exact z_iret hE hH hS rfl ⟨⟨_, _, _, _, _, _, _, _, _, _, _, hM4, hU, hL, hK⟩, hF6⟩ dX6_poster_82
      · have tx21 : tn (nI 5) = 5 := tn_nI (by decide)
        refine lv_tableIn (tgt := 83) hx hb dX6_poster_16 (by decide +kernel) (by decide +kernel) (off := 67) (by decide +kernel) (by decide) ?_
        refine lv_aload_n hx hb dX6_poster_83 rfl (lv_at hl 0 rfl) ?_
        refine lv_iload_n hx hb dX6_poster_84 rfl (lv_at hl 1 rfl) ?_
        refine lv_iload_n hx hb dX6_poster_85 rfl (lv_at hl 2 rfl) ?_
        refine z_callV (rest := []) (st2 := [.int (nI (seenCnt σ.1 p'))]) hE hH hS hB0 hl ca_X6_overCells mkX6_88 (c_X6_overCells_5 l G B0 M3 d (sg (nI 0) (nI σ.2.1) (nI σ.2.2.2.2.2.1) at' w bm) (xs σ.1 A U L K (fun i => nI (σ.2.2.2.2.2.2 i)) SE SH BU) hM4 σ.1 (fun _ _ => rfl) hv p' (by omega)) hM4.1 rfl rfl rfl rfl rfl ⟨Nat.le_of_ble_eq_true rfl, Nat.le_of_ble_eq_true rfl⟩ (Nat.le_of_ble_eq_true rfl) ⟨Nat.le_refl _, Nat.le_refl _⟩ dX6_poster_86 (fun H locs M1 hH hp hS => ?_)
        subst hp
        have q22 := seenCnt_le σ.1 p'
        have hf : (fPoster σ (nI p') (nI 5)) = (nI (seenCnt σ.1 p')) := by
          simp [fPoster, chg, sV, sN, sH, sS, sD, sL, sP, postN, h8, tx9, hw10, tx21]
          try omega
        rw [hf]
        exact z_iret hE hH hS rfl ⟨⟨_, _, _, _, _, _, _, _, _, _, _, hM4, hU, hL, hK⟩, hF6⟩ dX6_poster_89
      · have tx23 : tn (nI 6) = 6 := tn_nI (by decide)
        refine lv_tableIn (tgt := 83) hx hb dX6_poster_16 (by decide +kernel) (by decide +kernel) (off := 67) (by decide +kernel) (by decide) ?_
        refine lv_aload_n hx hb dX6_poster_83 rfl (lv_at hl 0 rfl) ?_
        refine lv_iload_n hx hb dX6_poster_84 rfl (lv_at hl 1 rfl) ?_
        refine lv_iload_n hx hb dX6_poster_85 rfl (lv_at hl 2 rfl) ?_
        refine z_callV (rest := []) (st2 := [.int (nI (clrCnt σ.1 p'))]) hE hH hS hB0 hl ca_X6_overCells mkX6_88 (c_X6_overCells_6 l G B0 M3 d (sg (nI 0) (nI σ.2.1) (nI σ.2.2.2.2.2.1) at' w bm) (xs σ.1 A U L K (fun i => nI (σ.2.2.2.2.2.2 i)) SE SH BU) hM4 σ.1 (fun _ _ => rfl) hv p' (by omega)) hM4.1 rfl rfl rfl rfl rfl ⟨Nat.le_of_ble_eq_true rfl, Nat.le_of_ble_eq_true rfl⟩ (Nat.le_of_ble_eq_true rfl) ⟨Nat.le_refl _, Nat.le_refl _⟩ dX6_poster_86 (fun H locs M1 hH hp hS => ?_)
        subst hp
        have q24 := clrCnt_le σ.1 p'
        have hf : (fPoster σ (nI p') (nI 6)) = (nI (clrCnt σ.1 p')) := by
          have e1 := clr_nc hv p2
          have e2 := lie_wh hv p2
          simp [fPoster, postN, sV, h8, tx9, hw10, tx23]
          exact (post6 (e1.trans e2)).symm
        rw [hf]
        exact z_iret hE hH hS rfl ⟨⟨_, _, _, _, _, _, _, _, _, _, _, hM4, hU, hL, hK⟩, hF6⟩ dX6_poster_89
      · have tx25 : tn (nI 7) = 7 := tn_nI (by decide)
        refine lv_tableIn (tgt := 90) hx hb dX6_poster_16 (by decide +kernel) (by decide +kernel) (off := 74) (by decide +kernel) (by decide) ?_
        refine lv_aload_n hx hb dX6_poster_90 rfl (lv_at hl 0 rfl) ?_
        refine lv_iload_n hx hb dX6_poster_91 rfl (lv_at hl 1 rfl) ?_
        refine n_bipush hx hb 7 dX6_poster_92 (by decide) ?_
        refine z_callV (rest := []) (st2 := [.int (nI (lieCells σ.1 p'))]) hE hH hS hB0 hl ca_X6_overCells mkX6_88 (c_X6_overCells_7 l G B0 M3 d (sg (nI 0) (nI σ.2.1) (nI σ.2.2.2.2.2.1) at' w bm) (xs σ.1 A U L K (fun i => nI (σ.2.2.2.2.2.2 i)) SE SH BU) hM4 σ.1 (fun _ _ => rfl) hv p' (by omega)) hM4.1 rfl rfl rfl rfl rfl ⟨Nat.le_of_ble_eq_true rfl, Nat.le_of_ble_eq_true rfl⟩ (Nat.le_of_ble_eq_true rfl) ⟨Nat.le_refl _, Nat.le_refl _⟩ dX6_poster_94 (fun H locs M1 hH hp hS => ?_)
        subst hp
        have q26 := lieCells_le σ.1 p'
        refine lv_aload_n hx hb dX6_poster_97 rfl (lv_at hl 0 rfl) ?_
        refine lv_iload_n hx hb dX6_poster_98 rfl (lv_at hl 1 rfl) ?_
        refine n_iconst hx hb 5 dX6_poster_99 (by decide) ?_
        refine z_callV (rest := [.int (nI (lieCells σ.1 p'))]) (st2 := [.int (nI (seenCnt σ.1 p')), .int (nI (lieCells σ.1 p'))]) hE hH hS hB0 hl ca_X6_overCells mkX6_88 (c_X6_overCells_5 l G B0 M3 d (sg (nI 0) (nI σ.2.1) (nI σ.2.2.2.2.2.1) at' w bm) (xs σ.1 A U L K (fun i => nI (σ.2.2.2.2.2.2 i)) SE SH BU) hM4 σ.1 (fun _ _ => rfl) hv p' (by omega)) hM4.1 rfl rfl rfl rfl rfl ⟨Nat.le_of_ble_eq_true rfl, Nat.le_of_ble_eq_true rfl⟩ (Nat.le_of_ble_eq_true rfl) ⟨Nat.le_refl _, Nat.le_refl _⟩ dX6_poster_100 (fun H locs M1 hH hp hS => ?_)
        subst hp
        have q27 := seenCnt_le σ.1 p'
        refine lv_isub hx hb dX6_poster_103 ?_
        refine lv_aload_n hx hb dX6_poster_104 rfl (lv_at hl 0 rfl) ?_
        refine lv_iload_n hx hb dX6_poster_105 rfl (lv_at hl 1 rfl) ?_
        refine n_bipush hx hb 6 dX6_poster_106 (by decide) ?_
        refine z_callV (rest := [.int (nI (lieCells σ.1 p') - nI (seenCnt σ.1 p'))]) (st2 := [.int (nI (clrCnt σ.1 p')), .int (nI (lieCells σ.1 p') - nI (seenCnt σ.1 p'))]) hE hH hS hB0 hl ca_X6_overCells mkX6_88 (c_X6_overCells_6 l G B0 M3 d (sg (nI 0) (nI σ.2.1) (nI σ.2.2.2.2.2.1) at' w bm) (xs σ.1 A U L K (fun i => nI (σ.2.2.2.2.2.2 i)) SE SH BU) hM4 σ.1 (fun _ _ => rfl) hv p' (by omega)) hM4.1 rfl rfl rfl rfl rfl ⟨Nat.le_of_ble_eq_true rfl, Nat.le_of_ble_eq_true rfl⟩ (Nat.le_of_ble_eq_true rfl) ⟨Nat.le_refl _, Nat.le_refl _⟩ dX6_poster_108 (fun H locs M1 hH hp hS => ?_)
        subst hp
        have q28 := clrCnt_le σ.1 p'
        refine lv_isub hx hb dX6_poster_111 ?_
        have hf : (fPoster σ (nI p') (nI 7)) = ((nI (lieCells σ.1 p') - nI (seenCnt σ.1 p')) - (nI (clrCnt σ.1 p'))) := by
          have e1 := clr_nc hv p2
          have e2 := lie_wh hv p2
          simp [fPoster, postN, sV, h8, tx9, hw10, tx25]
          exact (post7 e1).symm
        rw [hf]
        exact z_iret hE hH hS rfl ⟨⟨_, _, _, _, _, _, _, _, _, _, _, hM4, hU, hL, hK⟩, hF6⟩ dX6_poster_112
      · have tx29 : tn (nI 8) = 8 := tn_nI (by decide)
        refine lv_tableIn (tgt := 113) hx hb dX6_poster_16 (by decide +kernel) (by decide +kernel) (off := 97) (by decide +kernel) (by decide) ?_
        refine lv_aload_n hx hb dX6_poster_113 rfl (lv_at hl 0 rfl) ?_
        refine lv_iload_n hx hb dX6_poster_114 rfl (lv_at hl 1 rfl) ?_
        refine lv_iload_n hx hb dX6_poster_115 rfl (lv_at hl 2 rfl) ?_
        refine n_iconst hx hb 3 dX6_poster_116 (by decide) ?_
        refine n_isub hx hb (by omega) dX6_poster_117 ?_
        refine z_callV (rest := []) (st2 := [.int (nI (pv σ.1 p' (8 - 3)))]) hE hH hS hB0 hl ca_X6_of mkX6_46 (c_X6_of l G B0 M3 d (sg (nI 0) (nI σ.2.1) (nI σ.2.2.2.2.2.1) at' w bm) (xs σ.1 A U L K (fun i => nI (σ.2.2.2.2.2.2 i)) SE SH BU) hM4 σ.1 (fun _ _ => rfl) hv p' (8 - 3) (by omega) (by omega)) hM4.1 rfl rfl rfl rfl rfl ⟨Nat.le_of_ble_eq_true rfl, Nat.le_of_ble_eq_true rfl⟩ (Nat.le_of_ble_eq_true rfl) ⟨Nat.le_refl _, Nat.le_refl _⟩ dX6_poster_118 (fun H locs M1 hH hp hS => ?_)
        subst hp
        have hf : (fPoster σ (nI p') (nI 8)) = (nI (pv σ.1 p' (8 - 3))) := by
          simp [fPoster, chg, sV, sN, sH, sS, sD, sL, sP, postN, h8, tx9, hw10, tx29]
          try omega
        rw [hf]
        exact z_iret hE hH hS rfl ⟨⟨_, _, _, _, _, _, _, _, _, _, _, hM4, hU, hL, hK⟩, hF6⟩ dX6_poster_121
      · have tx30 : tn (nI 9) = 9 := tn_nI (by decide)
        refine lv_tableIn (tgt := 113) hx hb dX6_poster_16 (by decide +kernel) (by decide +kernel) (off := 97) (by decide +kernel) (by decide) ?_
        refine lv_aload_n hx hb dX6_poster_113 rfl (lv_at hl 0 rfl) ?_
        refine lv_iload_n hx hb dX6_poster_114 rfl (lv_at hl 1 rfl) ?_
        refine lv_iload_n hx hb dX6_poster_115 rfl (lv_at hl 2 rfl) ?_
        refine n_iconst hx hb 3 dX6_poster_116 (by decide) ?_
        refine n_isub hx hb (by omega) dX6_poster_117 ?_
        refine z_callV (rest := []) (st2 := [.int (nI (pv σ.1 p' (9 - 3)))]) hE hH hS hB0 hl ca_X6_of mkX6_46 (c_X6_of l G B0 M3 d (sg (nI 0) (nI σ.2.1) (nI σ.2.2.2.2.2.1) at' w bm) (xs σ.1 A U L K (fun i => nI (σ.2.2.2.2.2.2 i)) SE SH BU) hM4 σ.1 (fun _ _ => rfl) hv p' (9 - 3) (by omega) (by omega)) hM4.1 rfl rfl rfl rfl rfl ⟨Nat.le_of_ble_eq_true rfl, Nat.le_of_ble_eq_true rfl⟩ (Nat.le_of_ble_eq_true rfl) ⟨Nat.le_refl _, Nat.le_refl _⟩ dX6_poster_118 (fun H locs M1 hH hp hS => ?_)
        subst hp
        have hf : (fPoster σ (nI p') (nI 9)) = (nI (pv σ.1 p' (9 - 3))) := by
          simp [fPoster, chg, sV, sN, sH, sS, sD, sL, sP, postN, h8, tx9, hw10, tx30]
          try omega
        rw [hf]
        exact z_iret hE hH hS rfl ⟨⟨_, _, _, _, _, _, _, _, _, _, _, hM4, hU, hL, hK⟩, hF6⟩ dX6_poster_121
      · have tx31 : tn (nI 10) = 10 := tn_nI (by decide)
        refine lv_tableIn (tgt := 83) hx hb dX6_poster_16 (by decide +kernel) (by decide +kernel) (off := 67) (by decide +kernel) (by decide) ?_
        refine lv_aload_n hx hb dX6_poster_83 rfl (lv_at hl 0 rfl) ?_
        refine lv_iload_n hx hb dX6_poster_84 rfl (lv_at hl 1 rfl) ?_
        refine lv_iload_n hx hb dX6_poster_85 rfl (lv_at hl 2 rfl) ?_
        refine z_callV (rest := []) (st2 := [.int (nI (zsum (cv σ.1 p') 60))]) hE hH hS hB0 hl ca_X6_overCells mkX6_88 (c_X6_overCells_10 l G B0 M3 d (sg (nI 0) (nI σ.2.1) (nI σ.2.2.2.2.2.1) at' w bm) (xs σ.1 A U L K (fun i => nI (σ.2.2.2.2.2.2 i)) SE SH BU) hM4 σ.1 (fun _ _ => rfl) hv p' (by omega)) hM4.1 rfl rfl rfl rfl rfl ⟨Nat.le_of_ble_eq_true rfl, Nat.le_of_ble_eq_true rfl⟩ (Nat.le_of_ble_eq_true rfl) ⟨Nat.le_refl _, Nat.le_refl _⟩ dX6_poster_86 (fun H locs M1 hH hp hS => ?_)
        subst hp
        have q32 : zsum (cv σ.1 p') 60 ≤ 5940 := zsum_le (fun k hk => hv.coat (by omega) hk)
        have hf : (fPoster σ (nI p') (nI 10)) = (nI (zsum (cv σ.1 p') 60)) := by
          simp [fPoster, chg, sV, sN, sH, sS, sD, sL, sP, postN, h8, tx9, hw10, tx31]
          try omega
        rw [hf]
        exact z_iret hE hH hS rfl ⟨⟨_, _, _, _, _, _, _, _, _, _, _, hM4, hU, hL, hK⟩, hF6⟩ dX6_poster_89
    · refine lv_tableOut (tgt := 122) hx hb dX6_poster_16 (wi_false (by decide) (by decide) hw10) (by decide) ?_
      refine lv_bipush (v := (-2)) hx hb dX6_poster_122 (by decide) ?_
      have hf : (fPoster σ (nI p') c) = (-2) := by
        simp [fPoster, chg, sV, sN, sH, sS, sD, sL, sP, postN, h8, tx9, hw10]
        try omega
      rw [hf]
      exact z_iret hE hH hS rfl ⟨⟨_, _, _, _, _, _, _, _, _, _, _, hM4, hU, hL, hK⟩, hF6⟩ dX6_poster_124
  · refine lv_iconst (v := (-1)) hx hb dX6_poster_13 (by decide) ?_
    have hf : (fPoster σ p c) = (-1) := by
      simp [fPoster, chg, sV, sN, sH, sS, sD, sL, sP, postN, h8]
      try omega
    rw [hf]
    exact z_iret hE hH hS rfl ⟨⟨_, _, _, _, _, _, _, _, _, _, _, hM4, hU, hL, hK⟩, hF6⟩ dX6_poster_14

set_option maxHeartbeats 4000000 in
set_option maxRecDepth 100000 in
theorem c_X6_count (l : Launch) (G : zG) (B0 : Nat) (M : Mm) (d : Nat) (σ : Sg) (hC : Mo G d σ M) (hok : sOk σ) (hBd : B0 ≤ d) (c : Int32) : zMet l yX6_count cX6_count 2 (some .int) 6 0 0 G B0 M [.ref d, .int c] (some (.int (fCount σ c))) (fun M1 => Mo G d σ M1 ∧ ∀ q, (q < d ∨ d + 10 ≤ q) → M1 q = M q) := by
  refine z_met RX6 [(0, .ref d), (1, .int c)] (by decide) rfl (Nat.le_of_ble_eq_true rfl) rfl ?_
  intro pg ev s m below meth cd ls hE hin hB0 hH hl
  have hx := hE.1
  have hb := hE.2.1
  have hv : wOk σ.1 := hok.hw
  have hn : σ.1 0 ≤ 12 := hv.1
  have hdy : σ.1 1 ≤ 9999 := hok.1.2
  have hn6 : σ.2.1 ≤ 6 := hok.2.1
  have hhv : ∀ k, k < σ.2.1 → wOk (σ.2.2.1 k) := hok.hh
  have hsv : ∀ k, k < 2 → σ.2.2.2.2.1 k = true → wOk (σ.2.2.2.1 k) := hok.hs
  have hln : σ.2.2.2.2.2.1 ≤ 60 := hok.2.2.2.2.1
  have hpc : ∀ i, i < σ.2.2.2.2.2.1 → σ.2.2.2.2.2.2 i < 128 := fun i hi => by have h7 := (hok.2.2.2.2.2 i hi).2; exact Nat.lt_of_le_of_lt h7 (by decide)
  obtain ⟨t, at', w, bm, A, U, L, K, SE, SH, BU, hM, hU, hL, hK⟩ := hC
  have hA : zArr G 0 M (d + 1) 818 (fun i => nI (σ.1 i)) := hM.s (fun _ _ => rfl)
  have hF : ∀ q, (q < d ∨ d + 10 ≤ q) → M q = M q := fun _ _ => rfl
  refine z_gen B0 (fun H locs hH hS => ?_) hH
  refine lv_aload_n hx hb dX6_count_0 rfl (lv_at hl 0 rfl) ?_
  refine n_iconst hx hb 0 dX6_count_1 (by decide) ?_
  refine z_put (T := TX6) hE hH hS hM.1 rfl uw_X6 tyX6 tyX6_ok nmX6 0 (by decide) fkX6_38 rfl rfl rfl (Nat.le_of_ble_eq_true rfl) (by omega) dX6_count_2 (fun H locs M3 hH hS e1 o2 => ?_)
  have hM4 : Md G d (sg (nI 0) (nI σ.2.1) (nI σ.2.2.2.2.2.1) at' w bm) (xs σ.1 A U L K (fun i => nI (σ.2.2.2.2.2.2 i)) SE SH BU) M3 := Md.setC hM e1 o2
  have hA5 := hM4.s (fun _ _ => rfl)
  have hF6 := fun q hq => (o2 q (by omega)).trans (hF q hq)
  refine lv_iload_n hx hb dX6_count_5 rfl (lv_at hl 1 rfl) ?_
  rcases wi_cases c 0 11 with hw7 | hw7
  · obtain ⟨c', rfl, c1, c2⟩ := wi_nat (by decide) (by decide) hw7
    rcases (show c' = 0 ∨ c' = 1 ∨ c' = 2 ∨ c' = 3 ∨ c' = 4 ∨ c' = 5 ∨ c' = 6 ∨ c' = 7 ∨ c' = 8 ∨ c' = 9 ∨ c' = 10 ∨ c' = 11 by omega) with rfl | rfl | rfl | rfl | rfl | rfl | rfl | rfl | rfl | rfl | rfl | rfl
    · have tx8 : tn (nI 0) = 0 := tn_nI (by decide)
      refine lv_tableIn (tgt := 68) hx hb dX6_count_6 (by decide +kernel) (by decide +kernel) (off := 62) (by decide +kernel) (by decide) ?_
      refine lv_aload_n hx hb dX6_count_68 rfl (lv_at hl 0 rfl) ?_
      refine z_get (T := TX6) (v := .ref (d + 1)) hE hH hM4.1 rfl uw_X6 1 (by decide) fkX6_7 rfl dX6_count_69 ?_
      refine lv_iload_n hx hb dX6_count_72 rfl (lv_at hl 1 rfl) ?_
      refine z_iald hE hH hA5 (k := 0) (by omega) (by decide) dX6_count_73 ?_
      have hf : (fCount σ (nI 0)) = (nI (σ.1 (0))) := by
        simp [fCount, chg, sV, sN, sH, sS, sD, sL, sP, cntN, fst_unlike hv, allV_eq, hw7, tx8]
        try omega
      rw [hf]
      exact z_iret hE hH hS rfl ⟨⟨_, _, _, _, _, _, _, _, _, _, _, hM4, hU, hL, hK⟩, hF6⟩ dX6_count_74
    · have tx9 : tn (nI 1) = 1 := tn_nI (by decide)
      refine lv_tableIn (tgt := 68) hx hb dX6_count_6 (by decide +kernel) (by decide +kernel) (off := 62) (by decide +kernel) (by decide) ?_
      refine lv_aload_n hx hb dX6_count_68 rfl (lv_at hl 0 rfl) ?_
      refine z_get (T := TX6) (v := .ref (d + 1)) hE hH hM4.1 rfl uw_X6 1 (by decide) fkX6_7 rfl dX6_count_69 ?_
      refine lv_iload_n hx hb dX6_count_72 rfl (lv_at hl 1 rfl) ?_
      refine z_iald hE hH hA5 (k := 1) (by omega) (by decide) dX6_count_73 ?_
      have hf : (fCount σ (nI 1)) = (nI (σ.1 (1))) := by
        simp [fCount, chg, sV, sN, sH, sS, sD, sL, sP, cntN, fst_unlike hv, allV_eq, hw7, tx9]
        try omega
      rw [hf]
      exact z_iret hE hH hS rfl ⟨⟨_, _, _, _, _, _, _, _, _, _, _, hM4, hU, hL, hK⟩, hF6⟩ dX6_count_74
    · have tx10 : tn (nI 2) = 2 := tn_nI (by decide)
      refine lv_tableIn (tgt := 75) hx hb dX6_count_6 (by decide +kernel) (by decide +kernel) (off := 69) (by decide +kernel) (by decide) ?_
      refine lv_aload_n hx hb dX6_count_75 rfl (lv_at hl 0 rfl) ?_
      refine lv_iload_n hx hb dX6_count_76 rfl (lv_at hl 1 rfl) ?_
      refine z_callV (rest := []) (st2 := [.int (nI (pricedCnt σ.1))]) hE hH hS hB0 hl ca_X6_overWall mkX6_120 (c_X6_overWall_2 l G B0 M3 d (sg (nI 0) (nI σ.2.1) (nI σ.2.2.2.2.2.1) at' w bm) σ.1 A U L K (fun i => nI (σ.2.2.2.2.2.2 i)) SE SH BU hM4 hv (by omega)) hM4.1 rfl rfl rfl rfl rfl ⟨Nat.le_of_ble_eq_true rfl, Nat.le_of_ble_eq_true rfl⟩ (Nat.le_of_ble_eq_true rfl) ⟨Nat.le_refl _, Nat.le_refl _⟩ dX6_count_77 (fun H locs M11 hH hp hS => ?_)
      obtain ⟨hM12, hG13⟩ := hp
      have hA15 := hM12.s (fun _ _ => rfl)
      have hF14 := fun q hq => (hG13 q hq).trans (hF6 q hq)
      have hf : (fCount σ (nI 2)) = (nI (pricedCnt σ.1)) := by
        simp [fCount, chg, sV, sN, sH, sS, sD, sL, sP, cntN, fst_unlike hv, allV_eq, hw7, tx10]
        try omega
      rw [hf]
      exact z_iret hE hH hS rfl ⟨⟨_, _, _, _, _, _, _, _, _, _, _, hM12, hU, hL, hK⟩, hF14⟩ dX6_count_80
    · have tx16 : tn (nI 3) = 3 := tn_nI (by decide)
      refine lv_tableIn (tgt := 75) hx hb dX6_count_6 (by decide +kernel) (by decide +kernel) (off := 69) (by decide +kernel) (by decide) ?_
      refine lv_aload_n hx hb dX6_count_75 rfl (lv_at hl 0 rfl) ?_
      refine lv_iload_n hx hb dX6_count_76 rfl (lv_at hl 1 rfl) ?_
      refine z_callV (rest := []) (st2 := [.int (nI (fstCnt σ.1))]) hE hH hS hB0 hl ca_X6_overWall mkX6_120 (c_X6_overWall_3 l G B0 M3 d (sg (nI 0) (nI σ.2.1) (nI σ.2.2.2.2.2.1) at' w bm) σ.1 A U L K (fun i => nI (σ.2.2.2.2.2.2 i)) SE SH BU hM4 hv (by omega)) hM4.1 rfl rfl rfl rfl rfl ⟨Nat.le_of_ble_eq_true rfl, Nat.le_of_ble_eq_true rfl⟩ (Nat.le_of_ble_eq_true rfl) ⟨Nat.le_refl _, Nat.le_refl _⟩ dX6_count_77 (fun H locs M17 hH hp hS => ?_)
      obtain ⟨hM18, hG19⟩ := hp
      have hA21 := hM18.s (fun _ _ => rfl)
      have hF20 := fun q hq => (hG19 q hq).trans (hF6 q hq)
      have hf : (fCount σ (nI 3)) = (nI (fstCnt σ.1)) := by
        simp [fCount, chg, sV, sN, sH, sS, sD, sL, sP, cntN, fst_unlike hv, allV_eq, hw7, tx16]
        try omega
      rw [hf]
      exact z_iret hE hH hS rfl ⟨⟨_, _, _, _, _, _, _, _, _, _, _, hM18, hU, hL, hK⟩, hF20⟩ dX6_count_80
    · have tx22 : tn (nI 4) = 4 := tn_nI (by decide)
      refine lv_tableIn (tgt := 75) hx hb dX6_count_6 (by decide +kernel) (by decide +kernel) (off := 69) (by decide +kernel) (by decide) ?_
      refine lv_aload_n hx hb dX6_count_75 rfl (lv_at hl 0 rfl) ?_
      refine lv_iload_n hx hb dX6_count_76 rfl (lv_at hl 1 rfl) ?_
      refine z_callV (rest := []) (st2 := [.int (oI (grtTo σ.1 60))]) hE hH hS hB0 hl ca_X6_overWall mkX6_120 (c_X6_overWall_4 l G B0 M3 d (sg (nI 0) (nI σ.2.1) (nI σ.2.2.2.2.2.1) at' w bm) σ.1 A U L K (fun i => nI (σ.2.2.2.2.2.2 i)) SE SH BU hM4 hv (by omega)) hM4.1 rfl rfl rfl rfl rfl ⟨Nat.le_of_ble_eq_true rfl, Nat.le_of_ble_eq_true rfl⟩ (Nat.le_of_ble_eq_true rfl) ⟨Nat.le_refl _, Nat.le_refl _⟩ dX6_count_77 (fun H locs M23 hH hp hS => ?_)
      obtain ⟨hM24, hG25⟩ := hp
      have hA27 := hM24.s (fun _ _ => rfl)
      have hF26 := fun q hq => (hG25 q hq).trans (hF6 q hq)
      have hf : (fCount σ (nI 4)) = (oI (grtTo σ.1 60)) := by
        simp [fCount, chg, sV, sN, sH, sS, sD, sL, sP, cntN, fst_unlike hv, allV_eq, hw7, tx22]
        try omega
      rw [hf]
      exact z_iret hE hH hS rfl ⟨⟨_, _, _, _, _, _, _, _, _, _, _, hM24, hU, hL, hK⟩, hF26⟩ dX6_count_80
    · have tx28 : tn (nI 5) = 5 := tn_nI (by decide)
      refine lv_tableIn (tgt := 81) hx hb dX6_count_6 (by decide +kernel) (by decide +kernel) (off := 75) (by decide +kernel) (by decide) ?_
      refine lv_aload_n hx hb dX6_count_81 rfl (lv_at hl 0 rfl) ?_
      refine lv_bipush (v := (-6)) hx hb dX6_count_82 (by decide) ?_
      refine z_callV (rest := []) (st2 := [.int (nI (sumW σ.1 (-6)))]) hE hH hS hB0 hl ca_X6_sumBut mkX6_123 (c_X6_sumBut l G B0 M3 d (sg (nI 0) (nI σ.2.1) (nI σ.2.2.2.2.2.1) at' w bm) (xs σ.1 A U L K (fun i => nI (σ.2.2.2.2.2.2 i)) SE SH BU) hM4 σ.1 (fun _ _ => rfl) hv (-6)) hM4.1 rfl rfl rfl rfl rfl ⟨Nat.le_of_ble_eq_true rfl, Nat.le_of_ble_eq_true rfl⟩ (Nat.le_of_ble_eq_true rfl) ⟨Nat.le_refl _, Nat.le_refl _⟩ dX6_count_84 (fun H locs M1 hH hp hS => ?_)
      subst hp
      have q29 := sumW_le hv (-6)
      have hf : (fCount σ (nI 5)) = (nI (sumW σ.1 (-6))) := by
        simp [fCount, chg, sV, sN, sH, sS, sD, sL, sP, cntN, fst_unlike hv, allV_eq, hw7, tx28]
        try omega
      rw [hf]
      exact z_iret hE hH hS rfl ⟨⟨_, _, _, _, _, _, _, _, _, _, _, hM4, hU, hL, hK⟩, hF6⟩ dX6_count_87
    · have tx30 : tn (nI 6) = 6 := tn_nI (by decide)
      refine lv_tableIn (tgt := 88) hx hb dX6_count_6 (by decide +kernel) (by decide +kernel) (off := 82) (by decide +kernel) (by decide) ?_
      refine lv_aload_n hx hb dX6_count_88 rfl (lv_at hl 0 rfl) ?_
      refine lv_iload_n hx hb dX6_count_89 rfl (lv_at hl 1 rfl) ?_
      refine z_callV (rest := []) (st2 := [.int (nI (unseenCnt σ.1))]) hE hH hS hB0 hl ca_X6_overPosters mkX6_126 (c_X6_overPosters_6 l G B0 M3 d (sg (nI 0) (nI σ.2.1) (nI σ.2.2.2.2.2.1) at' w bm) (xs σ.1 A U L K (fun i => nI (σ.2.2.2.2.2.2 i)) SE SH BU) hM4 σ.1 (fun _ _ => rfl) hv) hM4.1 rfl rfl rfl rfl rfl ⟨Nat.le_of_ble_eq_true rfl, Nat.le_of_ble_eq_true rfl⟩ (Nat.le_of_ble_eq_true rfl) ⟨Nat.le_refl _, Nat.le_refl _⟩ dX6_count_90 (fun H locs M1 hH hp hS => ?_)
      subst hp
      have hf : (fCount σ (nI 6)) = (nI (unseenCnt σ.1)) := by
        simp [fCount, chg, sV, sN, sH, sS, sD, sL, sP, cntN, fst_unlike hv, allV_eq, hw7, tx30]
        try omega
      rw [hf]
      exact z_iret hE hH hS rfl ⟨⟨_, _, _, _, _, _, _, _, _, _, _, hM4, hU, hL, hK⟩, hF6⟩ dX6_count_93
    · have tx31 : tn (nI 7) = 7 := tn_nI (by decide)
      refine lv_tableIn (tgt := 88) hx hb dX6_count_6 (by decide +kernel) (by decide +kernel) (off := 82) (by decide +kernel) (by decide) ?_
      refine lv_aload_n hx hb dX6_count_88 rfl (lv_at hl 0 rfl) ?_
      refine lv_iload_n hx hb dX6_count_89 rfl (lv_at hl 1 rfl) ?_
      refine z_callV (rest := []) (st2 := [.int (nI (allV σ.1))]) hE hH hS hB0 hl ca_X6_overPosters mkX6_126 (c_X6_overPosters_7 l G B0 M3 d (sg (nI 0) (nI σ.2.1) (nI σ.2.2.2.2.2.1) at' w bm) (xs σ.1 A U L K (fun i => nI (σ.2.2.2.2.2.2 i)) SE SH BU) hM4 σ.1 (fun _ _ => rfl) hv) hM4.1 rfl rfl rfl rfl rfl ⟨Nat.le_of_ble_eq_true rfl, Nat.le_of_ble_eq_true rfl⟩ (Nat.le_of_ble_eq_true rfl) ⟨Nat.le_refl _, Nat.le_refl _⟩ dX6_count_90 (fun H locs M1 hH hp hS => ?_)
      subst hp
      have hf : (fCount σ (nI 7)) = (nI (allV σ.1)) := by
        simp [fCount, chg, sV, sN, sH, sS, sD, sL, sP, cntN, fst_unlike hv, allV_eq, hw7, tx31]
        try omega
      rw [hf]
      exact z_iret hE hH hS rfl ⟨⟨_, _, _, _, _, _, _, _, _, _, _, hM4, hU, hL, hK⟩, hF6⟩ dX6_count_93
    · have tx32 : tn (nI 8) = 8 := tn_nI (by decide)
      refine lv_tableIn (tgt := 94) hx hb dX6_count_6 (by decide +kernel) (by decide +kernel) (off := 88) (by decide +kernel) (by decide) ?_
      refine lv_aload_n hx hb dX6_count_94 rfl (lv_at hl 0 rfl) ?_
      refine z_get (T := TX6) (v := .ref (d + 1)) hE hH hM4.1 rfl uw_X6 1 (by decide) fkX6_7 rfl dX6_count_95 ?_
      refine n_iconst hx hb 2 dX6_count_98 (by decide) ?_
      refine z_iald hE hH hA5 (k := 2) (by omega) (by decide) dX6_count_99 ?_
      have hf : (fCount σ (nI 8)) = (nI (σ.1 (2))) := by
        simp [fCount, chg, sV, sN, sH, sS, sD, sL, sP, cntN, fst_unlike hv, allV_eq, hw7, tx32]
        try omega
      rw [hf]
      exact z_iret hE hH hS rfl ⟨⟨_, _, _, _, _, _, _, _, _, _, _, hM4, hU, hL, hK⟩, hF6⟩ dX6_count_100
    · have tx33 : tn (nI 9) = 9 := tn_nI (by decide)
      refine lv_tableIn (tgt := 101) hx hb dX6_count_6 (by decide +kernel) (by decide +kernel) (off := 95) (by decide +kernel) (by decide) ?_
      refine lv_aload_n hx hb dX6_count_101 rfl (lv_at hl 0 rfl) ?_
      refine z_get (T := TX6) (v := .ref (d + 1)) hE hH hM4.1 rfl uw_X6 1 (by decide) fkX6_7 rfl dX6_count_102 ?_
      refine n_iconst hx hb 3 dX6_count_105 (by decide) ?_
      refine z_iald hE hH hA5 (k := 3) (by omega) (by decide) dX6_count_106 ?_
      have hf : (fCount σ (nI 9)) = (nI (σ.1 (3))) := by
        simp [fCount, chg, sV, sN, sH, sS, sD, sL, sP, cntN, fst_unlike hv, allV_eq, hw7, tx33]
        try omega
      rw [hf]
      exact z_iret hE hH hS rfl ⟨⟨_, _, _, _, _, _, _, _, _, _, _, hM4, hU, hL, hK⟩, hF6⟩ dX6_count_107
    · have tx34 : tn (nI 10) = 10 := tn_nI (by decide)
      refine lv_tableIn (tgt := 108) hx hb dX6_count_6 (by decide +kernel) (by decide +kernel) (off := 102) (by decide +kernel) (by decide) ?_
      refine lv_aload_n hx hb dX6_count_108 rfl (lv_at hl 0 rfl) ?_
      refine z_get (T := TX6) (v := .int (nI σ.2.2.2.2.2.1)) hE hH hM4.1 rfl uw_X6 8 (by decide) fkX6_104 rfl dX6_count_109 ?_
      have hf : (fCount σ (nI 10)) = (nI σ.2.2.2.2.2.1) := by
        simp [fCount, chg, sV, sN, sH, sS, sD, sL, sP, cntN, fst_unlike hv, allV_eq, hw7, tx34]
        try omega
      rw [hf]
      exact z_iret hE hH hS rfl ⟨⟨_, _, _, _, _, _, _, _, _, _, _, hM4, hU, hL, hK⟩, hF6⟩ dX6_count_112
    · have tx35 : tn (nI 11) = 11 := tn_nI (by decide)
      refine lv_tableIn (tgt := 113) hx hb dX6_count_6 (by decide +kernel) (by decide +kernel) (off := 107) (by decide +kernel) (by decide) ?_
      refine lv_aload_n hx hb dX6_count_113 rfl (lv_at hl 0 rfl) ?_
      refine z_get (T := TX6) (v := .int (nI σ.2.1)) hE hH hM4.1 rfl uw_X6 4 (by decide) fkX6_50 rfl dX6_count_114 ?_
      have hf : (fCount σ (nI 11)) = (nI σ.2.1) := by
        simp [fCount, chg, sV, sN, sH, sS, sD, sL, sP, cntN, fst_unlike hv, allV_eq, hw7, tx35]
        try omega
      rw [hf]
      exact z_iret hE hH hS rfl ⟨⟨_, _, _, _, _, _, _, _, _, _, _, hM4, hU, hL, hK⟩, hF6⟩ dX6_count_117
  · refine lv_tableOut (tgt := 118) hx hb dX6_count_6 (wi_false (by decide) (by decide) hw7) (by decide) ?_
    refine lv_bipush (v := (-2)) hx hb dX6_count_118 (by decide) ?_
    have hf : (fCount σ c) = (-2) := by
      simp [fCount, chg, sV, sN, sH, sS, sD, sL, sP, cntN, fst_unlike hv, allV_eq, hw7]
      try omega
    rw [hf]
    exact z_iret hE hH hS rfl ⟨⟨_, _, _, _, _, _, _, _, _, _, _, hM4, hU, hL, hK⟩, hF6⟩ dX6_count_120

set_option maxHeartbeats 4000000 in
set_option maxRecDepth 100000 in
theorem c_X6_ifPassed (l : Launch) (G : zG) (B0 : Nat) (M : Mm) (d : Nat) (σ : Sg) (hC : Mo G d σ M) (hok : sOk σ) (hBd : B0 ≤ d) (d0 c : Int32) : zMet l yX6_ifPassed cX6_ifPassed 5 (some .int) 5 0 0 G B0 M [.ref d, .int d0, .int c] (some (.int (fIf σ d0 c))) (fun M1 => Mo G d σ M1 ∧ ∀ q, (q < d ∨ d + 10 ≤ q) → M1 q = M q) := by
  refine z_met RX6 [(0, .ref d), (1, .int d0), (2, .int c)] (by decide) rfl (Nat.le_of_ble_eq_true rfl) rfl ?_
  intro pg ev s m below meth cd ls hE hin hB0 hH hl
  have hx := hE.1
  have hb := hE.2.1
  have hv : wOk σ.1 := hok.hw
  have hn : σ.1 0 ≤ 12 := hv.1
  have hdy : σ.1 1 ≤ 9999 := hok.1.2
  have hn6 : σ.2.1 ≤ 6 := hok.2.1
  have hhv : ∀ k, k < σ.2.1 → wOk (σ.2.2.1 k) := hok.hh
  have hsv : ∀ k, k < 2 → σ.2.2.2.2.1 k = true → wOk (σ.2.2.2.1 k) := hok.hs
  have hln : σ.2.2.2.2.2.1 ≤ 60 := hok.2.2.2.2.1
  have hpc : ∀ i, i < σ.2.2.2.2.2.1 → σ.2.2.2.2.2.2 i < 128 := fun i hi => by have h7 := (hok.2.2.2.2.2 i hi).2; exact Nat.lt_of_le_of_lt h7 (by decide)
  obtain ⟨t, at', w, bm, A, U, L, K, SE, SH, BU, hM, hU, hL, hK⟩ := hC
  have hA : zArr G 0 M (d + 1) 818 (fun i => nI (σ.1 i)) := hM.s (fun _ _ => rfl)
  have hF : ∀ q, (q < d ∨ d + 10 ≤ q) → M q = M q := fun _ _ => rfl
  refine z_gen B0 (fun H locs hH hS => ?_) hH
  refine lv_aload_n hx hb dX6_ifPassed_0 rfl (lv_at hl 0 rfl) ?_
  refine n_iconst hx hb 0 dX6_ifPassed_1 (by decide) ?_
  refine z_put (T := TX6) hE hH hS hM.1 rfl uw_X6 tyX6 tyX6_ok nmX6 0 (by decide) fkX6_38 rfl rfl rfl (Nat.le_of_ble_eq_true rfl) (by omega) dX6_ifPassed_2 (fun H locs M3 hH hS e1 o2 => ?_)
  have hM4 : Md G d (sg (nI 0) (nI σ.2.1) (nI σ.2.2.2.2.2.1) at' w bm) (xs σ.1 A U L K (fun i => nI (σ.2.2.2.2.2.2 i)) SE SH BU) M3 := Md.setC hM e1 o2
  have hA5 := hM4.s (fun _ _ => rfl)
  have hF6 := fun q hq => (o2 q (by omega)).trans (hF q hq)
  refine lv_iload_n hx hb dX6_ifPassed_5 rfl (lv_at hl 1 rfl) ?_
  refine n_iconst hx hb 1 dX6_ifPassed_6 (by decide) ?_
  refine n_bipush hx hb 100 dX6_ifPassed_7 (by decide) ?_
  refine z_callS (rest := []) (st2 := [.int (zb (wi d0 (nI 1) (nI 100)))]) hE hH hS hB0 hl ca_X6_in mkX6_42 (c_X6_in l G B0 M3 d0 (nI 1) (nI 100)) rfl rfl rfl ⟨Nat.le_of_ble_eq_true rfl, Nat.le_of_ble_eq_true rfl⟩ (Nat.le_of_ble_eq_true rfl) ⟨Nat.le_refl _, Nat.le_refl _⟩ dX6_ifPassed_9 (fun H locs M1 hH hp hS => ?_)
  subst hp
  refine b_if_eq (tgt := 24) hx hb dX6_ifPassed_12 (by decide) (fun h8 => ?_) (fun h8 => ?_)
  · refine lv_bipush (v := (-2)) hx hb dX6_ifPassed_24 (by decide) ?_
    have hf : (fIf σ d0 c) = (-2) := by
      simp [fIf, chg, sV, sN, sH, sS, sD, sL, sP, h8]
      try omega
    rw [hf]
    exact z_iret hE hH hS rfl ⟨⟨_, _, _, _, _, _, _, _, _, _, _, hM4, hU, hL, hK⟩, hF6⟩ dX6_ifPassed_26
  · obtain ⟨d0', rfl, d01, d02⟩ := wi_nat (by decide) (by decide) h8
    have tx9 : tn (nI d0') = d0' := tn_nI (by omega)
    refine lv_iload_n hx hb dX6_ifPassed_15 rfl (lv_at hl 2 rfl) ?_
    refine n_iconst hx hb 0 dX6_ifPassed_16 (by decide) ?_
    refine n_iconst hx hb 2 dX6_ifPassed_17 (by decide) ?_
    refine z_callS (rest := []) (st2 := [.int (zb (wi c (nI 0) (nI 2)))]) hE hH hS hB0 hl ca_X6_in mkX6_42 (c_X6_in l G B0 M3 c (nI 0) (nI 2)) rfl rfl rfl ⟨Nat.le_of_ble_eq_true rfl, Nat.le_of_ble_eq_true rfl⟩ (Nat.le_of_ble_eq_true rfl) ⟨Nat.le_refl _, Nat.le_refl _⟩ dX6_ifPassed_18 (fun H locs M1 hH hp hS => ?_)
    subst hp
    refine b_if_ne (tgt := 27) hx hb dX6_ifPassed_21 (by decide) (fun h11 => ?_) (fun h11 => ?_)
    · obtain ⟨c', rfl, c1, c2⟩ := wi_nat (by decide) (by decide) h11
      have tx12 : tn (nI c') = c' := tn_nI (by omega)
      refine lv_aload_n hx hb dX6_ifPassed_27 rfl (lv_at hl 0 rfl) ?_
      refine z_callV (rest := []) (st2 := []) hE hH hS hB0 hl ca_X6_putAside mkX6_129 (c_X6_putAside l G B0 M3 d (sg (nI 0) (nI σ.2.1) (nI σ.2.2.2.2.2.1) at' w bm) σ.1 A U L K (fun i => nI (σ.2.2.2.2.2.2 i)) SE SH BU hM4 hv (by omega) ) hM4.1 rfl rfl rfl rfl rfl ⟨Nat.le_of_ble_eq_true rfl, Nat.le_of_ble_eq_true rfl⟩ (Nat.le_of_ble_eq_true rfl) ⟨Nat.le_refl _, Nat.le_refl _⟩ dX6_ifPassed_28 (fun H locs M13 hH hp hS => ?_)
      obtain ⟨hM14, hG15⟩ := hp
      have hA17 := hM14.s (fun _ _ => rfl)
      have hF16 := fun q hq => (hG15 q hq).trans (hF6 q hq)
      refine lv_aload_n hx hb dX6_ifPassed_31 rfl (lv_at hl 0 rfl) ?_
      refine z_callV (rest := []) (st2 := []) hE hH hS hB0 hl ca_X6_laysShown mkX6_117 (c_X6_laysShown l G B0 M13 d (sg (nI 0) (nI σ.2.1) (nI σ.2.2.2.2.2.1) at' w bm) σ.1 (fun i => nI (σ.1 i)) U L K (fun i => nI (σ.2.2.2.2.2.2 i)) SE SH BU hM14 hv (by omega) ) hM14.1 rfl rfl rfl rfl rfl ⟨Nat.le_of_ble_eq_true rfl, Nat.le_of_ble_eq_true rfl⟩ (Nat.le_of_ble_eq_true rfl) ⟨Nat.le_refl _, Nat.le_refl _⟩ dX6_ifPassed_32 (fun H locs M18 hH hp hS => ?_)
      obtain ⟨hM19, hG20⟩ := hp
      have hA22 := hM19.s (fun _ _ => rfl)
      have hF21 := fun q hq => (hG20 q hq).trans (hF16 q hq)
      refine lv_aload_n hx hb dX6_ifPassed_35 rfl (lv_at hl 0 rfl) ?_
      refine lv_iload_n hx hb dX6_ifPassed_36 rfl (lv_at hl 1 rfl) ?_
      refine z_callV (rest := []) (st2 := [.int (nI (dysN σ.1 d0'))]) hE hH hS hB0 hl ca_X6_days mkX6_110 (c_X6_days l G B0 M18 d (sg (nI 0) (nI σ.2.1) (nI σ.2.2.2.2.2.1) at' w bm) σ.1 (fun i => nI (σ.1 i)) U L K (fun i => nI (σ.2.2.2.2.2.2 i)) SE (fun k => oI (prc σ.1 (-6) k)) BU hM19 hv (by omega) d0' (by omega) (by omega)) hM19.1 rfl rfl rfl rfl rfl ⟨Nat.le_of_ble_eq_true rfl, Nat.le_of_ble_eq_true rfl⟩ (Nat.le_of_ble_eq_true rfl) ⟨Nat.le_refl _, Nat.le_refl _⟩ dX6_ifPassed_37 (fun H locs M23 hH hp hS => ?_)
      obtain ⟨SE24, hM25, hG26⟩ := hp
      have hv28 : wOk (dysV σ.1 d0') := (dysV_ok hv _ (by omega)).1
      have hA29 := hM25.s (fun _ _ => rfl)
      have hF27 := fun q hq => (hG26 q hq).trans (hF21 q hq)
      refine lv_istore_n (lv' := [(3, .int (nI (dysN σ.1 d0'))), (0, .ref d), (1, .int (nI d0')), (2, .int (nI c'))]) hx hb dX6_ifPassed_40 rfl hl (by decide) rfl (fun ls hl => ?_)
      have hdn : dysN σ.1 d0' = fadS σ.1 d0' := (dys_fad hn (by omega)).2.2
      have hdo := dys_oth (v := σ.1) hn (t := d0') (by omega)
      have hds := dys_sum (v := σ.1) hn (t := d0') (by omega) (-6)
      refine lv_iload_n hx hb dX6_ifPassed_41 rfl (lv_at hl 3 rfl) ?_
      refine n_if_ne (tgt := 49) hx hb (by omega) dX6_ifPassed_42 (by decide) (fun h30 => ?_) (fun h30 => ?_)
      · refine lv_iload_n hx hb dX6_ifPassed_49 rfl (lv_at hl 3 rfl) ?_
        refine n_iconst hx hb 1 dX6_ifPassed_50 (by decide) ?_
        refine n_cmp_ne (tgt := 61) hx hb (by omega) (by decide) dX6_ifPassed_51 (by decide) (fun h31 => ?_) (fun h31 => ?_)
        · refine lv_aload_n hx hb dX6_ifPassed_61 rfl (lv_at hl 1 rfl) ?_
          refine lv_bipush (v := (-6)) hx hb dX6_ifPassed_62 (by decide) ?_
          refine z_callV (rest := []) (st2 := [.int (nI (sumW (dysV σ.1 d0') (-6)))]) hE hH hS hB0 hl ca_X6_sumBut mkX6_123 (c_X6_sumBut l G B0 M23 d (sg (nI 0) (nI σ.2.1) (nI σ.2.2.2.2.2.1) at' w bm) (xs (dysV σ.1 d0') (fun i => nI (σ.1 i)) U L K (fun i => nI (σ.2.2.2.2.2.2 i)) SE24 (fun k => oI (prc σ.1 (-6) k)) BU) hM25 (dysV σ.1 d0') (fun _ _ => rfl) hv28 (-6)) hM25.1 rfl rfl rfl rfl rfl ⟨Nat.le_of_ble_eq_true rfl, Nat.le_of_ble_eq_true rfl⟩ (Nat.le_of_ble_eq_true rfl) ⟨Nat.le_refl _, Nat.le_refl _⟩ dX6_ifPassed_64 (fun H locs M1 hH hp hS => ?_)
          subst hp
          have q32 := sumW_le hv28 (-6)
          refine lv_istore (lv' := [(4, .int (nI (sumW (dysV σ.1 d0') (-6)))), (3, .int (nI (dysN σ.1 d0'))), (0, .ref d), (1, .int (nI d0')), (2, .int (nI c'))]) hx hb dX6_ifPassed_67 hl (by decide) rfl (fun ls hl => ?_)
          refine lv_aload_n hx hb dX6_ifPassed_69 rfl (lv_at hl 2 rfl) ?_
          refine z_callV (rest := []) (st2 := []) hE hH hS hB0 hl ca_X6_takeBack mkX6_135 (c_X6_takeBack l G B0 M23 d (sg (nI 0) (nI σ.2.1) (nI σ.2.2.2.2.2.1) at' w bm) (dysV σ.1 d0') σ.1 U L K (fun i => nI (σ.2.2.2.2.2.2 i)) SE24 (fun k => oI (prc σ.1 (-6) k)) BU hM25 (by omega)) hM25.1 rfl rfl rfl rfl rfl ⟨Nat.le_of_ble_eq_true rfl, Nat.le_of_ble_eq_true rfl⟩ (Nat.le_of_ble_eq_true rfl) ⟨Nat.le_refl _, Nat.le_refl _⟩ dX6_ifPassed_70 (fun H locs M33 hH hp hS => ?_)
          obtain ⟨hM34, hG35⟩ := hp
          have hA37 := hM34.s (fun _ _ => rfl)
          have hF36 := fun q hq => (hG35 q hq).trans (hF27 q hq)
          refine lv_iload hx hb dX6_ifPassed_73 (lv_at hl 0 rfl) ?_
          have hf : (fIf σ (nI d0') (nI c')) = (nI (sumW (dysV σ.1 d0') (-6))) := by
            unfold fIf
            rw [if_neg (by rw [h8]; decide), if_neg (by rw [h11]; decide), tx9, tx12]
            rw [if_neg (by omega), if_neg (by omega), hds]
          rw [hf]
          exact z_iret hE hH hS rfl ⟨⟨_, _, _, _, _, _, _, _, _, _, _, hM34, hU, hL, hK⟩, hF36⟩ dX6_ifPassed_75
        · refine lv_aload_n hx hb dX6_ifPassed_54 rfl (lv_at hl 1 rfl) ?_
          refine z_callV (rest := []) (st2 := [.int (nI (othN (dysV σ.1 d0') (prc σ.1 (-6))))]) hE hH hS hB0 hl ca_X6_others mkX6_132 (c_X6_others l G B0 M23 d (sg (nI 0) (nI σ.2.1) (nI σ.2.2.2.2.2.1) at' w bm) (xs (dysV σ.1 d0') (fun i => nI (σ.1 i)) U L K (fun i => nI (σ.2.2.2.2.2.2 i)) SE24 (fun k => oI (prc σ.1 (-6) k)) BU) hM25 (dysV σ.1 d0') (fun _ _ => rfl) hv28 (prc σ.1 (-6)) (fun k _ => rfl) (fun k => prc_ob31 hv)) hM25.1 rfl rfl rfl rfl rfl ⟨Nat.le_of_ble_eq_true rfl, Nat.le_of_ble_eq_true rfl⟩ (Nat.le_of_ble_eq_true rfl) ⟨Nat.le_refl _, Nat.le_refl _⟩ dX6_ifPassed_55 (fun H locs M1 hH hp hS => ?_)
          subst hp
          have q38 := othN_le (dysV σ.1 d0') (prc σ.1 (-6))
          refine lv_goto (tgt := 67) hx hb dX6_ifPassed_58 (by decide) ?_
          refine lv_istore (lv' := [(4, .int (nI (othN (dysV σ.1 d0') (prc σ.1 (-6))))), (3, .int (nI (dysN σ.1 d0'))), (0, .ref d), (1, .int (nI d0')), (2, .int (nI c'))]) hx hb dX6_ifPassed_67 hl (by decide) rfl (fun ls hl => ?_)
          refine lv_aload_n hx hb dX6_ifPassed_69 rfl (lv_at hl 2 rfl) ?_
          refine z_callV (rest := []) (st2 := []) hE hH hS hB0 hl ca_X6_takeBack mkX6_135 (c_X6_takeBack l G B0 M23 d (sg (nI 0) (nI σ.2.1) (nI σ.2.2.2.2.2.1) at' w bm) (dysV σ.1 d0') σ.1 U L K (fun i => nI (σ.2.2.2.2.2.2 i)) SE24 (fun k => oI (prc σ.1 (-6) k)) BU hM25 (by omega)) hM25.1 rfl rfl rfl rfl rfl ⟨Nat.le_of_ble_eq_true rfl, Nat.le_of_ble_eq_true rfl⟩ (Nat.le_of_ble_eq_true rfl) ⟨Nat.le_refl _, Nat.le_refl _⟩ dX6_ifPassed_70 (fun H locs M39 hH hp hS => ?_)
          obtain ⟨hM40, hG41⟩ := hp
          have hA43 := hM40.s (fun _ _ => rfl)
          have hF42 := fun q hq => (hG41 q hq).trans (hF27 q hq)
          refine lv_iload hx hb dX6_ifPassed_73 (lv_at hl 0 rfl) ?_
          have hf : (fIf σ (nI d0') (nI c')) = (nI (othN (dysV σ.1 d0') (prc σ.1 (-6)))) := by
            unfold fIf
            rw [if_neg (by rw [h8]; decide), if_neg (by rw [h11]; decide), tx9, tx12]
            rw [if_neg (by omega), if_pos (by omega), hdo]
          rw [hf]
          exact z_iret hE hH hS rfl ⟨⟨_, _, _, _, _, _, _, _, _, _, _, hM40, hU, hL, hK⟩, hF42⟩ dX6_ifPassed_75
      · refine lv_iload_n hx hb dX6_ifPassed_45 rfl (lv_at hl 0 rfl) ?_
        refine lv_goto (tgt := 67) hx hb dX6_ifPassed_46 (by decide) ?_
        refine lv_istore (lv' := [(4, .int (nI (dysN σ.1 d0'))), (3, .int (nI (dysN σ.1 d0'))), (0, .ref d), (1, .int (nI d0')), (2, .int (nI c'))]) hx hb dX6_ifPassed_67 hl (by decide) rfl (fun ls hl => ?_)
        refine lv_aload_n hx hb dX6_ifPassed_69 rfl (lv_at hl 2 rfl) ?_
        refine z_callV (rest := []) (st2 := []) hE hH hS hB0 hl ca_X6_takeBack mkX6_135 (c_X6_takeBack l G B0 M23 d (sg (nI 0) (nI σ.2.1) (nI σ.2.2.2.2.2.1) at' w bm) (dysV σ.1 d0') σ.1 U L K (fun i => nI (σ.2.2.2.2.2.2 i)) SE24 (fun k => oI (prc σ.1 (-6) k)) BU hM25 (by omega)) hM25.1 rfl rfl rfl rfl rfl ⟨Nat.le_of_ble_eq_true rfl, Nat.le_of_ble_eq_true rfl⟩ (Nat.le_of_ble_eq_true rfl) ⟨Nat.le_refl _, Nat.le_refl _⟩ dX6_ifPassed_70 (fun H locs M44 hH hp hS => ?_)
        obtain ⟨hM45, hG46⟩ := hp
        have hA48 := hM45.s (fun _ _ => rfl)
        have hF47 := fun q hq => (hG46 q hq).trans (hF27 q hq)
        refine lv_iload hx hb dX6_ifPassed_73 (lv_at hl 0 rfl) ?_
        have hf : (fIf σ (nI d0') (nI c')) = (nI (dysN σ.1 d0')) := by
          unfold fIf
          rw [if_neg (by rw [h8]; decide), if_neg (by rw [h11]; decide), tx9, tx12]
          rw [if_pos (by omega), hdn]
        rw [hf]
        exact z_iret hE hH hS rfl ⟨⟨_, _, _, _, _, _, _, _, _, _, _, hM45, hU, hL, hK⟩, hF47⟩ dX6_ifPassed_75
    · refine lv_bipush (v := (-2)) hx hb dX6_ifPassed_24 (by decide) ?_
      have hf : (fIf σ (nI d0') c) = (-2) := by
        simp [fIf, chg, sV, sN, sH, sS, sD, sL, sP, h8, tx9, h11]
        try omega
      rw [hf]
      exact z_iret hE hH hS rfl ⟨⟨_, _, _, _, _, _, _, _, _, _, _, hM4, hU, hL, hK⟩, hF6⟩ dX6_ifPassed_26

set_option maxHeartbeats 4000000 in
set_option maxRecDepth 100000 in
theorem c_X6_willShow (l : Launch) (G : zG) (B0 : Nat) (M : Mm) (d : Nat) (σ : Sg) (hC : Mo G d σ M) (hok : sOk σ) (hBd : B0 ≤ d) (x y d0 : Int32) : zMet l yX6_willShow cX6_willShow 5 (some .int) 5 0 0 G B0 M [.ref d, .int x, .int y, .int d0] (some (.int (fWill σ x y d0))) (fun M1 => Mo G d σ M1 ∧ ∀ q, (q < d ∨ d + 10 ≤ q) → M1 q = M q) := by
  refine z_met RX6 [(0, .ref d), (1, .int x), (2, .int y), (3, .int d0)] (by decide) rfl (Nat.le_of_ble_eq_true rfl) rfl ?_
  intro pg ev s m below meth cd ls hE hin hB0 hH hl
  have hx := hE.1
  have hb := hE.2.1
  have hv : wOk σ.1 := hok.hw
  have hn : σ.1 0 ≤ 12 := hv.1
  have hdy : σ.1 1 ≤ 9999 := hok.1.2
  have hn6 : σ.2.1 ≤ 6 := hok.2.1
  have hhv : ∀ k, k < σ.2.1 → wOk (σ.2.2.1 k) := hok.hh
  have hsv : ∀ k, k < 2 → σ.2.2.2.2.1 k = true → wOk (σ.2.2.2.1 k) := hok.hs
  have hln : σ.2.2.2.2.2.1 ≤ 60 := hok.2.2.2.2.1
  have hpc : ∀ i, i < σ.2.2.2.2.2.1 → σ.2.2.2.2.2.2 i < 128 := fun i hi => by have h7 := (hok.2.2.2.2.2 i hi).2; exact Nat.lt_of_le_of_lt h7 (by decide)
  obtain ⟨t, at', w, bm, A, U, L, K, SE, SH, BU, hM, hU, hL, hK⟩ := hC
  have hA : zArr G 0 M (d + 1) 818 (fun i => nI (σ.1 i)) := hM.s (fun _ _ => rfl)
  have hF : ∀ q, (q < d ∨ d + 10 ≤ q) → M q = M q := fun _ _ => rfl
  refine z_gen B0 (fun H locs hH hS => ?_) hH
  refine lv_aload_n hx hb dX6_willShow_0 rfl (lv_at hl 0 rfl) ?_
  refine n_iconst hx hb 0 dX6_willShow_1 (by decide) ?_
  refine z_put (T := TX6) hE hH hS hM.1 rfl uw_X6 tyX6 tyX6_ok nmX6 0 (by decide) fkX6_38 rfl rfl rfl (Nat.le_of_ble_eq_true rfl) (by omega) dX6_willShow_2 (fun H locs M3 hH hS e1 o2 => ?_)
  have hM4 : Md G d (sg (nI 0) (nI σ.2.1) (nI σ.2.2.2.2.2.1) at' w bm) (xs σ.1 A U L K (fun i => nI (σ.2.2.2.2.2.2 i)) SE SH BU) M3 := Md.setC hM e1 o2
  have hA5 := hM4.s (fun _ _ => rfl)
  have hF6 := fun q hq => (o2 q (by omega)).trans (hF q hq)
  refine lv_iload_n hx hb dX6_willShow_5 rfl (lv_at hl 1 rfl) ?_
  refine lv_iload_n hx hb dX6_willShow_6 rfl (lv_at hl 2 rfl) ?_
  refine z_callS (rest := []) (st2 := [.int (zb (isC x y))]) hE hH hS hB0 hl ca_X6_isCell mkX6_78 (c_X6_isCell l G B0 M3 x y) rfl rfl rfl ⟨Nat.le_of_ble_eq_true rfl, Nat.le_of_ble_eq_true rfl⟩ (Nat.le_of_ble_eq_true rfl) ⟨Nat.le_refl _, Nat.le_refl _⟩ dX6_willShow_7 (fun H locs M1 hH hp hS => ?_)
  subst hp
  refine b_if_ne (tgt := 15) hx hb dX6_willShow_10 (by decide) (fun h8 => ?_) (fun h8 => ?_)
  · obtain ⟨x', y', rfl, rfl, x9, y9⟩ := isC_nat h8
    have tx9 : tn (nI x') = x' := tn_nI (by omega)
    have tx10 : tn (nI y') = y' := tn_nI (by omega)
    refine lv_iload_n hx hb dX6_willShow_15 rfl (lv_at hl 3 rfl) ?_
    refine n_iconst hx hb 1 dX6_willShow_16 (by decide) ?_
    refine n_sipush hx hb 200 dX6_willShow_17 (by decide) ?_
    refine z_callS (rest := []) (st2 := [.int (zb (wi d0 (nI 1) (nI 200)))]) hE hH hS hB0 hl ca_X6_in mkX6_42 (c_X6_in l G B0 M3 d0 (nI 1) (nI 200)) rfl rfl rfl ⟨Nat.le_of_ble_eq_true rfl, Nat.le_of_ble_eq_true rfl⟩ (Nat.le_of_ble_eq_true rfl) ⟨Nat.le_refl _, Nat.le_refl _⟩ dX6_willShow_20 (fun H locs M1 hH hp hS => ?_)
    subst hp
    refine b_if_ne (tgt := 29) hx hb dX6_willShow_23 (by decide) (fun h12 => ?_) (fun h12 => ?_)
    · obtain ⟨d0', rfl, d01, d02⟩ := wi_nat (by decide) (by decide) h12
      have tx13 : tn (nI d0') = d0' := tn_nI (by omega)
      refine lv_aload_n hx hb dX6_willShow_29 rfl (lv_at hl 0 rfl) ?_
      refine z_callV (rest := []) (st2 := []) hE hH hS hB0 hl ca_X6_putAside mkX6_129 (c_X6_putAside l G B0 M3 d (sg (nI 0) (nI σ.2.1) (nI σ.2.2.2.2.2.1) at' w bm) σ.1 A U L K (fun i => nI (σ.2.2.2.2.2.2 i)) SE SH BU hM4 hv (by omega) ) hM4.1 rfl rfl rfl rfl rfl ⟨Nat.le_of_ble_eq_true rfl, Nat.le_of_ble_eq_true rfl⟩ (Nat.le_of_ble_eq_true rfl) ⟨Nat.le_refl _, Nat.le_refl _⟩ dX6_willShow_30 (fun H locs M14 hH hp hS => ?_)
      obtain ⟨hM15, hG16⟩ := hp
      have hA18 := hM15.s (fun _ _ => rfl)
      have hF17 := fun q hq => (hG16 q hq).trans (hF6 q hq)
      refine lv_aload_n hx hb dX6_willShow_33 rfl (lv_at hl 0 rfl) ?_
      refine lv_iload_n hx hb dX6_willShow_34 rfl (lv_at hl 3 rfl) ?_
      refine z_callV (rest := []) (st2 := [.int (nI (dysN σ.1 d0'))]) hE hH hS hB0 hl ca_X6_days mkX6_110 (c_X6_days l G B0 M14 d (sg (nI 0) (nI σ.2.1) (nI σ.2.2.2.2.2.1) at' w bm) σ.1 (fun i => nI (σ.1 i)) U L K (fun i => nI (σ.2.2.2.2.2.2 i)) SE SH BU hM15 hv (by omega) d0' (by omega) (by omega)) hM15.1 rfl rfl rfl rfl rfl ⟨Nat.le_of_ble_eq_true rfl, Nat.le_of_ble_eq_true rfl⟩ (Nat.le_of_ble_eq_true rfl) ⟨Nat.le_refl _, Nat.le_refl _⟩ dX6_willShow_35 (fun H locs M19 hH hp hS => ?_)
      obtain ⟨SE20, hM21, hG22⟩ := hp
      have hv24 : wOk (dysV σ.1 d0') := (dysV_ok hv _ (by omega)).1
      have hA25 := hM21.s (fun _ _ => rfl)
      have hF23 := fun q hq => (hG22 q hq).trans (hF17 q hq)
      refine lv_pop hx hb dX6_willShow_38 rfl ?_
      refine lv_aload_n hx hb dX6_willShow_39 rfl (lv_at hl 0 rfl) ?_
      refine n_bipush hx hb 10 dX6_willShow_40 (by decide) ?_
      refine lv_iload_n hx hb dX6_willShow_42 rfl (lv_at hl 2 rfl) ?_
      refine n_imul hx hb dX6_willShow_43 ?_
      refine lv_iload_n hx hb dX6_willShow_44 rfl (lv_at hl 1 rfl) ?_
      refine n_iadd hx hb dX6_willShow_45 ?_
      refine z_topeq (show nI ((10 * y') + x') = nI (y' * 10 + x') from by rw [show (10 * y') + x' = y' * 10 + x' by omega]) ?_
      refine z_callV (rest := []) (st2 := [.int (oI (prc (dysV σ.1 d0') (-6) (y' * 10 + x')))]) hE hH hS hB0 hl ca_X6_priceAt mkX6_74 (c_X6_priceAt l G B0 M19 d (sg (nI 0) (nI σ.2.1) (nI σ.2.2.2.2.2.1) at' w bm) (xs (dysV σ.1 d0') (fun i => nI (σ.1 i)) U L K (fun i => nI (σ.2.2.2.2.2.2 i)) SE20 SH BU) hM21 (dysV σ.1 d0') (fun _ _ => rfl) hv24 (y' * 10 + x') (by omega)) hM21.1 rfl rfl rfl rfl rfl ⟨Nat.le_of_ble_eq_true rfl, Nat.le_of_ble_eq_true rfl⟩ (Nat.le_of_ble_eq_true rfl) ⟨Nat.le_refl _, Nat.le_refl _⟩ dX6_willShow_46 (fun H locs M1 hH hp hS => ?_)
      subst hp
      refine lv_istore (lv' := [(4, .int (oI (prc (dysV σ.1 d0') (-6) (y' * 10 + x')))), (0, .ref d), (1, .int (nI x')), (2, .int (nI y')), (3, .int (nI d0'))]) hx hb dX6_willShow_49 hl (by decide) rfl (fun ls hl => ?_)
      refine lv_aload_n hx hb dX6_willShow_51 rfl (lv_at hl 1 rfl) ?_
      refine z_callV (rest := []) (st2 := []) hE hH hS hB0 hl ca_X6_takeBack mkX6_135 (c_X6_takeBack l G B0 M19 d (sg (nI 0) (nI σ.2.1) (nI σ.2.2.2.2.2.1) at' w bm) (dysV σ.1 d0') σ.1 U L K (fun i => nI (σ.2.2.2.2.2.2 i)) SE20 SH BU hM21 (by omega)) hM21.1 rfl rfl rfl rfl rfl ⟨Nat.le_of_ble_eq_true rfl, Nat.le_of_ble_eq_true rfl⟩ (Nat.le_of_ble_eq_true rfl) ⟨Nat.le_refl _, Nat.le_refl _⟩ dX6_willShow_52 (fun H locs M26 hH hp hS => ?_)
      obtain ⟨hM27, hG28⟩ := hp
      have hA30 := hM27.s (fun _ _ => rfl)
      have hF29 := fun q hq => (hG28 q hq).trans (hF23 q hq)
      refine lv_iload hx hb dX6_willShow_55 (lv_at hl 0 rfl) ?_
      have hf : (fWill σ (nI x') (nI y') (nI d0')) = (oI (prc (dysV σ.1 d0') (-6) (y' * 10 + x'))) := by
        have e := dys_fadV (v := σ.1) hn (t := d0') (by omega) (c := y' * 10 + x') (by omega)
        rw [e]
        simp [fWill, sV, h8, tx9, tx10, h12, tx13]
      rw [hf]
      exact z_iret hE hH hS rfl ⟨⟨_, _, _, _, _, _, _, _, _, _, _, hM27, hU, hL, hK⟩, hF29⟩ dX6_willShow_57
    · refine lv_bipush (v := (-2)) hx hb dX6_willShow_26 (by decide) ?_
      have hf : (fWill σ (nI x') (nI y') d0) = (-2) := by
        simp [fWill, chg, sV, sN, sH, sS, sD, sL, sP, h8, tx9, tx10, h12]
        try omega
      rw [hf]
      exact z_iret hE hH hS rfl ⟨⟨_, _, _, _, _, _, _, _, _, _, _, hM4, hU, hL, hK⟩, hF6⟩ dX6_willShow_28
  · refine lv_iconst (v := (-1)) hx hb dX6_willShow_13 (by decide) ?_
    have hf : (fWill σ x y d0) = (-1) := by
      simp [fWill, chg, sV, sN, sH, sS, sD, sL, sP, h8]
      try omega
    rw [hf]
    exact z_iret hE hH hS rfl ⟨⟨_, _, _, _, _, _, _, _, _, _, _, hM4, hU, hL, hK⟩, hF6⟩ dX6_willShow_14

set_option maxHeartbeats 4000000 in
set_option maxRecDepth 100000 in
theorem c_X6_nextChange (l : Launch) (G : zG) (B0 : Nat) (M : Mm) (d : Nat) (σ : Sg) (hC : Mo G d σ M) (hok : sOk σ) (hBd : B0 ≤ d) : zMet l yX6_nextChange cX6_nextChange 3 (some .int) 6 0 0 G B0 M [.ref d] (some (.int (fNext σ))) (fun M1 => Mo G d σ M1 ∧ ∀ q, (q < d ∨ d + 10 ≤ q) → M1 q = M q) := by
  refine z_met RX6 [(0, .ref d)] (by decide) rfl (Nat.le_of_ble_eq_true rfl) rfl ?_
  intro pg ev s m below meth cd ls hE hin hB0 hH hl
  have hx := hE.1
  have hb := hE.2.1
  have hv : wOk σ.1 := hok.hw
  have hn : σ.1 0 ≤ 12 := hv.1
  have hdy : σ.1 1 ≤ 9999 := hok.1.2
  have hn6 : σ.2.1 ≤ 6 := hok.2.1
  have hhv : ∀ k, k < σ.2.1 → wOk (σ.2.2.1 k) := hok.hh
  have hsv : ∀ k, k < 2 → σ.2.2.2.2.1 k = true → wOk (σ.2.2.2.1 k) := hok.hs
  have hln : σ.2.2.2.2.2.1 ≤ 60 := hok.2.2.2.2.1
  have hpc : ∀ i, i < σ.2.2.2.2.2.1 → σ.2.2.2.2.2.2 i < 128 := fun i hi => by have h7 := (hok.2.2.2.2.2 i hi).2; exact Nat.lt_of_le_of_lt h7 (by decide)
  obtain ⟨t, at', w, bm, A, U, L, K, SE, SH, BU, hM, hU, hL, hK⟩ := hC
  have hA : zArr G 0 M (d + 1) 818 (fun i => nI (σ.1 i)) := hM.s (fun _ _ => rfl)
  have hF : ∀ q, (q < d ∨ d + 10 ≤ q) → M q = M q := fun _ _ => rfl
  refine z_gen B0 (fun H locs hH hS => ?_) hH
  refine lv_aload_n hx hb dX6_nextChange_0 rfl (lv_at hl 0 rfl) ?_
  refine n_iconst hx hb 0 dX6_nextChange_1 (by decide) ?_
  refine z_put (T := TX6) hE hH hS hM.1 rfl uw_X6 tyX6 tyX6_ok nmX6 0 (by decide) fkX6_38 rfl rfl rfl (Nat.le_of_ble_eq_true rfl) (by omega) dX6_nextChange_2 (fun H locs M3 hH hS e1 o2 => ?_)
  have hM4 : Md G d (sg (nI 0) (nI σ.2.1) (nI σ.2.2.2.2.2.1) at' w bm) (xs σ.1 A U L K (fun i => nI (σ.2.2.2.2.2.2 i)) SE SH BU) M3 := Md.setC hM e1 o2
  have hA5 := hM4.s (fun _ _ => rfl)
  have hF6 := fun q hq => (o2 q (by omega)).trans (hF q hq)
  refine lv_aload_n hx hb dX6_nextChange_5 rfl (lv_at hl 0 rfl) ?_
  refine z_callV (rest := []) (st2 := []) hE hH hS hB0 hl ca_X6_putAside mkX6_129 (c_X6_putAside l G B0 M3 d (sg (nI 0) (nI σ.2.1) (nI σ.2.2.2.2.2.1) at' w bm) σ.1 A U L K (fun i => nI (σ.2.2.2.2.2.2 i)) SE SH BU hM4 hv (by omega) ) hM4.1 rfl rfl rfl rfl rfl ⟨Nat.le_of_ble_eq_true rfl, Nat.le_of_ble_eq_true rfl⟩ (Nat.le_of_ble_eq_true rfl) ⟨Nat.le_refl _, Nat.le_refl _⟩ dX6_nextChange_6 (fun H locs M7 hH hp hS => ?_)
  obtain ⟨hM8, hG9⟩ := hp
  have hA11 := hM8.s (fun _ _ => rfl)
  have hF10 := fun q hq => (hG9 q hq).trans (hF6 q hq)
  refine lv_aload_n hx hb dX6_nextChange_9 rfl (lv_at hl 0 rfl) ?_
  refine z_callV (rest := []) (st2 := []) hE hH hS hB0 hl ca_X6_laysShown mkX6_117 (c_X6_laysShown l G B0 M7 d (sg (nI 0) (nI σ.2.1) (nI σ.2.2.2.2.2.1) at' w bm) σ.1 (fun i => nI (σ.1 i)) U L K (fun i => nI (σ.2.2.2.2.2.2 i)) SE SH BU hM8 hv (by omega) ) hM8.1 rfl rfl rfl rfl rfl ⟨Nat.le_of_ble_eq_true rfl, Nat.le_of_ble_eq_true rfl⟩ (Nat.le_of_ble_eq_true rfl) ⟨Nat.le_refl _, Nat.le_refl _⟩ dX6_nextChange_10 (fun H locs M12 hH hp hS => ?_)
  obtain ⟨hM13, hG14⟩ := hp
  have hA16 := hM13.s (fun _ _ => rfl)
  have hF15 := fun q hq => (hG14 q hq).trans (hF10 q hq)
  refine n_iconst hx hb 0 dX6_nextChange_13 (by decide) ?_
  refine lv_istore_n (lv' := [(1, .int (nI 0)), (0, .ref d)]) hx hb dX6_nextChange_14 rfl hl (by decide) rfl (fun ls hl => ?_)
  refine n_iconst hx hb 0 dX6_nextChange_15 (by decide) ?_
  refine lv_istore_n (lv' := [(2, .int (nI 0)), (1, .int (nI 0)), (0, .ref d)]) hx hb dX6_nextChange_16 rfl hl (by decide) rfl (fun ls hl => ?_)
  have L17 : ∀ (dd : Nat) (n : Nat) (b : Bool) (u : Wv) (SE1 : Nat → Int32) (M1 : Mm), 300 < n + dd → (n ≤ 300) → (Md G d (sg (nI 0) (nI σ.2.1) (nI σ.2.2.2.2.2.1) at' w bm) (xs u (fun i => nI (σ.1 i)) U L K (fun i => nI (σ.2.2.2.2.2.2 i)) SE1 (fun k => oI (prc σ.1 (-6) k)) BU) M1) → (∀ q, (q < d ∨ d + 10 ≤ q) → M1 q = M q) → (u = dysV σ.1 n) → (∀ m, m < n → othN (dysV σ.1 m) (prc σ.1 (-6)) = 0) → (b = true → 0 < n ∧ 0 < othN (dysV σ.1 n) (prc σ.1 (-6))) → (b = false → othN (dysV σ.1 n) (prc σ.1 (-6)) = 0) → ∀ (H : Heap) (locs : List Loc), zH G M1 H → zS 0 B0 s.heap H locs → ∀ (ls : Array Slot), lv_has ls 3 [(0, .ref d), (1, .int (nI n)), (2, .int (zb b))] → zW pg l ev 6 0 0 s m [.ref d] below meth cd H locs 0 0 G B0 (some (.int (fNext σ))) (fun M1 => Mo G d σ M1 ∧ ∀ q, (q < d ∨ d + 10 ≤ q) → M1 q = M q) (F0 m 17 ls []) := by
    intro dd
    induction dd with
    | zero =>
      intro n b u SE1 M1 hdd hn3 hM1 hF1 hu hz hbt hbf
      exact absurd hdd (by omega)
    | succ dd ih =>
      intro n b u SE1 M1 hdd hn3 hM1 hF1 hu hz hbt hbf H locs hH hS ls hl
      have hA1 : zArr G 0 M1 (d + 1) 818 (fun i => nI (u i)) := hM1.s (fun _ _ => rfl)
      have hq := dysV_ok hv n (by omega)
      rw [← hu] at hq
      have hvu : wOk u := hq.1
      have hu0 := hq.2.1
      have hu1 := hq.2.2
      refine lv_iload_n hx hb dX6_nextChange_17 rfl (lv_at hl 1 rfl) ?_
      refine n_sipush hx hb 300 dX6_nextChange_18 (by decide) ?_
      refine n_cmp_ge (tgt := 52) hx hb (by omega) (by decide) dX6_nextChange_21 (by decide) (fun h17 => ?_) (fun h17 => ?_)
      · refine lv_aload_n hx hb dX6_nextChange_52 rfl (lv_at hl 0 rfl) ?_
        refine z_callV (rest := []) (st2 := []) hE hH hS hB0 hl ca_X6_takeBack mkX6_135 (c_X6_takeBack l G B0 M1 d (sg (nI 0) (nI σ.2.1) (nI σ.2.2.2.2.2.1) at' w bm) u σ.1 U L K (fun i => nI (σ.2.2.2.2.2.2 i)) SE1 (fun k => oI (prc σ.1 (-6) k)) BU hM1 (by omega)) hM1.1 rfl rfl rfl rfl rfl ⟨Nat.le_of_ble_eq_true rfl, Nat.le_of_ble_eq_true rfl⟩ (Nat.le_of_ble_eq_true rfl) ⟨Nat.le_refl _, Nat.le_refl _⟩ dX6_nextChange_53 (fun H locs M18 hH hp hS => ?_)
        obtain ⟨hM19, hG20⟩ := hp
        have hA22 := hM19.s (fun _ _ => rfl)
        have hF21 := fun q hq => (hG20 q hq).trans (hF1 q hq)
        refine lv_iload_n hx hb dX6_nextChange_56 rfl (lv_at hl 2 rfl) ?_
        refine b_if_eq (tgt := 64) hx hb dX6_nextChange_57 (by decide) (fun h24 => ?_) (fun h24 => ?_)
        · refine lv_bipush (v := (-6)) hx hb dX6_nextChange_64 (by decide) ?_
          have hf : (fNext σ) = (-6) := by
            first
              | exact absurd (h17.symm.trans h24) (by decide)
              | (have e := next_no (v := σ.1) hn (n := n) hn3 (fun m hm => by by_cases q : m = n; (· subst q; exact hbf h24); (· exact hz m (by omega)))
                 unfold fNext
                 rw [if_neg (by show ¬ zmin (dtOther σ.1) 60 ≤ 300; omega)])
          rw [hf]
          exact z_iret hE hH hS rfl ⟨⟨_, _, _, _, _, _, _, _, _, _, _, hM19, hU, hL, hK⟩, hF21⟩ dX6_nextChange_66
        · refine lv_iload_n hx hb dX6_nextChange_60 rfl (lv_at hl 1 rfl) ?_
          refine lv_goto (tgt := 66) hx hb dX6_nextChange_61 (by decide) ?_
          have hf : (fNext σ) = (nI n) := by
            have hb1 := hbt h24
            obtain ⟨n0, hn0⟩ : ∃ n0, n = n0 + 1 := ⟨n - 1, by omega⟩
            have e := next_yes (v := σ.1) hn (n := n0) (by omega) (fun m hm => hz m (by omega)) (by rw [← hn0]; exact hb1.2)
            unfold fNext
            rw [if_pos (by show zmin (dtOther σ.1) 60 ≤ 300; omega)]
            show nI (zmin (dtOther σ.1) 60) = _
            rw [e, hn0]
          rw [hf]
          exact z_iret hE hH hS rfl ⟨⟨_, _, _, _, _, _, _, _, _, _, _, hM19, hU, hL, hK⟩, hF21⟩ dX6_nextChange_66
      · refine lv_iload_n hx hb dX6_nextChange_24 rfl (lv_at hl 2 rfl) ?_
        refine b_if_ne (tgt := 52) hx hb dX6_nextChange_25 (by decide) (fun h26 => ?_) (fun h26 => ?_)
        · refine lv_aload_n hx hb dX6_nextChange_52 rfl (lv_at hl 0 rfl) ?_
          refine z_callV (rest := []) (st2 := []) hE hH hS hB0 hl ca_X6_takeBack mkX6_135 (c_X6_takeBack l G B0 M1 d (sg (nI 0) (nI σ.2.1) (nI σ.2.2.2.2.2.1) at' w bm) u σ.1 U L K (fun i => nI (σ.2.2.2.2.2.2 i)) SE1 (fun k => oI (prc σ.1 (-6) k)) BU hM1 (by omega)) hM1.1 rfl rfl rfl rfl rfl ⟨Nat.le_of_ble_eq_true rfl, Nat.le_of_ble_eq_true rfl⟩ (Nat.le_of_ble_eq_true rfl) ⟨Nat.le_refl _, Nat.le_refl _⟩ dX6_nextChange_53 (fun H locs M27 hH hp hS => ?_)
          obtain ⟨hM28, hG29⟩ := hp
          have hA31 := hM28.s (fun _ _ => rfl)
          have hF30 := fun q hq => (hG29 q hq).trans (hF1 q hq)
          refine lv_iload_n hx hb dX6_nextChange_56 rfl (lv_at hl 2 rfl) ?_
          refine b_if_eq (tgt := 64) hx hb dX6_nextChange_57 (by decide) (fun h33 => ?_) (fun h33 => ?_)
          · refine lv_bipush (v := (-6)) hx hb dX6_nextChange_64 (by decide) ?_
            have hf : (fNext σ) = (-6) := by
              first
                | exact absurd (h26.symm.trans h33) (by decide)
                | (have e := next_no (v := σ.1) hn (n := n) hn3 (fun m hm => by by_cases q : m = n; (· subst q; exact hbf h33); (· exact hz m (by omega)))
                   unfold fNext
                   rw [if_neg (by show ¬ zmin (dtOther σ.1) 60 ≤ 300; omega)])
            rw [hf]
            exact z_iret hE hH hS rfl ⟨⟨_, _, _, _, _, _, _, _, _, _, _, hM28, hU, hL, hK⟩, hF30⟩ dX6_nextChange_66
          · refine lv_iload_n hx hb dX6_nextChange_60 rfl (lv_at hl 1 rfl) ?_
            refine lv_goto (tgt := 66) hx hb dX6_nextChange_61 (by decide) ?_
            have hf : (fNext σ) = (nI n) := by
              have hb1 := hbt h33
              obtain ⟨n0, hn0⟩ : ∃ n0, n = n0 + 1 := ⟨n - 1, by omega⟩
              have e := next_yes (v := σ.1) hn (n := n0) (by omega) (fun m hm => hz m (by omega)) (by rw [← hn0]; exact hb1.2)
              unfold fNext
              rw [if_pos (by show zmin (dtOther σ.1) 60 ≤ 300; omega)]
              show nI (zmin (dtOther σ.1) 60) = _
              rw [e, hn0]
            rw [hf]
            exact z_iret hE hH hS rfl ⟨⟨_, _, _, _, _, _, _, _, _, _, _, hM28, hU, hL, hK⟩, hF30⟩ dX6_nextChange_66
        · refine lv_aload_n hx hb dX6_nextChange_28 rfl (lv_at hl 0 rfl) ?_
          refine z_callV (rest := []) (st2 := [.int (nI (dayN u))]) hE hH hS hB0 hl ca_X6_day mkX6_70 (c_X6_day l G B0 M1 d (sg (nI 0) (nI σ.2.1) (nI σ.2.2.2.2.2.1) at' w bm) u (fun i => nI (σ.1 i)) U L K (fun i => nI (σ.2.2.2.2.2.2 i)) SE1 (fun k => oI (prc σ.1 (-6) k)) BU hM1 hvu (by omega)) hM1.1 rfl rfl rfl rfl rfl ⟨Nat.le_of_ble_eq_true rfl, Nat.le_of_ble_eq_true rfl⟩ (Nat.le_of_ble_eq_true rfl) ⟨Nat.le_refl _, Nat.le_refl _⟩ dX6_nextChange_29 (fun H locs M34 hH hp hS => ?_)
          obtain ⟨hM35, hG36⟩ := hp
          have hv38 : wOk (dayW u) := (dayW_ok hvu (by omega)).1
          have z39 := (dayW_ok hvu (by omega)).2
          have hA40 := hM35.s (fun _ _ => rfl)
          have hF37 := fun q hq => (hG36 q hq).trans (hF1 q hq)
          have q41 := dayN_le u
          refine lv_pop hx hb dX6_nextChange_32 rfl ?_
          refine lv_iinc (v := (nI (n + 1))) (lv' := [(1, .int (nI (n + 1))), (0, .ref d), (2, .int (zb b))]) hx hb dX6_nextChange_33 hl (k := 1) rfl (nI_inc _) (by decide) rfl (fun ls hl => ?_)
          refine lv_aload_n hx hb dX6_nextChange_36 rfl (lv_at hl 1 rfl) ?_
          refine z_callV (rest := []) (st2 := [.int (nI (othN (dayW u) (prc σ.1 (-6))))]) hE hH hS hB0 hl ca_X6_others mkX6_132 (c_X6_others l G B0 M34 d (sg (nI 0) (nI σ.2.1) (nI σ.2.2.2.2.2.1) at' w bm) (xs (dayW u) (fun i => nI (σ.1 i)) U L K (fun i => nI (σ.2.2.2.2.2.2 i)) (fun k => oI (seen u (-6) k)) (fun k => oI (prc σ.1 (-6) k)) BU) hM35 (dayW u) (fun _ _ => rfl) hv38 (prc σ.1 (-6)) (fun k _ => rfl) (fun k => prc_ob31 hv)) hM35.1 rfl rfl rfl rfl rfl ⟨Nat.le_of_ble_eq_true rfl, Nat.le_of_ble_eq_true rfl⟩ (Nat.le_of_ble_eq_true rfl) ⟨Nat.le_refl _, Nat.le_refl _⟩ dX6_nextChange_37 (fun H locs M1 hH hp hS => ?_)
          subst hp
          have q42 := othN_le (dayW u) (prc σ.1 (-6))
          refine n_if_le (tgt := 47) hx hb (by omega) dX6_nextChange_40 (by decide) (fun h43 => ?_) (fun h43 => ?_)
          · refine n_iconst hx hb 0 dX6_nextChange_47 (by decide) ?_
            refine lv_istore_n (lv' := [(2, .int (nI 0)), (1, .int (nI (n + 1))), (0, .ref d)]) hx hb dX6_nextChange_48 rfl hl (by decide) rfl (fun ls hl => ?_)
            refine lv_goto (tgt := 17) hx hb dX6_nextChange_49 (by decide) ?_
            exact ih  (n + 1) false (dayW u) (fun k => oI (seen u (-6) k)) M34 (by omega) (by omega) hM35 hF37 (by rw [hu]; rfl) (fun m hm => by by_cases q : m = n; (· subst q; exact hbf h26); (· exact hz m (by omega))) (fun q => Bool.noConfusion q) (fun _ => by show othN (dayW (dysV σ.1 n)) (prc σ.1 (-6)) = 0; rw [← hu]; exact h43) _ _ hH hS _ (lv_sub hl [2, 1, 0] rfl)
          · refine n_iconst hx hb 1 dX6_nextChange_43 (by decide) ?_
            refine lv_goto (tgt := 48) hx hb dX6_nextChange_44 (by decide) ?_
            refine lv_istore_n (lv' := [(2, .int (nI 1)), (1, .int (nI (n + 1))), (0, .ref d)]) hx hb dX6_nextChange_48 rfl hl (by decide) rfl (fun ls hl => ?_)
            refine lv_goto (tgt := 17) hx hb dX6_nextChange_49 (by decide) ?_
            exact ih  (n + 1) true (dayW u) (fun k => oI (seen u (-6) k)) M34 (by omega) (by omega) hM35 hF37 (by rw [hu]; rfl) (fun m hm => by by_cases q : m = n; (· subst q; exact hbf h26); (· exact hz m (by omega))) (fun _ => ⟨by omega, by show 0 < othN (dayW (dysV σ.1 n)) (prc σ.1 (-6)); rw [← hu]; exact h43⟩) (fun q => Bool.noConfusion q) _ _ hH hS _ (lv_sub hl [2, 1, 0] rfl)
  exact L17 301 0 false σ.1 SE M12 (by omega) (by omega) hM13 hF15 rfl (fun m hm => absurd hm (Nat.not_lt_zero m)) (fun q => Bool.noConfusion q) (fun _ => oth_0 σ.1) _ _ hH hS _ (lv_sub hl [2, 1, 0] rfl)

set_option maxHeartbeats 4000000 in
set_option maxRecDepth 100000 in
theorem c_X6_comesToLight (l : Launch) (G : zG) (B0 : Nat) (M : Mm) (d : Nat) (σ : Sg) (hC : Mo G d σ M) (hok : sOk σ) (hBd : B0 ≤ d) (p : Int32) : zMet l yX6_comesToLight cX6_comesToLight 4 (some .int) 6 0 0 G B0 M [.ref d, .int p] (some (.int (fLight σ p))) (fun M1 => Mo G d σ M1 ∧ ∀ q, (q < d ∨ d + 10 ≤ q) → M1 q = M q) := by
  refine z_met RX6 [(0, .ref d), (1, .int p)] (by decide) rfl (Nat.le_of_ble_eq_true rfl) rfl ?_
  intro pg ev s m below meth cd ls hE hin hB0 hH hl
  have hx := hE.1
  have hb := hE.2.1
  have hv : wOk σ.1 := hok.hw
  have hn : σ.1 0 ≤ 12 := hv.1
  have hdy : σ.1 1 ≤ 9999 := hok.1.2
  have hn6 : σ.2.1 ≤ 6 := hok.2.1
  have hhv : ∀ k, k < σ.2.1 → wOk (σ.2.2.1 k) := hok.hh
  have hsv : ∀ k, k < 2 → σ.2.2.2.2.1 k = true → wOk (σ.2.2.2.1 k) := hok.hs
  have hln : σ.2.2.2.2.2.1 ≤ 60 := hok.2.2.2.2.1
  have hpc : ∀ i, i < σ.2.2.2.2.2.1 → σ.2.2.2.2.2.2 i < 128 := fun i hi => by have h7 := (hok.2.2.2.2.2 i hi).2; exact Nat.lt_of_le_of_lt h7 (by decide)
  obtain ⟨t, at', w, bm, A, U, L, K, SE, SH, BU, hM, hU, hL, hK⟩ := hC
  have hA : zArr G 0 M (d + 1) 818 (fun i => nI (σ.1 i)) := hM.s (fun _ _ => rfl)
  have hF : ∀ q, (q < d ∨ d + 10 ≤ q) → M q = M q := fun _ _ => rfl
  refine z_gen B0 (fun H locs hH hS => ?_) hH
  refine lv_aload_n hx hb dX6_comesToLight_0 rfl (lv_at hl 0 rfl) ?_
  refine n_iconst hx hb 0 dX6_comesToLight_1 (by decide) ?_
  refine z_put (T := TX6) hE hH hS hM.1 rfl uw_X6 tyX6 tyX6_ok nmX6 0 (by decide) fkX6_38 rfl rfl rfl (Nat.le_of_ble_eq_true rfl) (by omega) dX6_comesToLight_2 (fun H locs M3 hH hS e1 o2 => ?_)
  have hM4 : Md G d (sg (nI 0) (nI σ.2.1) (nI σ.2.2.2.2.2.1) at' w bm) (xs σ.1 A U L K (fun i => nI (σ.2.2.2.2.2.2 i)) SE SH BU) M3 := Md.setC hM e1 o2
  have hA5 := hM4.s (fun _ _ => rfl)
  have hF6 := fun q hq => (o2 q (by omega)).trans (hF q hq)
  refine lv_aload_n hx hb dX6_comesToLight_5 rfl (lv_at hl 0 rfl) ?_
  refine lv_iload_n hx hb dX6_comesToLight_6 rfl (lv_at hl 1 rfl) ?_
  refine z_callV (rest := []) (st2 := [.int (zb (isP σ.1 p))]) hE hH hS hB0 hl ca_X6_isPoster mkX6_84 (c_X6_isPoster l G B0 M3 d (sg (nI 0) (nI σ.2.1) (nI σ.2.2.2.2.2.1) at' w bm) (xs σ.1 A U L K (fun i => nI (σ.2.2.2.2.2.2 i)) SE SH BU) hM4 σ.1 (fun _ _ => rfl) hv p) hM4.1 rfl rfl rfl rfl rfl ⟨Nat.le_of_ble_eq_true rfl, Nat.le_of_ble_eq_true rfl⟩ (Nat.le_of_ble_eq_true rfl) ⟨Nat.le_refl _, Nat.le_refl _⟩ dX6_comesToLight_7 (fun H locs M1 hH hp hS => ?_)
  subst hp
  refine b_if_ne (tgt := 15) hx hb dX6_comesToLight_10 (by decide) (fun h8 => ?_) (fun h8 => ?_)
  · obtain ⟨p', rfl, p2⟩ := isP_nat hn h8
    have tx9 : tn (nI p') = p' := tn_nI (by omega)
    refine lv_aload_n hx hb dX6_comesToLight_15 rfl (lv_at hl 0 rfl) ?_
    refine z_callV (rest := []) (st2 := []) hE hH hS hB0 hl ca_X6_putAside mkX6_129 (c_X6_putAside l G B0 M3 d (sg (nI 0) (nI σ.2.1) (nI σ.2.2.2.2.2.1) at' w bm) σ.1 A U L K (fun i => nI (σ.2.2.2.2.2.2 i)) SE SH BU hM4 hv (by omega) ) hM4.1 rfl rfl rfl rfl rfl ⟨Nat.le_of_ble_eq_true rfl, Nat.le_of_ble_eq_true rfl⟩ (Nat.le_of_ble_eq_true rfl) ⟨Nat.le_refl _, Nat.le_refl _⟩ dX6_comesToLight_16 (fun H locs M10 hH hp hS => ?_)
    obtain ⟨hM11, hG12⟩ := hp
    have hA14 := hM11.s (fun _ _ => rfl)
    have hF13 := fun q hq => (hG12 q hq).trans (hF6 q hq)
    refine n_iconst hx hb 0 dX6_comesToLight_19 (by decide) ?_
    refine lv_istore_n (lv' := [(2, .int (nI 0)), (0, .ref d), (1, .int (nI p'))]) hx hb dX6_comesToLight_20 rfl hl (by decide) rfl (fun ls hl => ?_)
    refine lv_aload_n hx hb dX6_comesToLight_21 rfl (lv_at hl 1 rfl) ?_
    refine lv_iload_n hx hb dX6_comesToLight_22 rfl (lv_at hl 2 rfl) ?_
    refine n_iconst hx hb 5 dX6_comesToLight_23 (by decide) ?_
    refine z_callV (rest := []) (st2 := [.int (nI (seenCnt σ.1 p'))]) hE hH hS hB0 hl ca_X6_overCells mkX6_88 (c_X6_overCells_5 l G B0 M10 d (sg (nI 0) (nI σ.2.1) (nI σ.2.2.2.2.2.1) at' w bm) (xs σ.1 (fun i => nI (σ.1 i)) U L K (fun i => nI (σ.2.2.2.2.2.2 i)) SE SH BU) hM11 σ.1 (fun _ _ => rfl) hv p' (by omega)) hM11.1 rfl rfl rfl rfl rfl ⟨Nat.le_of_ble_eq_true rfl, Nat.le_of_ble_eq_true rfl⟩ (Nat.le_of_ble_eq_true rfl) ⟨Nat.le_refl _, Nat.le_refl _⟩ dX6_comesToLight_24 (fun H locs M1 hH hp hS => ?_)
    subst hp
    have q15 := seenCnt_le σ.1 p'
    refine n_if_le (tgt := 34) hx hb (by omega) dX6_comesToLight_27 (by decide) (fun h16 => ?_) (fun h16 => ?_)
    · refine n_iconst hx hb 0 dX6_comesToLight_34 (by decide) ?_
      refine lv_istore_n (lv' := [(3, .int (nI 0)), (2, .int (nI 0)), (0, .ref d), (1, .int (nI p'))]) hx hb dX6_comesToLight_35 rfl hl (by decide) rfl (fun ls hl => ?_)
      have L36 : ∀ (dd : Nat) (n : Nat) (b : Bool) (u : Wv) (SE1 : Nat → Int32) (M1 : Mm), 300 < n + dd → (n ≤ 300) → (Md G d (sg (nI 0) (nI σ.2.1) (nI σ.2.2.2.2.2.1) at' w bm) (xs u (fun i => nI (σ.1 i)) U L K (fun i => nI (σ.2.2.2.2.2.2 i)) SE1 SH BU) M1) → (∀ q, (q < d ∨ d + 10 ≤ q) → M1 q = M q) → (u = dysV σ.1 n) → (∀ m, m < n → seenCnt (dysV σ.1 m) p' = 0) → (b = true → 0 < seenCnt (dysV σ.1 n) p') → (b = false → seenCnt (dysV σ.1 n) p' = 0) → ∀ (H : Heap) (locs : List Loc), zH G M1 H → zS 0 B0 s.heap H locs → ∀ (ls : Array Slot), lv_has ls 4 [(0, .ref d), (1, .int (nI p')), (2, .int (nI n)), (3, .int (zb b))] → zW pg l ev 6 0 0 s m [.ref d, .int (nI p')] below meth cd H locs 0 0 G B0 (some (.int (fLight σ (nI p')))) (fun M1 => Mo G d σ M1 ∧ ∀ q, (q < d ∨ d + 10 ≤ q) → M1 q = M q) (F0 m 36 ls []) := by
        intro dd
        induction dd with
        | zero =>
          intro n b u SE1 M1 hdd hn3 hM1 hF1 hu hz hbt hbf
          exact absurd hdd (by omega)
        | succ dd ih =>
          intro n b u SE1 M1 hdd hn3 hM1 hF1 hu hz hbt hbf H locs hH hS ls hl
          have hA1 : zArr G 0 M1 (d + 1) 818 (fun i => nI (u i)) := hM1.s (fun _ _ => rfl)
          have hq := dysV_ok hv n (by omega)
          rw [← hu] at hq
          have hvu : wOk u := hq.1
          have hu0 := hq.2.1
          have hu1 := hq.2.2
          refine lv_iload_n hx hb dX6_comesToLight_36 rfl (lv_at hl 2 rfl) ?_
          refine n_sipush hx hb 300 dX6_comesToLight_37 (by decide) ?_
          refine n_cmp_ge (tgt := 73) hx hb (by omega) (by decide) dX6_comesToLight_40 (by decide) (fun h17 => ?_) (fun h17 => ?_)
          · refine lv_aload_n hx hb dX6_comesToLight_73 rfl (lv_at hl 0 rfl) ?_
            refine z_callV (rest := []) (st2 := []) hE hH hS hB0 hl ca_X6_takeBack mkX6_135 (c_X6_takeBack l G B0 M1 d (sg (nI 0) (nI σ.2.1) (nI σ.2.2.2.2.2.1) at' w bm) u σ.1 U L K (fun i => nI (σ.2.2.2.2.2.2 i)) SE1 SH BU hM1 (by omega)) hM1.1 rfl rfl rfl rfl rfl ⟨Nat.le_of_ble_eq_true rfl, Nat.le_of_ble_eq_true rfl⟩ (Nat.le_of_ble_eq_true rfl) ⟨Nat.le_refl _, Nat.le_refl _⟩ dX6_comesToLight_74 (fun H locs M18 hH hp hS => ?_)
            obtain ⟨hM19, hG20⟩ := hp
            have hA22 := hM19.s (fun _ _ => rfl)
            have hF21 := fun q hq => (hG20 q hq).trans (hF1 q hq)
            refine lv_iload_n hx hb dX6_comesToLight_77 rfl (lv_at hl 3 rfl) ?_
            refine b_if_eq (tgt := 85) hx hb dX6_comesToLight_78 (by decide) (fun h24 => ?_) (fun h24 => ?_)
            · refine lv_bipush (v := (-6)) hx hb dX6_comesToLight_85 (by decide) ?_
              have hf : (fLight σ (nI p')) = (-6) := by
                first
                  | exact absurd (h17.symm.trans h24) (by decide)
                  | (have e := light_no (v := σ.1) hn (p := p') (n := n) p2 hn3 (fun m hm => by by_cases q : m = n; (· subst q; exact hbf h24); (· exact hz m (by omega)))
                     unfold fLight
                     rw [h8, if_neg (by decide), tx9]
                     rw [if_neg (by show ¬ zmin (dtSee σ.1 p') 60 ≤ 300; omega)])
              rw [hf]
              exact z_iret hE hH hS rfl ⟨⟨_, _, _, _, _, _, _, _, _, _, _, hM19, hU, hL, hK⟩, hF21⟩ dX6_comesToLight_87
            · refine lv_iload_n hx hb dX6_comesToLight_81 rfl (lv_at hl 2 rfl) ?_
              refine lv_goto (tgt := 87) hx hb dX6_comesToLight_82 (by decide) ?_
              have hf : (fLight σ (nI p')) = (nI n) := by
                have hb1 := hbt h24
                have e := light_yes (v := σ.1) hn (p := p') (n := n) p2 hn3 hz hb1
                unfold fLight
                rw [h8, if_neg (by decide), tx9]
                rw [if_pos (by show zmin (dtSee σ.1 p') 60 ≤ 300; omega)]
                show nI (zmin (dtSee σ.1 p') 60) = _
                rw [e]
              rw [hf]
              exact z_iret hE hH hS rfl ⟨⟨_, _, _, _, _, _, _, _, _, _, _, hM19, hU, hL, hK⟩, hF21⟩ dX6_comesToLight_87
          · refine lv_iload_n hx hb dX6_comesToLight_43 rfl (lv_at hl 3 rfl) ?_
            refine b_if_ne (tgt := 73) hx hb dX6_comesToLight_44 (by decide) (fun h26 => ?_) (fun h26 => ?_)
            · refine lv_aload_n hx hb dX6_comesToLight_73 rfl (lv_at hl 0 rfl) ?_
              refine z_callV (rest := []) (st2 := []) hE hH hS hB0 hl ca_X6_takeBack mkX6_135 (c_X6_takeBack l G B0 M1 d (sg (nI 0) (nI σ.2.1) (nI σ.2.2.2.2.2.1) at' w bm) u σ.1 U L K (fun i => nI (σ.2.2.2.2.2.2 i)) SE1 SH BU hM1 (by omega)) hM1.1 rfl rfl rfl rfl rfl ⟨Nat.le_of_ble_eq_true rfl, Nat.le_of_ble_eq_true rfl⟩ (Nat.le_of_ble_eq_true rfl) ⟨Nat.le_refl _, Nat.le_refl _⟩ dX6_comesToLight_74 (fun H locs M27 hH hp hS => ?_)
              obtain ⟨hM28, hG29⟩ := hp
              have hA31 := hM28.s (fun _ _ => rfl)
              have hF30 := fun q hq => (hG29 q hq).trans (hF1 q hq)
              refine lv_iload_n hx hb dX6_comesToLight_77 rfl (lv_at hl 3 rfl) ?_
              refine b_if_eq (tgt := 85) hx hb dX6_comesToLight_78 (by decide) (fun h33 => ?_) (fun h33 => ?_)
              · refine lv_bipush (v := (-6)) hx hb dX6_comesToLight_85 (by decide) ?_
                have hf : (fLight σ (nI p')) = (-6) := by
                  first
                    | exact absurd (h26.symm.trans h33) (by decide)
                    | (have e := light_no (v := σ.1) hn (p := p') (n := n) p2 hn3 (fun m hm => by by_cases q : m = n; (· subst q; exact hbf h33); (· exact hz m (by omega)))
                       unfold fLight
                       rw [h8, if_neg (by decide), tx9]
                       rw [if_neg (by show ¬ zmin (dtSee σ.1 p') 60 ≤ 300; omega)])
                rw [hf]
                exact z_iret hE hH hS rfl ⟨⟨_, _, _, _, _, _, _, _, _, _, _, hM28, hU, hL, hK⟩, hF30⟩ dX6_comesToLight_87
              · refine lv_iload_n hx hb dX6_comesToLight_81 rfl (lv_at hl 2 rfl) ?_
                refine lv_goto (tgt := 87) hx hb dX6_comesToLight_82 (by decide) ?_
                have hf : (fLight σ (nI p')) = (nI n) := by
                  have hb1 := hbt h33
                  have e := light_yes (v := σ.1) hn (p := p') (n := n) p2 hn3 hz hb1
                  unfold fLight
                  rw [h8, if_neg (by decide), tx9]
                  rw [if_pos (by show zmin (dtSee σ.1 p') 60 ≤ 300; omega)]
                  show nI (zmin (dtSee σ.1 p') 60) = _
                  rw [e]
                rw [hf]
                exact z_iret hE hH hS rfl ⟨⟨_, _, _, _, _, _, _, _, _, _, _, hM28, hU, hL, hK⟩, hF30⟩ dX6_comesToLight_87
            · refine lv_aload_n hx hb dX6_comesToLight_47 rfl (lv_at hl 0 rfl) ?_
              refine z_callV (rest := []) (st2 := [.int (nI (dayN u))]) hE hH hS hB0 hl ca_X6_day mkX6_70 (c_X6_day l G B0 M1 d (sg (nI 0) (nI σ.2.1) (nI σ.2.2.2.2.2.1) at' w bm) u (fun i => nI (σ.1 i)) U L K (fun i => nI (σ.2.2.2.2.2.2 i)) SE1 SH BU hM1 hvu (by omega)) hM1.1 rfl rfl rfl rfl rfl ⟨Nat.le_of_ble_eq_true rfl, Nat.le_of_ble_eq_true rfl⟩ (Nat.le_of_ble_eq_true rfl) ⟨Nat.le_refl _, Nat.le_refl _⟩ dX6_comesToLight_48 (fun H locs M34 hH hp hS => ?_)
              obtain ⟨hM35, hG36⟩ := hp
              have hv38 : wOk (dayW u) := (dayW_ok hvu (by omega)).1
              have z39 := (dayW_ok hvu (by omega)).2
              have hA40 := hM35.s (fun _ _ => rfl)
              have hF37 := fun q hq => (hG36 q hq).trans (hF1 q hq)
              have q41 := dayN_le u
              refine lv_pop hx hb dX6_comesToLight_51 rfl ?_
              refine lv_iinc (v := (nI (n + 1))) (lv' := [(2, .int (nI (n + 1))), (0, .ref d), (1, .int (nI p')), (3, .int (zb b))]) hx hb dX6_comesToLight_52 hl (k := 2) rfl (nI_inc _) (by decide) rfl (fun ls hl => ?_)
              refine lv_aload_n hx hb dX6_comesToLight_55 rfl (lv_at hl 1 rfl) ?_
              refine lv_iload_n hx hb dX6_comesToLight_56 rfl (lv_at hl 2 rfl) ?_
              refine n_iconst hx hb 5 dX6_comesToLight_57 (by decide) ?_
              refine z_callV (rest := []) (st2 := [.int (nI (seenCnt (dayW u) p'))]) hE hH hS hB0 hl ca_X6_overCells mkX6_88 (c_X6_overCells_5 l G B0 M34 d (sg (nI 0) (nI σ.2.1) (nI σ.2.2.2.2.2.1) at' w bm) (xs (dayW u) (fun i => nI (σ.1 i)) U L K (fun i => nI (σ.2.2.2.2.2.2 i)) (fun k => oI (seen u (-6) k)) SH BU) hM35 (dayW u) (fun _ _ => rfl) hv38 p' (by omega)) hM35.1 rfl rfl rfl rfl rfl ⟨Nat.le_of_ble_eq_true rfl, Nat.le_of_ble_eq_true rfl⟩ (Nat.le_of_ble_eq_true rfl) ⟨Nat.le_refl _, Nat.le_refl _⟩ dX6_comesToLight_58 (fun H locs M1 hH hp hS => ?_)
              subst hp
              have q42 := seenCnt_le (dayW u) p'
              refine n_if_le (tgt := 68) hx hb (by omega) dX6_comesToLight_61 (by decide) (fun h43 => ?_) (fun h43 => ?_)
              · refine n_iconst hx hb 0 dX6_comesToLight_68 (by decide) ?_
                refine lv_istore_n (lv' := [(3, .int (nI 0)), (2, .int (nI (n + 1))), (0, .ref d), (1, .int (nI p'))]) hx hb dX6_comesToLight_69 rfl hl (by decide) rfl (fun ls hl => ?_)
                refine lv_goto (tgt := 36) hx hb dX6_comesToLight_70 (by decide) ?_
                exact ih  (n + 1) false (dayW u) (fun k => oI (seen u (-6) k)) M34 (by omega) (by omega) hM35 hF37 (by rw [hu]; rfl) (fun m hm => by by_cases q : m = n; (· subst q; exact hbf h26); (· exact hz m (by omega))) (fun q => Bool.noConfusion q) (fun _ => by show seenCnt (dayW (dysV σ.1 n)) p' = 0; rw [← hu]; exact h43) _ _ hH hS _ (lv_sub hl [2, 3, 1, 0] rfl)
              · refine n_iconst hx hb 1 dX6_comesToLight_64 (by decide) ?_
                refine lv_goto (tgt := 69) hx hb dX6_comesToLight_65 (by decide) ?_
                refine lv_istore_n (lv' := [(3, .int (nI 1)), (2, .int (nI (n + 1))), (0, .ref d), (1, .int (nI p'))]) hx hb dX6_comesToLight_69 rfl hl (by decide) rfl (fun ls hl => ?_)
                refine lv_goto (tgt := 36) hx hb dX6_comesToLight_70 (by decide) ?_
                exact ih  (n + 1) true (dayW u) (fun k => oI (seen u (-6) k)) M34 (by omega) (by omega) hM35 hF37 (by rw [hu]; rfl) (fun m hm => by by_cases q : m = n; (· subst q; exact hbf h26); (· exact hz m (by omega))) (fun _ => by show 0 < seenCnt (dayW (dysV σ.1 n)) p'; rw [← hu]; exact h43) (fun q => Bool.noConfusion q) _ _ hH hS _ (lv_sub hl [2, 3, 1, 0] rfl)
      exact L36 301 0 false σ.1 SE M10 (by omega) (by omega) hM11 hF13 rfl (fun m hm => absurd hm (Nat.not_lt_zero m)) (fun q => Bool.noConfusion q) (fun _ => h16) _ _ hH hS _ (lv_sub hl [2, 3, 1, 0] rfl)
    · refine n_iconst hx hb 1 dX6_comesToLight_30 (by decide) ?_
      refine lv_goto (tgt := 35) hx hb dX6_comesToLight_31 (by decide) ?_
      refine lv_istore_n (lv' := [(3, .int (nI 1)), (2, .int (nI 0)), (0, .ref d), (1, .int (nI p'))]) hx hb dX6_comesToLight_35 rfl hl (by decide) rfl (fun ls hl => ?_)
      have L36 : ∀ (dd : Nat) (n : Nat) (b : Bool) (u : Wv) (SE1 : Nat → Int32) (M1 : Mm), 300 < n + dd → (n ≤ 300) → (Md G d (sg (nI 0) (nI σ.2.1) (nI σ.2.2.2.2.2.1) at' w bm) (xs u (fun i => nI (σ.1 i)) U L K (fun i => nI (σ.2.2.2.2.2.2 i)) SE1 SH BU) M1) → (∀ q, (q < d ∨ d + 10 ≤ q) → M1 q = M q) → (u = dysV σ.1 n) → (∀ m, m < n → seenCnt (dysV σ.1 m) p' = 0) → (b = true → 0 < seenCnt (dysV σ.1 n) p') → (b = false → seenCnt (dysV σ.1 n) p' = 0) → ∀ (H : Heap) (locs : List Loc), zH G M1 H → zS 0 B0 s.heap H locs → ∀ (ls : Array Slot), lv_has ls 4 [(0, .ref d), (1, .int (nI p')), (2, .int (nI n)), (3, .int (zb b))] → zW pg l ev 6 0 0 s m [.ref d, .int (nI p')] below meth cd H locs 0 0 G B0 (some (.int (fLight σ (nI p')))) (fun M1 => Mo G d σ M1 ∧ ∀ q, (q < d ∨ d + 10 ≤ q) → M1 q = M q) (F0 m 36 ls []) := by
        intro dd
        induction dd with
        | zero =>
          intro n b u SE1 M1 hdd hn3 hM1 hF1 hu hz hbt hbf
          exact absurd hdd (by omega)
        | succ dd ih =>
          intro n b u SE1 M1 hdd hn3 hM1 hF1 hu hz hbt hbf H locs hH hS ls hl
          have hA1 : zArr G 0 M1 (d + 1) 818 (fun i => nI (u i)) := hM1.s (fun _ _ => rfl)
          have hq := dysV_ok hv n (by omega)
          rw [← hu] at hq
          have hvu : wOk u := hq.1
          have hu0 := hq.2.1
          have hu1 := hq.2.2
          refine lv_iload_n hx hb dX6_comesToLight_36 rfl (lv_at hl 2 rfl) ?_
          refine n_sipush hx hb 300 dX6_comesToLight_37 (by decide) ?_
          refine n_cmp_ge (tgt := 73) hx hb (by omega) (by decide) dX6_comesToLight_40 (by decide) (fun h44 => ?_) (fun h44 => ?_)
          · refine lv_aload_n hx hb dX6_comesToLight_73 rfl (lv_at hl 0 rfl) ?_
            refine z_callV (rest := []) (st2 := []) hE hH hS hB0 hl ca_X6_takeBack mkX6_135 (c_X6_takeBack l G B0 M1 d (sg (nI 0) (nI σ.2.1) (nI σ.2.2.2.2.2.1) at' w bm) u σ.1 U L K (fun i => nI (σ.2.2.2.2.2.2 i)) SE1 SH BU hM1 (by omega)) hM1.1 rfl rfl rfl rfl rfl ⟨Nat.le_of_ble_eq_true rfl, Nat.le_of_ble_eq_true rfl⟩ (Nat.le_of_ble_eq_true rfl) ⟨Nat.le_refl _, Nat.le_refl _⟩ dX6_comesToLight_74 (fun H locs M45 hH hp hS => ?_)
            obtain ⟨hM46, hG47⟩ := hp
            have hA49 := hM46.s (fun _ _ => rfl)
            have hF48 := fun q hq => (hG47 q hq).trans (hF1 q hq)
            refine lv_iload_n hx hb dX6_comesToLight_77 rfl (lv_at hl 3 rfl) ?_
            refine b_if_eq (tgt := 85) hx hb dX6_comesToLight_78 (by decide) (fun h51 => ?_) (fun h51 => ?_)
            · refine lv_bipush (v := (-6)) hx hb dX6_comesToLight_85 (by decide) ?_
              have hf : (fLight σ (nI p')) = (-6) := by
                first
                  | exact absurd (h44.symm.trans h51) (by decide)
                  | (have e := light_no (v := σ.1) hn (p := p') (n := n) p2 hn3 (fun m hm => by by_cases q : m = n; (· subst q; exact hbf h51); (· exact hz m (by omega)))
                     unfold fLight
                     rw [h8, if_neg (by decide), tx9]
                     rw [if_neg (by show ¬ zmin (dtSee σ.1 p') 60 ≤ 300; omega)])
              rw [hf]
              exact z_iret hE hH hS rfl ⟨⟨_, _, _, _, _, _, _, _, _, _, _, hM46, hU, hL, hK⟩, hF48⟩ dX6_comesToLight_87
            · refine lv_iload_n hx hb dX6_comesToLight_81 rfl (lv_at hl 2 rfl) ?_
              refine lv_goto (tgt := 87) hx hb dX6_comesToLight_82 (by decide) ?_
              have hf : (fLight σ (nI p')) = (nI n) := by
                have hb1 := hbt h51
                have e := light_yes (v := σ.1) hn (p := p') (n := n) p2 hn3 hz hb1
                unfold fLight
                rw [h8, if_neg (by decide), tx9]
                rw [if_pos (by show zmin (dtSee σ.1 p') 60 ≤ 300; omega)]
                show nI (zmin (dtSee σ.1 p') 60) = _
                rw [e]
              rw [hf]
              exact z_iret hE hH hS rfl ⟨⟨_, _, _, _, _, _, _, _, _, _, _, hM46, hU, hL, hK⟩, hF48⟩ dX6_comesToLight_87
          · refine lv_iload_n hx hb dX6_comesToLight_43 rfl (lv_at hl 3 rfl) ?_
            refine b_if_ne (tgt := 73) hx hb dX6_comesToLight_44 (by decide) (fun h53 => ?_) (fun h53 => ?_)
            · refine lv_aload_n hx hb dX6_comesToLight_73 rfl (lv_at hl 0 rfl) ?_
              refine z_callV (rest := []) (st2 := []) hE hH hS hB0 hl ca_X6_takeBack mkX6_135 (c_X6_takeBack l G B0 M1 d (sg (nI 0) (nI σ.2.1) (nI σ.2.2.2.2.2.1) at' w bm) u σ.1 U L K (fun i => nI (σ.2.2.2.2.2.2 i)) SE1 SH BU hM1 (by omega)) hM1.1 rfl rfl rfl rfl rfl ⟨Nat.le_of_ble_eq_true rfl, Nat.le_of_ble_eq_true rfl⟩ (Nat.le_of_ble_eq_true rfl) ⟨Nat.le_refl _, Nat.le_refl _⟩ dX6_comesToLight_74 (fun H locs M54 hH hp hS => ?_)
              obtain ⟨hM55, hG56⟩ := hp
              have hA58 := hM55.s (fun _ _ => rfl)
              have hF57 := fun q hq => (hG56 q hq).trans (hF1 q hq)
              refine lv_iload_n hx hb dX6_comesToLight_77 rfl (lv_at hl 3 rfl) ?_
              refine b_if_eq (tgt := 85) hx hb dX6_comesToLight_78 (by decide) (fun h60 => ?_) (fun h60 => ?_)
              · refine lv_bipush (v := (-6)) hx hb dX6_comesToLight_85 (by decide) ?_
                have hf : (fLight σ (nI p')) = (-6) := by
                  first
                    | exact absurd (h53.symm.trans h60) (by decide)
                    | (have e := light_no (v := σ.1) hn (p := p') (n := n) p2 hn3 (fun m hm => by by_cases q : m = n; (· subst q; exact hbf h60); (· exact hz m (by omega)))
                       unfold fLight
                       rw [h8, if_neg (by decide), tx9]
                       rw [if_neg (by show ¬ zmin (dtSee σ.1 p') 60 ≤ 300; omega)])
                rw [hf]
                exact z_iret hE hH hS rfl ⟨⟨_, _, _, _, _, _, _, _, _, _, _, hM55, hU, hL, hK⟩, hF57⟩ dX6_comesToLight_87
              · refine lv_iload_n hx hb dX6_comesToLight_81 rfl (lv_at hl 2 rfl) ?_
                refine lv_goto (tgt := 87) hx hb dX6_comesToLight_82 (by decide) ?_
                have hf : (fLight σ (nI p')) = (nI n) := by
                  have hb1 := hbt h60
                  have e := light_yes (v := σ.1) hn (p := p') (n := n) p2 hn3 hz hb1
                  unfold fLight
                  rw [h8, if_neg (by decide), tx9]
                  rw [if_pos (by show zmin (dtSee σ.1 p') 60 ≤ 300; omega)]
                  show nI (zmin (dtSee σ.1 p') 60) = _
                  rw [e]
                rw [hf]
                exact z_iret hE hH hS rfl ⟨⟨_, _, _, _, _, _, _, _, _, _, _, hM55, hU, hL, hK⟩, hF57⟩ dX6_comesToLight_87
            · refine lv_aload_n hx hb dX6_comesToLight_47 rfl (lv_at hl 0 rfl) ?_
              refine z_callV (rest := []) (st2 := [.int (nI (dayN u))]) hE hH hS hB0 hl ca_X6_day mkX6_70 (c_X6_day l G B0 M1 d (sg (nI 0) (nI σ.2.1) (nI σ.2.2.2.2.2.1) at' w bm) u (fun i => nI (σ.1 i)) U L K (fun i => nI (σ.2.2.2.2.2.2 i)) SE1 SH BU hM1 hvu (by omega)) hM1.1 rfl rfl rfl rfl rfl ⟨Nat.le_of_ble_eq_true rfl, Nat.le_of_ble_eq_true rfl⟩ (Nat.le_of_ble_eq_true rfl) ⟨Nat.le_refl _, Nat.le_refl _⟩ dX6_comesToLight_48 (fun H locs M61 hH hp hS => ?_)
              obtain ⟨hM62, hG63⟩ := hp
              have hv65 : wOk (dayW u) := (dayW_ok hvu (by omega)).1
              have z66 := (dayW_ok hvu (by omega)).2
              have hA67 := hM62.s (fun _ _ => rfl)
              have hF64 := fun q hq => (hG63 q hq).trans (hF1 q hq)
              have q68 := dayN_le u
              refine lv_pop hx hb dX6_comesToLight_51 rfl ?_
              refine lv_iinc (v := (nI (n + 1))) (lv' := [(2, .int (nI (n + 1))), (0, .ref d), (1, .int (nI p')), (3, .int (zb b))]) hx hb dX6_comesToLight_52 hl (k := 2) rfl (nI_inc _) (by decide) rfl (fun ls hl => ?_)
              refine lv_aload_n hx hb dX6_comesToLight_55 rfl (lv_at hl 1 rfl) ?_
              refine lv_iload_n hx hb dX6_comesToLight_56 rfl (lv_at hl 2 rfl) ?_
              refine n_iconst hx hb 5 dX6_comesToLight_57 (by decide) ?_
              refine z_callV (rest := []) (st2 := [.int (nI (seenCnt (dayW u) p'))]) hE hH hS hB0 hl ca_X6_overCells mkX6_88 (c_X6_overCells_5 l G B0 M61 d (sg (nI 0) (nI σ.2.1) (nI σ.2.2.2.2.2.1) at' w bm) (xs (dayW u) (fun i => nI (σ.1 i)) U L K (fun i => nI (σ.2.2.2.2.2.2 i)) (fun k => oI (seen u (-6) k)) SH BU) hM62 (dayW u) (fun _ _ => rfl) hv65 p' (by omega)) hM62.1 rfl rfl rfl rfl rfl ⟨Nat.le_of_ble_eq_true rfl, Nat.le_of_ble_eq_true rfl⟩ (Nat.le_of_ble_eq_true rfl) ⟨Nat.le_refl _, Nat.le_refl _⟩ dX6_comesToLight_58 (fun H locs M1 hH hp hS => ?_)
              subst hp
              have q69 := seenCnt_le (dayW u) p'
              refine n_if_le (tgt := 68) hx hb (by omega) dX6_comesToLight_61 (by decide) (fun h70 => ?_) (fun h70 => ?_)
              · refine n_iconst hx hb 0 dX6_comesToLight_68 (by decide) ?_
                refine lv_istore_n (lv' := [(3, .int (nI 0)), (2, .int (nI (n + 1))), (0, .ref d), (1, .int (nI p'))]) hx hb dX6_comesToLight_69 rfl hl (by decide) rfl (fun ls hl => ?_)
                refine lv_goto (tgt := 36) hx hb dX6_comesToLight_70 (by decide) ?_
                exact ih  (n + 1) false (dayW u) (fun k => oI (seen u (-6) k)) M61 (by omega) (by omega) hM62 hF64 (by rw [hu]; rfl) (fun m hm => by by_cases q : m = n; (· subst q; exact hbf h53); (· exact hz m (by omega))) (fun q => Bool.noConfusion q) (fun _ => by show seenCnt (dayW (dysV σ.1 n)) p' = 0; rw [← hu]; exact h70) _ _ hH hS _ (lv_sub hl [2, 3, 1, 0] rfl)
              · refine n_iconst hx hb 1 dX6_comesToLight_64 (by decide) ?_
                refine lv_goto (tgt := 69) hx hb dX6_comesToLight_65 (by decide) ?_
                refine lv_istore_n (lv' := [(3, .int (nI 1)), (2, .int (nI (n + 1))), (0, .ref d), (1, .int (nI p'))]) hx hb dX6_comesToLight_69 rfl hl (by decide) rfl (fun ls hl => ?_)
                refine lv_goto (tgt := 36) hx hb dX6_comesToLight_70 (by decide) ?_
                exact ih  (n + 1) true (dayW u) (fun k => oI (seen u (-6) k)) M61 (by omega) (by omega) hM62 hF64 (by rw [hu]; rfl) (fun m hm => by by_cases q : m = n; (· subst q; exact hbf h53); (· exact hz m (by omega))) (fun _ => by show 0 < seenCnt (dayW (dysV σ.1 n)) p'; rw [← hu]; exact h70) (fun q => Bool.noConfusion q) _ _ hH hS _ (lv_sub hl [2, 3, 1, 0] rfl)
      exact L36 301 0 true σ.1 SE M10 (by omega) (by omega) hM11 hF13 rfl (fun m hm => absurd hm (Nat.not_lt_zero m)) (fun _ => h16) (fun q => Bool.noConfusion q) _ _ hH hS _ (lv_sub hl [2, 3, 1, 0] rfl)
  · refine lv_iconst (v := (-1)) hx hb dX6_comesToLight_13 (by decide) ?_
    have hf : (fLight σ p) = (-1) := by
      simp [fLight, chg, sV, sN, sH, sS, sD, sL, sP, h8]
      try omega
    rw [hf]
    exact z_iret hE hH hS rfl ⟨⟨_, _, _, _, _, _, _, _, _, _, _, hM4, hU, hL, hK⟩, hF6⟩ dX6_comesToLight_14

set_option maxHeartbeats 4000000 in
set_option maxRecDepth 100000 in
theorem c_X6_bestTorn (l : Launch) (G : zG) (B0 : Nat) (M : Mm) (d : Nat) (σ : Sg) (hC : Mo G d σ M) (hok : sOk σ) (hBd : B0 ≤ d) (c : Int32) : zMet l yX6_bestTorn cX6_bestTorn 6 (some .int) 6 0 0 G B0 M [.ref d, .int c] (some (.int (fBest σ c))) (fun M1 => Mo G d σ M1 ∧ ∀ q, (q < d ∨ d + 10 ≤ q) → M1 q = M q) := by
  refine z_met RX6 [(0, .ref d), (1, .int c)] (by decide) rfl (Nat.le_of_ble_eq_true rfl) rfl ?_
  intro pg ev s m below meth cd ls hE hin hB0 hH hl
  have hx := hE.1
  have hb := hE.2.1
  have hv : wOk σ.1 := hok.hw
  have hn : σ.1 0 ≤ 12 := hv.1
  have hdy : σ.1 1 ≤ 9999 := hok.1.2
  have hn6 : σ.2.1 ≤ 6 := hok.2.1
  have hhv : ∀ k, k < σ.2.1 → wOk (σ.2.2.1 k) := hok.hh
  have hsv : ∀ k, k < 2 → σ.2.2.2.2.1 k = true → wOk (σ.2.2.2.1 k) := hok.hs
  have hln : σ.2.2.2.2.2.1 ≤ 60 := hok.2.2.2.2.1
  have hpc : ∀ i, i < σ.2.2.2.2.2.1 → σ.2.2.2.2.2.2 i < 128 := fun i hi => by have h7 := (hok.2.2.2.2.2 i hi).2; exact Nat.lt_of_le_of_lt h7 (by decide)
  obtain ⟨t, at', w, bm, A, U, L, K, SE, SH, BU, hM, hU, hL, hK⟩ := hC
  have hA : zArr G 0 M (d + 1) 818 (fun i => nI (σ.1 i)) := hM.s (fun _ _ => rfl)
  have hF : ∀ q, (q < d ∨ d + 10 ≤ q) → M q = M q := fun _ _ => rfl
  refine z_gen B0 (fun H locs hH hS => ?_) hH
  refine lv_aload_n hx hb dX6_bestTorn_0 rfl (lv_at hl 0 rfl) ?_
  refine n_iconst hx hb 0 dX6_bestTorn_1 (by decide) ?_
  refine z_put (T := TX6) hE hH hS hM.1 rfl uw_X6 tyX6 tyX6_ok nmX6 0 (by decide) fkX6_38 rfl rfl rfl (Nat.le_of_ble_eq_true rfl) (by omega) dX6_bestTorn_2 (fun H locs M3 hH hS e1 o2 => ?_)
  have hM4 : Md G d (sg (nI 0) (nI σ.2.1) (nI σ.2.2.2.2.2.1) at' w bm) (xs σ.1 A U L K (fun i => nI (σ.2.2.2.2.2.2 i)) SE SH BU) M3 := Md.setC hM e1 o2
  have hA5 := hM4.s (fun _ _ => rfl)
  have hF6 := fun q hq => (o2 q (by omega)).trans (hF q hq)
  refine lv_iload_n hx hb dX6_bestTorn_5 rfl (lv_at hl 1 rfl) ?_
  refine n_iconst hx hb 0 dX6_bestTorn_6 (by decide) ?_
  refine n_iconst hx hb 1 dX6_bestTorn_7 (by decide) ?_
  refine z_callS (rest := []) (st2 := [.int (zb (wi c (nI 0) (nI 1)))]) hE hH hS hB0 hl ca_X6_in mkX6_42 (c_X6_in l G B0 M3 c (nI 0) (nI 1)) rfl rfl rfl ⟨Nat.le_of_ble_eq_true rfl, Nat.le_of_ble_eq_true rfl⟩ (Nat.le_of_ble_eq_true rfl) ⟨Nat.le_refl _, Nat.le_refl _⟩ dX6_bestTorn_8 (fun H locs M1 hH hp hS => ?_)
  subst hp
  refine b_if_ne (tgt := 17) hx hb dX6_bestTorn_11 (by decide) (fun h8 => ?_) (fun h8 => ?_)
  · obtain ⟨c', rfl, c1, c2⟩ := wi_nat (by decide) (by decide) h8
    have tx9 : tn (nI c') = c' := tn_nI (by omega)
    refine lv_bipush (v := (-6)) hx hb dX6_bestTorn_17 (by decide) ?_
    refine lv_istore_n (lv' := [(2, .int (-6)), (0, .ref d), (1, .int (nI c'))]) hx hb dX6_bestTorn_19 rfl hl (by decide) rfl (fun ls hl => ?_)
    refine lv_bipush (v := (-6)) hx hb dX6_bestTorn_20 (by decide) ?_
    refine lv_istore_n (lv' := [(3, .int (-6)), (2, .int (-6)), (0, .ref d), (1, .int (nI c'))]) hx hb dX6_bestTorn_22 rfl hl (by decide) rfl (fun ls hl => ?_)
    refine n_iconst hx hb 0 dX6_bestTorn_23 (by decide) ?_
    refine lv_istore (lv' := [(4, .int (nI 0)), (3, .int (-6)), (2, .int (-6)), (0, .ref d), (1, .int (nI c'))]) hx hb dX6_bestTorn_24 hl (by decide) rfl (fun ls hl => ?_)
    have L26 : ∀ (dd : Nat) (k : Nat) (o : Option (Nat × Nat)), σ.1 0 < k + dd → (k ≤ σ.1 0) → (o = btO σ.1 k) → ∀ (H : Heap) (locs : List Loc), zH G M3 H → zS 0 B0 s.heap H locs → ∀ (ls : Array Slot), lv_has ls 6 [(0, .ref d), (1, .int (nI c')), (2, .int (oI (o.map (fun q => q.1)))), (3, .int (oI (o.map (fun q => q.2)))), (4, .int (nI k))] → zW pg l ev 6 0 0 s m [.ref d, .int (nI c')] below meth cd H locs 0 0 G B0 (some (.int (fBest σ (nI c')))) (fun M1 => Mo G d σ M1 ∧ ∀ q, (q < d ∨ d + 10 ≤ q) → M1 q = M q) (F0 m 26 ls []) := by
      intro dd
      induction dd with
      | zero =>
        intro k o hdd hk ho
        exact absurd hdd (by omega)
      | succ dd ih =>
        intro k o hdd hk ho H locs hH hS ls hl
        refine lv_iload hx hb dX6_bestTorn_26 (lv_at hl 4 rfl) ?_
        refine lv_aload_n hx hb dX6_bestTorn_28 rfl (lv_at hl 0 rfl) ?_
        refine z_get (T := TX6) (v := .ref (d + 1)) hE hH hM4.1 rfl uw_X6 1 (by decide) fkX6_7 rfl dX6_bestTorn_29 ?_
        refine n_iconst hx hb 0 dX6_bestTorn_32 (by decide) ?_
        refine z_iald hE hH hA5 (k := 0) (by omega) (by decide) dX6_bestTorn_33 ?_
        refine n_cmp_ge (tgt := 77) hx hb (by omega) (by omega) dX6_bestTorn_34 (by decide) (fun h10 => ?_) (fun h10 => ?_)
        · refine lv_iload_n hx hb dX6_bestTorn_77 rfl (lv_at hl 1 rfl) ?_
          refine n_if_ne (tgt := 85) hx hb (by omega) dX6_bestTorn_78 (by decide) (fun h11 => ?_) (fun h11 => ?_)
          · refine lv_iload_n hx hb dX6_bestTorn_85 rfl (lv_at hl 3 rfl) ?_
            have hf : (fBest σ (nI c')) = (oI (o.map (fun q => q.2))) := by
              have hkk : k = σ.1 0 := by omega
              subst hkk
              unfold fBest
              rw [if_neg (by rw [h8]; decide), tn_nI (by omega), if_neg (by omega), ho]
            rw [hf]
            exact z_iret hE hH hS rfl ⟨⟨_, _, _, _, _, _, _, _, _, _, _, hM4, hU, hL, hK⟩, hF6⟩ dX6_bestTorn_86
          · refine lv_iload_n hx hb dX6_bestTorn_81 rfl (lv_at hl 2 rfl) ?_
            refine lv_goto (tgt := 86) hx hb dX6_bestTorn_82 (by decide) ?_
            have hf : (fBest σ (nI c')) = (oI (o.map (fun q => q.1))) := by
              have hkk : k = σ.1 0 := by omega
              subst hkk
              unfold fBest
              rw [if_neg (by rw [h8]; decide), tn_nI (by omega), if_pos (by omega), ho]
            rw [hf]
            exact z_iret hE hH hS rfl ⟨⟨_, _, _, _, _, _, _, _, _, _, _, hM4, hU, hL, hK⟩, hF6⟩ dX6_bestTorn_86
        · refine lv_aload_n hx hb dX6_bestTorn_37 rfl (lv_at hl 0 rfl) ?_
          refine lv_iload hx hb dX6_bestTorn_38 (lv_at hl 4 rfl) ?_
          refine z_callV (rest := []) (st2 := [.int (nI (sumW σ.1 (nI k)))]) hE hH hS hB0 hl ca_X6_sumBut mkX6_123 (c_X6_sumBut l G B0 M3 d (sg (nI 0) (nI σ.2.1) (nI σ.2.2.2.2.2.1) at' w bm) (xs σ.1 A U L K (fun i => nI (σ.2.2.2.2.2.2 i)) SE SH BU) hM4 σ.1 (fun _ _ => rfl) hv (nI k)) hM4.1 rfl rfl rfl rfl rfl ⟨Nat.le_of_ble_eq_true rfl, Nat.le_of_ble_eq_true rfl⟩ (Nat.le_of_ble_eq_true rfl) ⟨Nat.le_refl _, Nat.le_refl _⟩ dX6_bestTorn_40 (fun H locs M1 hH hp hS => ?_)
          subst hp
          have q12 := sumW_le hv (nI k)
          refine lv_istore (lv' := [(5, .int (nI (sumW σ.1 (nI k)))), (0, .ref d), (1, .int (nI c')), (2, .int (oI (o.map (fun q => q.1)))), (3, .int (oI (o.map (fun q => q.2)))), (4, .int (nI k))]) hx hb dX6_bestTorn_43 hl (by decide) rfl (fun ls hl => ?_)
          refine lv_iload hx hb dX6_bestTorn_45 (lv_at hl 0 rfl) ?_
          refine lv_iload_n hx hb dX6_bestTorn_47 rfl (lv_at hl 4 rfl) ?_
          refine no_cmp_le (tgt := 56) hx hb (by omega) (btO_ob hv ho) dX6_bestTorn_48 (by decide) (fun j14 h13e h13 => ?_) (fun h13 => ?_)
          · refine lv_iload_n hx hb dX6_bestTorn_56 rfl (lv_at hl 3 rfl) ?_
            refine lv_istore_n (lv' := [(2, .int (oI (o.map (fun q => q.1)))), (5, .int (nI (sumW σ.1 (nI k)))), (0, .ref d), (1, .int (nI c')), (3, .int (oI (o.map (fun q => q.2)))), (4, .int (nI k))]) hx hb dX6_bestTorn_57 rfl hl (by decide) rfl (fun ls hl => ?_)
            refine lv_iload hx hb dX6_bestTorn_58 (lv_at hl 1 rfl) ?_
            refine lv_iload_n hx hb dX6_bestTorn_60 rfl (lv_at hl 4 rfl) ?_
            refine no_cmp_le (tgt := 69) hx hb (by omega) (btO_ob hv ho) dX6_bestTorn_61 (by decide) (fun j16 h15e h15 => ?_) (fun h15 => ?_)
            · refine lv_iload_n hx hb dX6_bestTorn_69 rfl (lv_at hl 4 rfl) ?_
              refine lv_istore_n (lv' := [(3, .int (oI (o.map (fun q => q.2)))), (2, .int (oI (o.map (fun q => q.1)))), (5, .int (nI (sumW σ.1 (nI k)))), (0, .ref d), (1, .int (nI c')), (4, .int (nI k))]) hx hb dX6_bestTorn_70 rfl hl (by decide) rfl (fun ls hl => ?_)
              refine lv_iinc (v := (nI (k + 1))) (lv' := [(4, .int (nI (k + 1))), (3, .int (oI (o.map (fun q => q.2)))), (2, .int (oI (o.map (fun q => q.1)))), (5, .int (nI (sumW σ.1 (nI k)))), (0, .ref d), (1, .int (nI c'))]) hx hb dX6_bestTorn_71 hl (k := 5) rfl (nI_inc _) (by decide) rfl (fun ls hl => ?_)
              refine lv_goto (tgt := 26) hx hb dX6_bestTorn_74 (by decide) ?_
              exact ih  (k + 1) o (by omega) (by omega) (btO_keep ho h13e h13) _ _ hH hS _ (lv_sub hl [4, 5, 2, 1, 0] rfl)
            · exact absurd (h15 _ h13e) (by omega)
          · refine lv_iload hx hb dX6_bestTorn_51 (lv_at hl 5 rfl) ?_
            refine lv_goto (tgt := 57) hx hb dX6_bestTorn_53 (by decide) ?_
            refine lv_istore_n (lv' := [(2, .int (nI k)), (5, .int (nI (sumW σ.1 (nI k)))), (0, .ref d), (1, .int (nI c')), (3, .int (oI (o.map (fun q => q.2)))), (4, .int (nI k))]) hx hb dX6_bestTorn_57 rfl hl (by decide) rfl (fun ls hl => ?_)
            refine lv_iload hx hb dX6_bestTorn_58 (lv_at hl 1 rfl) ?_
            refine lv_iload_n hx hb dX6_bestTorn_60 rfl (lv_at hl 4 rfl) ?_
            refine no_cmp_le (tgt := 69) hx hb (by omega) (btO_ob hv ho) dX6_bestTorn_61 (by decide) (fun j18 h17e h17 => ?_) (fun h17 => ?_)
            · exact absurd (h13 _ h17e) (by omega)
            · refine lv_iload hx hb dX6_bestTorn_64 (lv_at hl 1 rfl) ?_
              refine lv_goto (tgt := 70) hx hb dX6_bestTorn_66 (by decide) ?_
              refine lv_istore_n (lv' := [(3, .int (nI (sumW σ.1 (nI k)))), (2, .int (nI k)), (5, .int (nI (sumW σ.1 (nI k)))), (0, .ref d), (1, .int (nI c')), (4, .int (nI k))]) hx hb dX6_bestTorn_70 rfl hl (by decide) rfl (fun ls hl => ?_)
              refine lv_iinc (v := (nI (k + 1))) (lv' := [(4, .int (nI (k + 1))), (3, .int (nI (sumW σ.1 (nI k)))), (2, .int (nI k)), (5, .int (nI (sumW σ.1 (nI k)))), (0, .ref d), (1, .int (nI c'))]) hx hb dX6_bestTorn_71 hl (k := 5) rfl (nI_inc _) (by decide) rfl (fun ls hl => ?_)
              refine lv_goto (tgt := 26) hx hb dX6_bestTorn_74 (by decide) ?_
              exact ih  (k + 1) (some (k, sumW σ.1 (nI k))) (by omega) (by omega) (btO_new ho h13) _ _ hH hS _ (lv_sub hl [4, 5, 2, 1, 0] rfl)
    exact L26 (σ.1 0 + 1) 0 none (by omega) (by omega) rfl _ _ hH hS _ (lv_sub hl [3, 4, 2, 1, 0] rfl)
  · refine lv_bipush (v := (-2)) hx hb dX6_bestTorn_14 (by decide) ?_
    have hf : (fBest σ c) = (-2) := by
      simp [fBest, chg, sV, sN, sH, sS, sD, sL, sP, h8]
      try omega
    rw [hf]
    exact z_iret hE hH hS rfl ⟨⟨_, _, _, _, _, _, _, _, _, _, _, hM4, hU, hL, hK⟩, hF6⟩ dX6_bestTorn_16
