/-- the check's object tells the state σ -/
def Mo (G : zG) (d : Nat) (σ : Sg) (M : Mm) : Prop := ∃ (t at' w bm : Int32) (A U L K SE SH BU : Nat → Int32), Md G d (sg t (nI σ.2.1) (nI σ.2.2.2.2.2.1) at' w bm) (xs σ.1 A U L K (fun i => nI (σ.2.2.2.2.2.2 i)) SE SH BU) M ∧ (∀ k, k < σ.2.1 → ∀ i, i < 818 → U (818 * k + i) = nI (σ.2.2.1 k i)) ∧ (∀ k, k < 2 → σ.2.2.2.2.1 k = true → ∀ i, i < 818 → L (818 * k + i) = nI (σ.2.2.2.1 k i)) ∧ ∀ k, k < 2 → K k = zb (σ.2.2.2.2.1 k)
theorem wi_mono {x : Int32} {a b b' : Nat} (ha : a < 2 ^ 31) (hb : b' < 2 ^ 31) (hbb : b ≤ b') (h : wi x (nI a) (nI b) = true) : wi x (nI a) (nI b') = true := by
  obtain ⟨k, rfl, h1, h2⟩ := wi_nat ha (by omega) h
  rw [wi_N (by omega) ha hb, decide_eq_true h1, decide_eq_true (show k ≤ b' by omega)]; rfl
theorem fPaste_no {σ : Sg} {x y wd ht p q : Int32} (h : isC x y = true → wi wd (nI 1) (nI (10 - tn x)) = true → wi ht (nI 1) (nI (6 - tn y)) = true → False) : fPaste σ x y wd ht p q = (-1, σ) := by
  unfold fPaste
  cases h1 : isC x y with
  | false => rfl
  | true =>
    cases h2 : wi wd (nI 1) (nI (10 - tn x)) with
    | false => rfl
    | true =>
      cases h3 : wi ht (nI 1) (nI (6 - tn y)) with
      | false => rfl
      | true => exact (h h1 h2 h3).elim
theorem wi_yes {k a b : Nat} (hb : b < 2 ^ 31) (h1 : a ≤ k) (h2 : k ≤ b) : wi (nI k) (nI a) (nI b) = true := by
  rw [wi_N (by omega) (by omega) hb, decide_eq_true h1, decide_eq_true h2]; rfl
theorem wi_not {k a b : Nat} (hk : k < 2 ^ 31) (ha : a < 2 ^ 31) (hb : b < k) (h : wi (nI k) (nI a) (nI b) = true) : False := by
  rw [wi_N hk ha (by omega), Bool.and_eq_true, decide_eq_true_eq, decide_eq_true_eq] at h
  omega
/-- a poster's row while its varnish is laid: k cells are through -/
def pstV (v : Wv) (x y wd ht p q k : Nat) : Wv := fun i =>
  if i = 0 then v 0 + 1 else if 14 + 7 * v 0 ≤ i ∧ i < 21 + 7 * v 0 then pasteF x y wd ht p (i - (14 + 7 * v 0)) else if 98 + 60 * v 0 ≤ i ∧ i < 98 + 60 * v 0 + k then (if liesN (pasteF x y wd ht p) ((i - (98 + 60 * v 0)) % 10) ((i - (98 + 60 * v 0)) / 10) = true then q else 0) else v i
theorem pst_e {v : Wv} {x y wd ht p q : Nat} (i : Nat) : pstV v x y wd ht p q 60 i = pasteV v x y wd ht p q i := by
  unfold pstV pasteV
  by_cases h0 : i = 0
  · rw [if_pos h0, if_pos h0]
  · rw [if_neg h0, if_neg h0]
    by_cases h1 : 14 + 7 * v 0 ≤ i ∧ i < 21 + 7 * v 0
    · rw [if_pos h1, if_pos h1]
    · rw [if_neg h1, if_neg h1]
      by_cases h2 : 98 + 60 * v 0 ≤ i ∧ i < 98 + 60 * v 0 + 60
      · rw [if_pos h2, if_pos (by omega)]
      · rw [if_neg h2, if_neg (by omega)]
theorem pst_0 {v : Wv} {x y wd ht p q : Nat} (i : Nat) : (vset (vset (vset (vset (vset (vset (vset (vset v 0 (v 0 + 1)) (14 + 7 * v 0 + 0) x) (14 + 7 * v 0 + 1) y) (14 + 7 * v 0 + 2) wd) (14 + 7 * v 0 + 3) ht) (14 + 7 * v 0 + 4) p) (14 + 7 * v 0 + 5) 0) (14 + 7 * v 0 + 6) 0) i = pstV v x y wd ht p q 0 i := by
  unfold pstV
  have hh : i = 0 ∨ (i = 14 + 7 * v 0 + 0 ∨ i = 14 + 7 * v 0 + 1 ∨ i = 14 + 7 * v 0 + 2 ∨ i = 14 + 7 * v 0 + 3 ∨ i = 14 + 7 * v 0 + 4 ∨ i = 14 + 7 * v 0 + 5 ∨ i = 14 + 7 * v 0 + 6) ∨ (i ≠ 0 ∧ ¬(14 + 7 * v 0 ≤ i ∧ i < 21 + 7 * v 0)) := by omega
  rcases hh with h | h | ⟨h0, h⟩
  · subst h
    rw [if_pos rfl]
    iterate 7 rw [fset_ne _ _ (by omega)]
    exact fset_self _ _ _
  · rw [if_neg (by omega), if_pos (by omega)]
    rcases h with h | h | h | h | h | h | h <;> subst h
    · rw [show 14 + 7 * v 0 + 0 - (14 + 7 * v 0) = 0 by omega]
      iterate 6 rw [fset_ne _ _ (by omega)]
      exact fset_self _ _ _
    · rw [show 14 + 7 * v 0 + 1 - (14 + 7 * v 0) = 1 by omega]
      iterate 5 rw [fset_ne _ _ (by omega)]
      exact fset_self _ _ _
    · rw [show 14 + 7 * v 0 + 2 - (14 + 7 * v 0) = 2 by omega]
      iterate 4 rw [fset_ne _ _ (by omega)]
      exact fset_self _ _ _
    · rw [show 14 + 7 * v 0 + 3 - (14 + 7 * v 0) = 3 by omega]
      iterate 3 rw [fset_ne _ _ (by omega)]
      exact fset_self _ _ _
    · rw [show 14 + 7 * v 0 + 4 - (14 + 7 * v 0) = 4 by omega]
      iterate 2 rw [fset_ne _ _ (by omega)]
      exact fset_self _ _ _
    · rw [show 14 + 7 * v 0 + 5 - (14 + 7 * v 0) = 5 by omega]
      iterate 1 rw [fset_ne _ _ (by omega)]
      exact fset_self _ _ _
    · rw [show 14 + 7 * v 0 + 6 - (14 + 7 * v 0) = 6 by omega]
      exact fset_self _ _ _
  · rw [if_neg h0, if_neg h, if_neg (by omega)]
    iterate 8 rw [fset_ne _ _ (by omega)]
theorem pst_at {v u : Wv} {x y wd ht p q k : Nat} (hu : ∀ i, u i = pstV v x y wd ht p q k i) : u 0 = v 0 + 1 ∧ pv u (v 0) 0 = x ∧ pv u (v 0) 1 = y ∧ pv u (v 0) 2 = wd ∧ pv u (v 0) 3 = ht := by
  have h : ∀ j, j < 7 → pv u (v 0) j = pasteF x y wd ht p j := fun j hj => by
    show u (14 + 7 * v 0 + j) = _
    rw [hu]
    unfold pstV
    rw [if_neg (by omega), if_pos (by omega), show 14 + 7 * v 0 + j - (14 + 7 * v 0) = j by omega]
  exact ⟨by rw [hu]; exact if_pos rfl, h 0 (by decide), h 1 (by decide), h 2 (by decide), h 3 (by decide)⟩
theorem pst_s {v u : Wv} {x y wd ht p q k z : Nat} (hu : ∀ i, u i = pstV v x y wd ht p q k i) (hz : z = if liesN (pv u (v 0)) (k % 10) (k / 10) = true then q else 0) (i : Nat) : (vset u (98 + 60 * v 0 + k) z) i = pstV v x y wd ht p q (k + 1) i := by
  have hl : liesN (pv u (v 0)) (k % 10) (k / 10) = liesN (pasteF x y wd ht p) (k % 10) (k / 10) := by
    obtain ⟨-, h0, h1, h2, h3⟩ := pst_at hu
    unfold liesN
    rw [h0, h1, h2, h3]; rfl
  rw [hl] at hz
  show fset _ _ _ _ = _
  by_cases hi : i = 98 + 60 * v 0 + k
  · subst hi
    rw [fset_self, hz]
    unfold pstV
    rw [if_neg (by omega), if_neg (by omega), if_pos (by omega), show 98 + 60 * v 0 + k - (98 + 60 * v 0) = k by omega]
  · rw [fset_ne _ _ hi, hu]
    unfold pstV
    by_cases h0 : i = 0
    · rw [if_pos h0, if_pos h0]
    · rw [if_neg h0, if_neg h0]
      by_cases h1 : 14 + 7 * v 0 ≤ i ∧ i < 21 + 7 * v 0
      · rw [if_pos h1, if_pos h1]
      · rw [if_neg h1, if_neg h1]
        by_cases h2 : 98 + 60 * v 0 ≤ i ∧ i < 98 + 60 * v 0 + k
        · rw [if_pos h2, if_pos (by omega)]
        · rw [if_neg h2, if_neg (by omega)]

set_option maxHeartbeats 4000000 in
set_option maxRecDepth 100000 in
theorem c_X6_sun (l : Launch) (G : zG) (B0 : Nat) (M : Mm) (d : Nat) (σ : Sg) (hC : Mo G d σ M) (hok : sOk σ) (hBd : B0 ≤ d) (x c : Int32) : zMet l yX6_sun cX6_sun 4 (some .int) 5 0 0 G B0 M [.ref d, .int x, .int c] (some (.int ((fSun σ x c).1))) (fun M1 => Mo G d (fSun σ x c).2 M1 ∧ ∀ q, (q < d ∨ d + 10 ≤ q) → M1 q = M q) := by
  refine z_met RX6 [(0, .ref d), (1, .int x), (2, .int c)] (by decide) rfl (Nat.le_of_ble_eq_true rfl) rfl ?_
  intro pg ev s m below meth cd ls hE hin hB0 hH hl
  have hx := hE.1
  have hb := hE.2.1
  have hv : wOk σ.1 := hok.hw
  have hn : σ.1 0 ≤ 12 := hv.1
  have hdy : σ.1 1 ≤ 9999 := hok.1.2
  have hn6 : σ.2.1 ≤ 6 := hok.2.1
  have hhv : ∀ k, k < σ.2.1 → wOk (σ.2.2.1 k) := hok.hh
  have hsv : ∀ k, k < 2 → σ.2.2.2.2.1 k = true → wOk (σ.2.2.2.1 k) := hok.hs
  have hln : σ.2.2.2.2.2.1 ≤ 60 := hok.2.2.2.2.1
  have hpc : ∀ i, i < σ.2.2.2.2.2.1 → σ.2.2.2.2.2.2 i < 128 := fun i hi => by have h7 := (hok.2.2.2.2.2 i hi).2; exact Nat.lt_of_le_of_lt h7 (by decide)
  obtain ⟨t, at', w, bm, A, U, L, K, SE, SH, BU, hM, hU, hL, hK⟩ := hC
  have hA : zArr G 0 M (d + 1) 818 (fun i => nI (σ.1 i)) := hM.s (fun _ _ => rfl)
  have hF : ∀ q, (q < d ∨ d + 10 ≤ q) → M q = M q := fun _ _ => rfl
  refine z_gen B0 (fun H locs hH hS => ?_) hH
  refine lv_aload_n hx hb dX6_sun_0 rfl (lv_at hl 0 rfl) ?_
  refine n_iconst hx hb 0 dX6_sun_1 (by decide) ?_
  refine z_put (T := TX6) hE hH hS hM.1 rfl uw_X6 tyX6 tyX6_ok nmX6 0 (by decide) fkX6_38 rfl rfl rfl (Nat.le_of_ble_eq_true rfl) (by omega) dX6_sun_2 (fun H locs M3 hH hS e1 o2 => ?_)
  have hM4 : Md G d (sg (nI 0) (nI σ.2.1) (nI σ.2.2.2.2.2.1) at' w bm) (xs σ.1 A U L K (fun i => nI (σ.2.2.2.2.2.2 i)) SE SH BU) M3 := Md.setC hM e1 o2
  have hA5 := hM4.s (fun _ _ => rfl)
  have hF6 := fun q hq => (o2 q (by omega)).trans (hF q hq)
  refine lv_iload_n hx hb dX6_sun_5 rfl (lv_at hl 1 rfl) ?_
  refine n_iconst hx hb 0 dX6_sun_6 (by decide) ?_
  refine n_bipush hx hb 9 dX6_sun_7 (by decide) ?_
  refine z_callS (rest := []) (st2 := [.int (zb (wi x (nI 0) (nI 9)))]) hE hH hS hB0 hl ca_X6_in mkX6_42 (c_X6_in l G B0 M3 x (nI 0) (nI 9)) rfl rfl rfl ⟨Nat.le_of_ble_eq_true rfl, Nat.le_of_ble_eq_true rfl⟩ (Nat.le_of_ble_eq_true rfl) ⟨Nat.le_refl _, Nat.le_refl _⟩ dX6_sun_9 (fun H locs M1 hH hp hS => ?_)
  subst hp
  refine b_if_ne (tgt := 17) hx hb dX6_sun_12 (by decide) (fun h8 => ?_) (fun h8 => ?_)
  · obtain ⟨x', rfl, x1, x2⟩ := wi_nat (by decide) (by decide) h8
    have tx9 : tn (nI x') = x' := tn_nI (by omega)
    refine lv_iload_n hx hb dX6_sun_17 rfl (lv_at hl 2 rfl) ?_
    refine n_iconst hx hb 0 dX6_sun_18 (by decide) ?_
    refine n_bipush hx hb 9 dX6_sun_19 (by decide) ?_
    refine z_callS (rest := []) (st2 := [.int (zb (wi c (nI 0) (nI 9)))]) hE hH hS hB0 hl ca_X6_in mkX6_42 (c_X6_in l G B0 M3 c (nI 0) (nI 9)) rfl rfl rfl ⟨Nat.le_of_ble_eq_true rfl, Nat.le_of_ble_eq_true rfl⟩ (Nat.le_of_ble_eq_true rfl) ⟨Nat.le_refl _, Nat.le_refl _⟩ dX6_sun_21 (fun H locs M1 hH hp hS => ?_)
    subst hp
    refine b_if_ne (tgt := 30) hx hb dX6_sun_24 (by decide) (fun h11 => ?_) (fun h11 => ?_)
    · obtain ⟨c', rfl, c1, c2⟩ := wi_nat (by decide) (by decide) h11
      have tx12 : tn (nI c') = c' := tn_nI (by omega)
      refine lv_aload_n hx hb dX6_sun_30 rfl (lv_at hl 0 rfl) ?_
      refine z_callV (rest := []) (st2 := []) hE hH hS hB0 hl ca_X6_records mkX6_81 (c_X6_records l G B0 M3 d (nI 0) (nI σ.2.2.2.2.2.1) at' w bm σ.2.1 σ.2.2.1 σ.1 A U L K (fun i => nI (σ.2.2.2.2.2.2 i)) SE SH BU hM4 hv (by omega) hn6 hU) hM4.1 rfl rfl rfl rfl rfl ⟨Nat.le_of_ble_eq_true rfl, Nat.le_of_ble_eq_true rfl⟩ (Nat.le_of_ble_eq_true rfl) ⟨Nat.le_refl _, Nat.le_refl _⟩ dX6_sun_31 (fun H locs M13 hH hp hS => ?_)
      obtain ⟨U14, hM15, hU18, hG16⟩ := hp
      have hA19 := hM15.s (fun _ _ => rfl)
      have hF17 := fun q hq => (hG16 q hq).trans (hF6 q hq)
      refine lv_aload_n hx hb dX6_sun_34 rfl (lv_at hl 0 rfl) ?_
      refine z_get (T := TX6) (v := .ref (d + 1)) hE hH hM15.1 rfl uw_X6 1 (by decide) fkX6_7 rfl dX6_sun_35 ?_
      refine n_iconst hx hb 4 dX6_sun_38 (by decide) ?_
      refine lv_iload_n hx hb dX6_sun_39 rfl (lv_at hl 1 rfl) ?_
      refine n_iadd hx hb dX6_sun_40 ?_
      refine z_iald hE hH hA19 (k := 4 + x') (by omega) (by decide) dX6_sun_41 ?_
      refine lv_istore_n (lv' := [(3, .int (nI (σ.1 (4 + x')))), (0, .ref d), (1, .int (nI x')), (2, .int (nI c'))]) hx hb dX6_sun_42 rfl hl (by decide) rfl (fun ls hl => ?_)
      refine lv_aload_n hx hb dX6_sun_43 rfl (lv_at hl 1 rfl) ?_
      refine z_get (T := TX6) (v := .ref (d + 1)) hE hH hM15.1 rfl uw_X6 1 (by decide) fkX6_7 rfl dX6_sun_44 ?_
      refine n_iconst hx hb 4 dX6_sun_47 (by decide) ?_
      refine lv_iload_n hx hb dX6_sun_48 rfl (lv_at hl 2 rfl) ?_
      refine n_iadd hx hb dX6_sun_49 ?_
      refine lv_iload_n hx hb dX6_sun_50 rfl (lv_at hl 3 rfl) ?_
      refine z_iast hE hH hS hA19 (k := 4 + x') (by omega) (by decide) (by omega) dX6_sun_51 (fun H locs M22 hH hS e20 o21 => ?_)
      have hM23 : Md G d (sg (nI 0) (nI (keepN σ.2.1)) (nI σ.2.2.2.2.2.1) at' w bm) (xs (vset σ.1 (4 + x') c') A U14 L K (fun i => nI (σ.2.2.2.2.2.2 i)) SE SH BU) M22 := Md.setJ (j := 1) hM15 (by decide) (zArr.to e20 (fun q _ => by show (if q = _ then nI _ else nI _) = nI (fset _ _ _ q); unfold fset; by_cases hq : q = 4 + x' <;> (first | (simp [hq]; done) | (rw [if_pos hq, if_pos hq]; rfl) | (rw [if_neg hq, if_neg hq]; rfl)))) (fun i hi => by unfold xs; split <;> first | rfl | exact absurd rfl hi) o21
      have hA25 := hM23.s (fun _ _ => rfl)
      have hF26 := fun q hq => (o21 q (by omega)).trans (hF17 q hq)
      refine lv_iload_n hx hb dX6_sun_52 rfl (lv_at hl 0 rfl) ?_
      have hf : (fSun σ (nI x') (nI c')).1 = ((nI (σ.1 (4 + x'))), (vset σ.1 (4 + x') c', keepN σ.2.1, keepH σ.2.2.1 σ.2.1 σ.1, σ.2.2.2.1, σ.2.2.2.2.1, σ.2.2.2.2.2.1, σ.2.2.2.2.2.2)) := by
        simp [fSun, chg, sV, sN, sH, sS, sD, sL, sP, sv, h8, tx9, h11, tx12]
        try omega
      rw [hf]
      exact z_iret hE hH hS rfl ⟨⟨_, _, _, _, _, _, _, _, _, _, _, hM23, hU18, hL, hK⟩, hF26⟩ dX6_sun_53
    · refine lv_bipush (v := (-2)) hx hb dX6_sun_27 (by decide) ?_
      have hf : (fSun σ (nI x') c).1 = ((-2), (σ.1, σ.2.1, σ.2.2.1, σ.2.2.2.1, σ.2.2.2.2.1, σ.2.2.2.2.2.1, σ.2.2.2.2.2.2)) := by
        simp [fSun, chg, sV, sN, sH, sS, sD, sL, sP, sv, h8, tx9, h11]
        try omega
      rw [hf]
      exact z_iret hE hH hS rfl ⟨⟨_, _, _, _, _, _, _, _, _, _, _, hM4, hU, hL, hK⟩, hF6⟩ dX6_sun_29
  · refine lv_iconst (v := (-1)) hx hb dX6_sun_15 (by decide) ?_
    have hf : (fSun σ x c).1 = ((-1), (σ.1, σ.2.1, σ.2.2.1, σ.2.2.2.1, σ.2.2.2.2.1, σ.2.2.2.2.2.1, σ.2.2.2.2.2.2)) := by
      simp [fSun, chg, sV, sN, sH, sS, sD, sL, sP, sv, h8]
      try omega
    rw [hf]
    exact z_iret hE hH hS rfl ⟨⟨_, _, _, _, _, _, _, _, _, _, _, hM4, hU, hL, hK⟩, hF6⟩ dX6_sun_16

set_option maxHeartbeats 4000000 in
set_option maxRecDepth 100000 in
theorem c_X6_tear (l : Launch) (G : zG) (B0 : Nat) (M : Mm) (d : Nat) (σ : Sg) (hC : Mo G d σ M) (hok : sOk σ) (hBd : B0 ≤ d) (p : Int32) : zMet l yX6_tear cX6_tear 3 (some .int) 5 0 0 G B0 M [.ref d, .int p] (some (.int ((fTear σ p).1))) (fun M1 => Mo G d (fTear σ p).2 M1 ∧ ∀ q, (q < d ∨ d + 10 ≤ q) → M1 q = M q) := by
  refine z_met RX6 [(0, .ref d), (1, .int p)] (by decide) rfl (Nat.le_of_ble_eq_true rfl) rfl ?_
  intro pg ev s m below meth cd ls hE hin hB0 hH hl
  have hx := hE.1
  have hb := hE.2.1
  have hv : wOk σ.1 := hok.hw
  have hn : σ.1 0 ≤ 12 := hv.1
  have hdy : σ.1 1 ≤ 9999 := hok.1.2
  have hn6 : σ.2.1 ≤ 6 := hok.2.1
  have hhv : ∀ k, k < σ.2.1 → wOk (σ.2.2.1 k) := hok.hh
  have hsv : ∀ k, k < 2 → σ.2.2.2.2.1 k = true → wOk (σ.2.2.2.1 k) := hok.hs
  have hln : σ.2.2.2.2.2.1 ≤ 60 := hok.2.2.2.2.1
  have hpc : ∀ i, i < σ.2.2.2.2.2.1 → σ.2.2.2.2.2.2 i < 128 := fun i hi => by have h7 := (hok.2.2.2.2.2 i hi).2; exact Nat.lt_of_le_of_lt h7 (by decide)
  obtain ⟨t, at', w, bm, A, U, L, K, SE, SH, BU, hM, hU, hL, hK⟩ := hC
  have hA : zArr G 0 M (d + 1) 818 (fun i => nI (σ.1 i)) := hM.s (fun _ _ => rfl)
  have hF : ∀ q, (q < d ∨ d + 10 ≤ q) → M q = M q := fun _ _ => rfl
  refine z_gen B0 (fun H locs hH hS => ?_) hH
  refine lv_aload_n hx hb dX6_tear_0 rfl (lv_at hl 0 rfl) ?_
  refine n_iconst hx hb 0 dX6_tear_1 (by decide) ?_
  refine z_put (T := TX6) hE hH hS hM.1 rfl uw_X6 tyX6 tyX6_ok nmX6 0 (by decide) fkX6_38 rfl rfl rfl (Nat.le_of_ble_eq_true rfl) (by omega) dX6_tear_2 (fun H locs M3 hH hS e1 o2 => ?_)
  have hM4 : Md G d (sg (nI 0) (nI σ.2.1) (nI σ.2.2.2.2.2.1) at' w bm) (xs σ.1 A U L K (fun i => nI (σ.2.2.2.2.2.2 i)) SE SH BU) M3 := Md.setC hM e1 o2
  have hA5 := hM4.s (fun _ _ => rfl)
  have hF6 := fun q hq => (o2 q (by omega)).trans (hF q hq)
  refine lv_aload_n hx hb dX6_tear_5 rfl (lv_at hl 0 rfl) ?_
  refine lv_iload_n hx hb dX6_tear_6 rfl (lv_at hl 1 rfl) ?_
  refine z_callV (rest := []) (st2 := [.int (zb (isP σ.1 p))]) hE hH hS hB0 hl ca_X6_isPoster mkX6_84 (c_X6_isPoster l G B0 M3 d (sg (nI 0) (nI σ.2.1) (nI σ.2.2.2.2.2.1) at' w bm) (xs σ.1 A U L K (fun i => nI (σ.2.2.2.2.2.2 i)) SE SH BU) hM4 σ.1 (fun _ _ => rfl) hv p) hM4.1 rfl rfl rfl rfl rfl ⟨Nat.le_of_ble_eq_true rfl, Nat.le_of_ble_eq_true rfl⟩ (Nat.le_of_ble_eq_true rfl) ⟨Nat.le_refl _, Nat.le_refl _⟩ dX6_tear_7 (fun H locs M1 hH hp hS => ?_)
  subst hp
  refine b_if_ne (tgt := 15) hx hb dX6_tear_10 (by decide) (fun h8 => ?_) (fun h8 => ?_)
  · obtain ⟨p', rfl, p2⟩ := isP_nat hn h8
    have tx9 : tn (nI p') = p' := tn_nI (by omega)
    refine lv_aload_n hx hb dX6_tear_15 rfl (lv_at hl 0 rfl) ?_
    refine z_callV (rest := []) (st2 := []) hE hH hS hB0 hl ca_X6_records mkX6_81 (c_X6_records l G B0 M3 d (nI 0) (nI σ.2.2.2.2.2.1) at' w bm σ.2.1 σ.2.2.1 σ.1 A U L K (fun i => nI (σ.2.2.2.2.2.2 i)) SE SH BU hM4 hv (by omega) hn6 hU) hM4.1 rfl rfl rfl rfl rfl ⟨Nat.le_of_ble_eq_true rfl, Nat.le_of_ble_eq_true rfl⟩ (Nat.le_of_ble_eq_true rfl) ⟨Nat.le_refl _, Nat.le_refl _⟩ dX6_tear_16 (fun H locs M10 hH hp hS => ?_)
    obtain ⟨U11, hM12, hU15, hG13⟩ := hp
    have hA16 := hM12.s (fun _ _ => rfl)
    have hF14 := fun q hq => (hG13 q hq).trans (hF6 q hq)
    refine lv_aload_n hx hb dX6_tear_19 rfl (lv_at hl 0 rfl) ?_
    refine lv_iload_n hx hb dX6_tear_20 rfl (lv_at hl 1 rfl) ?_
    refine n_iconst hx hb 5 dX6_tear_21 (by decide) ?_
    refine z_callV (rest := []) (st2 := [.int (nI (seenCnt σ.1 p'))]) hE hH hS hB0 hl ca_X6_overCells mkX6_88 (c_X6_overCells_5 l G B0 M10 d (sg (nI 0) (nI (keepN σ.2.1)) (nI σ.2.2.2.2.2.1) at' w bm) (xs σ.1 A U11 L K (fun i => nI (σ.2.2.2.2.2.2 i)) SE SH BU) hM12 σ.1 (fun _ _ => rfl) hv p' (by omega)) hM12.1 rfl rfl rfl rfl rfl ⟨Nat.le_of_ble_eq_true rfl, Nat.le_of_ble_eq_true rfl⟩ (Nat.le_of_ble_eq_true rfl) ⟨Nat.le_refl _, Nat.le_refl _⟩ dX6_tear_22 (fun H locs M1 hH hp hS => ?_)
    subst hp
    have q17 := seenCnt_le σ.1 p'
    refine lv_istore_n (lv' := [(2, .int (nI (seenCnt σ.1 p'))), (0, .ref d), (1, .int (nI p'))]) hx hb dX6_tear_25 rfl hl (by decide) rfl (fun ls hl => ?_)
    refine lv_aload_n hx hb dX6_tear_26 rfl (lv_at hl 1 rfl) ?_
    refine lv_iload_n hx hb dX6_tear_27 rfl (lv_at hl 2 rfl) ?_
    refine z_callV (rest := []) (st2 := []) hE hH hS hB0 hl ca_X6_drops mkX6_91 (c_X6_drops l G B0 M10 d (sg (nI 0) (nI (keepN σ.2.1)) (nI σ.2.2.2.2.2.1) at' w bm) σ.1 A U11 L K (fun i => nI (σ.2.2.2.2.2.2 i)) SE SH BU hM12 hv (by omega) p' (by omega)) hM12.1 rfl rfl rfl rfl rfl ⟨Nat.le_of_ble_eq_true rfl, Nat.le_of_ble_eq_true rfl⟩ (Nat.le_of_ble_eq_true rfl) ⟨Nat.le_refl _, Nat.le_refl _⟩ dX6_tear_28 (fun H locs M18 hH hp hS => ?_)
    obtain ⟨hM19, hG20⟩ := hp
    have hA22 := hM19.s (fun _ _ => rfl)
    have hF21 := fun q hq => (hG20 q hq).trans (hF14 q hq)
    refine lv_iload_n hx hb dX6_tear_31 rfl (lv_at hl 0 rfl) ?_
    have hf : (fTear σ (nI p')).1 = ((nI (seenCnt σ.1 p')), (tearV σ.1 p', keepN σ.2.1, keepH σ.2.2.1 σ.2.1 σ.1, σ.2.2.2.1, σ.2.2.2.2.1, σ.2.2.2.2.2.1, σ.2.2.2.2.2.2)) := by
      simp [fTear, chg, sV, sN, sH, sS, sD, sL, sP, h8, tx9]
      try omega
    rw [hf]
    exact z_iret hE hH hS rfl ⟨⟨_, _, _, _, _, _, _, _, _, _, _, hM19, hU15, hL, hK⟩, hF21⟩ dX6_tear_32
  · refine lv_iconst (v := (-1)) hx hb dX6_tear_13 (by decide) ?_
    have hf : (fTear σ p).1 = ((-1), (σ.1, σ.2.1, σ.2.2.1, σ.2.2.2.1, σ.2.2.2.2.1, σ.2.2.2.2.2.1, σ.2.2.2.2.2.2)) := by
      simp [fTear, chg, sV, sN, sH, sS, sD, sL, sP, h8]
      try omega
    rw [hf]
    exact z_iret hE hH hS rfl ⟨⟨_, _, _, _, _, _, _, _, _, _, _, hM4, hU, hL, hK⟩, hF6⟩ dX6_tear_14

set_option maxHeartbeats 4000000 in
set_option maxRecDepth 100000 in
theorem c_X6_of0 (l : Launch) (G : zG) (B0 : Nat) (M : Mm) (d : Nat) (sc : Nat → Int32) (X : Nat → Nat → Int32) (hM : Md G d sc X M) (v : Wv) (hms : MS v X) (j k : Nat) (hj : j < 12) (hk : k < 7) : zMet l yX6_of cX6_of 3 (some .int) 0 0 0 G B0 M [.ref d, .int (nI j), .int (nI k)] (some (.int (nI (pv v j k)))) (fun M1 => M = M1) := by
  refine z_met RX6 [(0, .ref d), (1, .int (nI j)), (2, .int (nI k))] (by decide) rfl (Nat.le_of_ble_eq_true rfl) rfl ?_
  intro pg ev s m below meth cd ls hE hin hB0 hH hl
  have hx := hE.1
  have hb := hE.2.1
  have hA := hM.s hms
  refine z_gen B0 (fun H locs hH hS => ?_) hH
  refine lv_aload_n hx hb dX6_of_0 rfl (lv_at hl 0 rfl) ?_
  refine z_get (T := TX6) (v := .ref (d + 1)) hE hH hM.1 rfl uw_X6 1 (by decide) fkX6_7 rfl dX6_of_1 ?_
  refine n_bipush hx hb 14 dX6_of_4 (by decide) ?_
  refine n_bipush hx hb 7 dX6_of_6 (by decide) ?_
  refine lv_iload_n hx hb dX6_of_8 rfl (lv_at hl 1 rfl) ?_
  refine n_imul hx hb dX6_of_9 ?_
  refine n_iadd hx hb dX6_of_10 ?_
  refine lv_iload_n hx hb dX6_of_11 rfl (lv_at hl 2 rfl) ?_
  refine n_iadd hx hb dX6_of_12 ?_
  refine z_iald hE hH hA (k := (14 + (7 * j)) + k) (by omega) (by decide) dX6_of_13 ?_
  exact z_iret hE hH hS rfl rfl dX6_of_14

set_option maxHeartbeats 4000000 in
set_option maxRecDepth 100000 in
theorem c_X6_lies0 (l : Launch) (G : zG) (B0 : Nat) (M : Mm) (d : Nat) (sc : Nat → Int32) (X : Nat → Nat → Int32) (hM : Md G d sc X M) (v : Wv) (hms : MS v X) (j c : Nat) (hj : j < 12) (qr : 1 ≤ pv v j 2 ∧ pv v j 0 + pv v j 2 ≤ 10 ∧ 1 ≤ pv v j 3 ∧ pv v j 1 + pv v j 3 ≤ 6) (hc : c < 60) : zMet l yX6_lies cX6_lies 5 (some .boolean) 1 0 0 G B0 M [.ref d, .int (nI j), .int (nI c)] (some (.int (zb (liesN (pv v j) (c % 10) (c / 10))))) (fun M1 => M = M1) := by
  refine z_met RX6 [(0, .ref d), (1, .int (nI j)), (2, .int (nI c))] (by decide) rfl (Nat.le_of_ble_eq_true rfl) rfl ?_
  intro pg ev s m below meth cd ls hE hin hB0 hH hl
  have hx := hE.1
  have hb := hE.2.1
  have hA := hM.s hms
  refine z_gen B0 (fun H locs hH hS => ?_) hH
  refine lv_iload_n hx hb dX6_lies_0 rfl (lv_at hl 2 rfl) ?_
  refine n_bipush hx hb 10 dX6_lies_1 (by decide) ?_
  refine n_irem hx hb (by omega) (by decide) (by decide) dX6_lies_3 ?_
  refine lv_aload_n hx hb dX6_lies_4 rfl (lv_at hl 0 rfl) ?_
  refine lv_iload_n hx hb dX6_lies_5 rfl (lv_at hl 1 rfl) ?_
  refine n_iconst hx hb 0 dX6_lies_6 (by decide) ?_
  refine z_callV (rest := [.int (nI (c % 10))]) (st2 := [.int (nI (pv v j 0)), .int (nI (c % 10))]) hE hH hS hB0 hl ca_X6_of mkX6_46 (c_X6_of0 l G B0 M d sc X hM v hms j 0 (by omega) (by omega)) hM.1 rfl rfl rfl rfl rfl ⟨Nat.le_of_ble_eq_true rfl, Nat.le_of_ble_eq_true rfl⟩ (Nat.le_of_ble_eq_true rfl) ⟨Nat.le_refl _, Nat.le_refl _⟩ dX6_lies_7 (fun H locs M1 hH hp hS => ?_)
  subst hp
  refine lv_isub hx hb dX6_lies_10 ?_
  refine lv_istore_n (lv' := [(3, .int (nI (c % 10) - nI (pv v j 0))), (0, .ref d), (1, .int (nI j)), (2, .int (nI c))]) hx hb dX6_lies_11 rfl hl (by decide) rfl (fun ls hl => ?_)
  refine lv_iload_n hx hb dX6_lies_12 rfl (lv_at hl 3 rfl) ?_
  refine n_bipush hx hb 10 dX6_lies_13 (by decide) ?_
  refine n_idiv hx hb (by omega) (by decide) (by decide) dX6_lies_15 ?_
  refine lv_aload_n hx hb dX6_lies_16 rfl (lv_at hl 1 rfl) ?_
  refine lv_iload_n hx hb dX6_lies_17 rfl (lv_at hl 2 rfl) ?_
  refine n_iconst hx hb 1 dX6_lies_18 (by decide) ?_
  refine z_callV (rest := [.int (nI (c / 10))]) (st2 := [.int (nI (pv v j 1)), .int (nI (c / 10))]) hE hH hS hB0 hl ca_X6_of mkX6_46 (c_X6_of0 l G B0 M d sc X hM v hms j 1 (by omega) (by omega)) hM.1 rfl rfl rfl rfl rfl ⟨Nat.le_of_ble_eq_true rfl, Nat.le_of_ble_eq_true rfl⟩ (Nat.le_of_ble_eq_true rfl) ⟨Nat.le_refl _, Nat.le_refl _⟩ dX6_lies_19 (fun H locs M1 hH hp hS => ?_)
  subst hp
  refine lv_isub hx hb dX6_lies_22 ?_
  refine lv_istore (lv' := [(4, .int (nI (c / 10) - nI (pv v j 1))), (3, .int (nI (c % 10) - nI (pv v j 0))), (0, .ref d), (1, .int (nI j)), (2, .int (nI c))]) hx hb dX6_lies_23 hl (by decide) rfl (fun ls hl => ?_)
  refine lv_iload_n hx hb dX6_lies_25 rfl (lv_at hl 1 rfl) ?_
  refine n_iconst hx hb 0 dX6_lies_26 (by decide) ?_
  refine lv_aload_n hx hb dX6_lies_27 rfl (lv_at hl 2 rfl) ?_
  refine lv_iload_n hx hb dX6_lies_28 rfl (lv_at hl 3 rfl) ?_
  refine n_iconst hx hb 2 dX6_lies_29 (by decide) ?_
  refine z_callV (rest := [.int (nI 0), .int (nI (c % 10) - nI (pv v j 0))]) (st2 := [.int (nI (pv v j 2)), .int (nI 0), .int (nI (c % 10) - nI (pv v j 0))]) hE hH hS hB0 hl ca_X6_of mkX6_46 (c_X6_of0 l G B0 M d sc X hM v hms j 2 (by omega) (by omega)) hM.1 rfl rfl rfl rfl rfl ⟨Nat.le_of_ble_eq_true rfl, Nat.le_of_ble_eq_true rfl⟩ (Nat.le_of_ble_eq_true rfl) ⟨Nat.le_refl _, Nat.le_refl _⟩ dX6_lies_30 (fun H locs M1 hH hp hS => ?_)
  subst hp
  refine n_iconst hx hb 1 dX6_lies_33 (by decide) ?_
  refine n_isub hx hb (by omega) dX6_lies_34 ?_
  refine z_callS (rest := []) (st2 := [.int (zb (wi (nI (c % 10) - nI (pv v j 0)) (nI 0) (nI ((pv v j 2) - 1))))]) hE hH hS hB0 hl ca_X6_in mkX6_42 (c_X6_in l G B0 M (nI (c % 10) - nI (pv v j 0)) (nI 0) (nI ((pv v j 2) - 1))) rfl rfl rfl ⟨Nat.le_of_ble_eq_true rfl, Nat.le_of_ble_eq_true rfl⟩ (Nat.le_of_ble_eq_true rfl) ⟨Nat.le_refl _, Nat.le_refl _⟩ dX6_lies_35 (fun H locs M1 hH hp hS => ?_)
  subst hp
  refine b_if_eq (tgt := 62) hx hb dX6_lies_38 (by decide) (fun h2 => ?_) (fun h2 => ?_)
  · refine n_iconst hx hb 0 dX6_lies_62 (by decide) ?_
    rw [wi_sub (by omega) (by omega) (by omega) (by omega)] at h2
    exact z_zret hE hH hS (by rw [show liesN (pv v j) (c % 10) (c / 10) = false from by unfold liesN; simp only [Bool.and_eq_false_iff, Bool.and_eq_true, decide_eq_false_iff_not, decide_eq_true_eq] at *; omega]; rfl) rfl dX6_lies_63
  · refine lv_iload hx hb dX6_lies_41 (lv_at hl 0 rfl) ?_
    refine n_iconst hx hb 0 dX6_lies_43 (by decide) ?_
    refine lv_aload_n hx hb dX6_lies_44 rfl (lv_at hl 2 rfl) ?_
    refine lv_iload_n hx hb dX6_lies_45 rfl (lv_at hl 3 rfl) ?_
    refine n_iconst hx hb 3 dX6_lies_46 (by decide) ?_
    refine z_callV (rest := [.int (nI 0), .int (nI (c / 10) - nI (pv v j 1))]) (st2 := [.int (nI (pv v j 3)), .int (nI 0), .int (nI (c / 10) - nI (pv v j 1))]) hE hH hS hB0 hl ca_X6_of mkX6_46 (c_X6_of0 l G B0 M d sc X hM v hms j 3 (by omega) (by omega)) hM.1 rfl rfl rfl rfl rfl ⟨Nat.le_of_ble_eq_true rfl, Nat.le_of_ble_eq_true rfl⟩ (Nat.le_of_ble_eq_true rfl) ⟨Nat.le_refl _, Nat.le_refl _⟩ dX6_lies_47 (fun H locs M1 hH hp hS => ?_)
    subst hp
    refine n_iconst hx hb 1 dX6_lies_50 (by decide) ?_
    refine n_isub hx hb (by omega) dX6_lies_51 ?_
    refine z_callS (rest := []) (st2 := [.int (zb (wi (nI (c / 10) - nI (pv v j 1)) (nI 0) (nI ((pv v j 3) - 1))))]) hE hH hS hB0 hl ca_X6_in mkX6_42 (c_X6_in l G B0 M (nI (c / 10) - nI (pv v j 1)) (nI 0) (nI ((pv v j 3) - 1))) rfl rfl rfl ⟨Nat.le_of_ble_eq_true rfl, Nat.le_of_ble_eq_true rfl⟩ (Nat.le_of_ble_eq_true rfl) ⟨Nat.le_refl _, Nat.le_refl _⟩ dX6_lies_52 (fun H locs M1 hH hp hS => ?_)
    subst hp
    refine b_if_eq (tgt := 62) hx hb dX6_lies_55 (by decide) (fun h4 => ?_) (fun h4 => ?_)
    · refine n_iconst hx hb 0 dX6_lies_62 (by decide) ?_
      rw [wi_sub (by omega) (by omega) (by omega) (by omega)] at h2
      rw [wi_sub (by omega) (by omega) (by omega) (by omega)] at h4
      exact z_zret hE hH hS (by rw [show liesN (pv v j) (c % 10) (c / 10) = false from by unfold liesN; simp only [Bool.and_eq_false_iff, Bool.and_eq_true, decide_eq_false_iff_not, decide_eq_true_eq] at *; omega]; rfl) rfl dX6_lies_63
    · refine n_iconst hx hb 1 dX6_lies_58 (by decide) ?_
      refine lv_goto (tgt := 63) hx hb dX6_lies_59 (by decide) ?_
      rw [wi_sub (by omega) (by omega) (by omega) (by omega)] at h2
      rw [wi_sub (by omega) (by omega) (by omega) (by omega)] at h4
      exact z_zret hE hH hS (by rw [show liesN (pv v j) (c % 10) (c / 10) = true from by unfold liesN; simp only [Bool.and_eq_true, decide_eq_true_eq] at *; omega]; rfl) rfl dX6_lies_63

set_option maxHeartbeats 4000000 in
set_option maxRecDepth 100000 in
theorem c_X6_paste (l : Launch) (G : zG) (B0 : Nat) (M : Mm) (d : Nat) (σ : Sg) (hC : Mo G d σ M) (hok : sOk σ) (hBd : B0 ≤ d) (x y wd ht p q : Int32) : zMet l yX6_paste cX6_paste 11 (some .int) 5 0 0 G B0 M [.ref d, .int x, .int y, .int wd, .int ht, .int p, .int q] (some (.int ((fPaste σ x y wd ht p q).1))) (fun M1 => Mo G d (fPaste σ x y wd ht p q).2 M1 ∧ ∀ q, (q < d ∨ d + 10 ≤ q) → M1 q = M q) := by
  refine z_met RX6 [(0, .ref d), (1, .int x), (2, .int y), (3, .int wd), (4, .int ht), (5, .int p), (6, .int q)] (by decide) rfl (Nat.le_of_ble_eq_true rfl) rfl ?_
  intro pg ev s m below meth cd ls hE hin hB0 hH hl
  have hx := hE.1
  have hb := hE.2.1
  have hv : wOk σ.1 := hok.hw
  have hn : σ.1 0 ≤ 12 := hv.1
  have hdy : σ.1 1 ≤ 9999 := hok.1.2
  have hn6 : σ.2.1 ≤ 6 := hok.2.1
  have hhv : ∀ k, k < σ.2.1 → wOk (σ.2.2.1 k) := hok.hh
  have hsv : ∀ k, k < 2 → σ.2.2.2.2.1 k = true → wOk (σ.2.2.2.1 k) := hok.hs
  have hln : σ.2.2.2.2.2.1 ≤ 60 := hok.2.2.2.2.1
  have hpc : ∀ i, i < σ.2.2.2.2.2.1 → σ.2.2.2.2.2.2 i < 128 := fun i hi => by have h7 := (hok.2.2.2.2.2 i hi).2; exact Nat.lt_of_le_of_lt h7 (by decide)
  obtain ⟨t, at', w, bm, A, U, L, K, SE, SH, BU, hM, hU, hL, hK⟩ := hC
  have hA : zArr G 0 M (d + 1) 818 (fun i => nI (σ.1 i)) := hM.s (fun _ _ => rfl)
  have hF : ∀ q, (q < d ∨ d + 10 ≤ q) → M q = M q := fun _ _ => rfl
  refine z_gen B0 (fun H locs hH hS => ?_) hH
  refine lv_aload_n hx hb dX6_paste_0 rfl (lv_at hl 0 rfl) ?_
  refine n_iconst hx hb 0 dX6_paste_1 (by decide) ?_
  refine z_put (T := TX6) hE hH hS hM.1 rfl uw_X6 tyX6 tyX6_ok nmX6 0 (by decide) fkX6_38 rfl rfl rfl (Nat.le_of_ble_eq_true rfl) (by omega) dX6_paste_2 (fun H locs M3 hH hS e1 o2 => ?_)
  have hM4 : Md G d (sg (nI 0) (nI σ.2.1) (nI σ.2.2.2.2.2.1) at' w bm) (xs σ.1 A U L K (fun i => nI (σ.2.2.2.2.2.2 i)) SE SH BU) M3 := Md.setC hM e1 o2
  have hA5 := hM4.s (fun _ _ => rfl)
  have hF6 := fun q hq => (o2 q (by omega)).trans (hF q hq)
  refine lv_iload_n hx hb dX6_paste_5 rfl (lv_at hl 1 rfl) ?_
  refine lv_iload_n hx hb dX6_paste_6 rfl (lv_at hl 2 rfl) ?_
  refine z_callS (rest := []) (st2 := [.int (zb (isC x y))]) hE hH hS hB0 hl ca_X6_isCell mkX6_78 (c_X6_isCell l G B0 M3 x y) rfl rfl rfl ⟨Nat.le_of_ble_eq_true rfl, Nat.le_of_ble_eq_true rfl⟩ (Nat.le_of_ble_eq_true rfl) ⟨Nat.le_refl _, Nat.le_refl _⟩ dX6_paste_7 (fun H locs M1 hH hp hS => ?_)
  subst hp
  refine b_if_eq (tgt := 55) hx hb dX6_paste_10 (by decide) (fun h8 => ?_) (fun h8 => ?_)
  · refine n_iconst hx hb 0 dX6_paste_55 (by decide) ?_
    refine lv_istore (lv' := [(7, .int (nI 0)), (0, .ref d), (1, .int x), (2, .int y), (3, .int wd), (4, .int ht), (5, .int p), (6, .int q)]) hx hb dX6_paste_56 hl (by decide) rfl (fun ls hl => ?_)
    refine lv_iload hx hb dX6_paste_58 (lv_at hl 0 rfl) ?_
    refine n_if_ne (tgt := 65) hx hb (by decide) dX6_paste_60 (by decide) (fun h9 => ?_) (fun h9 => ?_)
    · refine lv_iload hx hb dX6_paste_65 (lv_at hl 6 rfl) ?_
      refine n_iconst hx hb 1 dX6_paste_67 (by decide) ?_
      refine n_sipush hx hb 999 dX6_paste_68 (by decide) ?_
      refine z_callS (rest := []) (st2 := [.int (zb (wi p (nI 1) (nI 999)))]) hE hH hS hB0 hl ca_X6_in mkX6_42 (c_X6_in l G B0 M3 p (nI 1) (nI 999)) rfl rfl rfl ⟨Nat.le_of_ble_eq_true rfl, Nat.le_of_ble_eq_true rfl⟩ (Nat.le_of_ble_eq_true rfl) ⟨Nat.le_refl _, Nat.le_refl _⟩ dX6_paste_71 (fun H locs M1 hH hp hS => ?_)
      subst hp
      refine b_if_eq (tgt := 88) hx hb dX6_paste_74 (by decide) (fun h11 => ?_) (fun h11 => ?_)
      · refine lv_bipush (v := (-2)) hx hb dX6_paste_88 (by decide) ?_
        have hf : (fPaste σ x y wd ht p q).1 = ((-2), (σ.1, σ.2.1, σ.2.2.1, σ.2.2.2.1, σ.2.2.2.2.1, σ.2.2.2.2.2.1, σ.2.2.2.2.2.2)) := by
          simp [fPaste, chg, sV, sN, sH, sS, sD, sL, sP, h8, h9, h11]
          try omega
        rw [hf]
        exact z_iret hE hH hS rfl ⟨⟨_, _, _, _, _, _, _, _, _, _, _, hM4, hU, hL, hK⟩, hF6⟩ dX6_paste_90
      · obtain ⟨p', rfl, p1, p2⟩ := wi_nat (by decide) (by decide) h11
        have tx12 : tn (nI p') = p' := tn_nI (by omega)
        refine lv_iload hx hb dX6_paste_77 (lv_at hl 7 rfl) ?_
        refine n_iconst hx hb 1 dX6_paste_79 (by decide) ?_
        refine n_bipush hx hb 99 dX6_paste_80 (by decide) ?_
        refine z_callS (rest := []) (st2 := [.int (zb (wi q (nI 1) (nI 99)))]) hE hH hS hB0 hl ca_X6_in mkX6_42 (c_X6_in l G B0 M3 q (nI 1) (nI 99)) rfl rfl rfl ⟨Nat.le_of_ble_eq_true rfl, Nat.le_of_ble_eq_true rfl⟩ (Nat.le_of_ble_eq_true rfl) ⟨Nat.le_refl _, Nat.le_refl _⟩ dX6_paste_82 (fun H locs M1 hH hp hS => ?_)
        subst hp
        refine b_if_ne (tgt := 91) hx hb dX6_paste_85 (by decide) (fun h14 => ?_) (fun h14 => ?_)
        · obtain ⟨q', rfl, q1, q2⟩ := wi_nat (by decide) (by decide) h14
          have tx15 : tn (nI q') = q' := tn_nI (by omega)
          refine lv_aload_n hx hb dX6_paste_91 rfl (lv_at hl 1 rfl) ?_
          refine z_get (T := TX6) (v := .ref (d + 1)) hE hH hM4.1 rfl uw_X6 1 (by decide) fkX6_7 rfl dX6_paste_92 ?_
          refine n_iconst hx hb 0 dX6_paste_95 (by decide) ?_
          refine z_iald hE hH hA5 (k := 0) (by omega) (by decide) dX6_paste_96 ?_
          refine n_bipush hx hb 12 dX6_paste_97 (by decide) ?_
          refine n_cmp_ne (tgt := 105) hx hb (by omega) (by decide) dX6_paste_99 (by decide) (fun h16 => ?_) (fun h16 => ?_)
          · refine lv_aload_n hx hb dX6_paste_105 rfl (lv_at hl 1 rfl) ?_
            refine z_callV (rest := []) (st2 := []) hE hH hS hB0 hl ca_X6_records mkX6_81 (c_X6_records l G B0 M3 d (nI 0) (nI σ.2.2.2.2.2.1) at' w bm σ.2.1 σ.2.2.1 σ.1 A U L K (fun i => nI (σ.2.2.2.2.2.2 i)) SE SH BU hM4 hv (by omega) hn6 hU) hM4.1 rfl rfl rfl rfl rfl ⟨Nat.le_of_ble_eq_true rfl, Nat.le_of_ble_eq_true rfl⟩ (Nat.le_of_ble_eq_true rfl) ⟨Nat.le_refl _, Nat.le_refl _⟩ dX6_paste_106 (fun H locs M17 hH hp hS => ?_)
            obtain ⟨U18, hM19, hU22, hG20⟩ := hp
            have hA23 := hM19.s (fun _ _ => rfl)
            have hF21 := fun q hq => (hG20 q hq).trans (hF6 q hq)
            refine lv_aload_n hx hb dX6_paste_109 rfl (lv_at hl 1 rfl) ?_
            refine z_get (T := TX6) (v := .ref (d + 1)) hE hH hM19.1 rfl uw_X6 1 (by decide) fkX6_7 rfl dX6_paste_110 ?_
            refine n_iconst hx hb 0 dX6_paste_113 (by decide) ?_
            refine z_iald hE hH hA23 (k := 0) (by omega) (by decide) dX6_paste_114 ?_
            refine lv_istore (lv' := [(8, .int (nI (σ.1 (0)))), (7, .int (nI 0)), (0, .ref d), (1, .int x), (2, .int y), (3, .int wd), (4, .int ht), (5, .int (nI p')), (6, .int (nI q'))]) hx hb dX6_paste_115 hl (by decide) rfl (fun ls hl => ?_)
            refine lv_aload_n hx hb dX6_paste_117 rfl (lv_at hl 2 rfl) ?_
            refine z_get (T := TX6) (v := .ref (d + 1)) hE hH hM19.1 rfl uw_X6 1 (by decide) fkX6_7 rfl dX6_paste_118 ?_
            refine n_iconst hx hb 0 dX6_paste_121 (by decide) ?_
            refine lv_dup2_11 hx hb dX6_paste_122 rfl rfl ?_
            refine z_iald hE hH hA23 (k := 0) (by omega) (by decide) dX6_paste_123 ?_
            refine n_iconst hx hb 1 dX6_paste_124 (by decide) ?_
            refine n_iadd hx hb dX6_paste_125 ?_
            refine z_iast hE hH hS hA23 (k := 0) (by omega) (by decide) (by omega) dX6_paste_126 (fun H locs M26 hH hS e24 o25 => ?_)
            have hM27 : Md G d (sg (nI 0) (nI (keepN σ.2.1)) (nI σ.2.2.2.2.2.1) at' w bm) (xs (vset σ.1 (0) ((σ.1 (0)) + 1)) A U18 L K (fun i => nI (σ.2.2.2.2.2.2 i)) SE SH BU) M26 := Md.setJ (j := 1) hM19 (by decide) (zArr.to e24 (fun q _ => by show (if q = _ then nI _ else nI _) = nI (fset _ _ _ q); unfold fset; by_cases hq : q = 0 <;> (first | (simp [hq]; done) | (rw [if_pos hq, if_pos hq]; rfl) | (rw [if_neg hq, if_neg hq]; rfl)))) (fun i hi => by unfold xs; split <;> first | rfl | exact absurd rfl hi) o25
            have hA29 := hM27.s (fun _ _ => rfl)
            have hF30 := fun q hq => (o25 q (by omega)).trans (hF21 q hq)
            refine n_bipush hx hb 14 dX6_paste_127 (by decide) ?_
            refine n_bipush hx hb 7 dX6_paste_129 (by decide) ?_
            refine lv_iload hx hb dX6_paste_131 (lv_at hl 0 rfl) ?_
            refine n_imul hx hb dX6_paste_133 ?_
            refine n_iadd hx hb dX6_paste_134 ?_
            refine lv_istore (lv' := [(9, .int (nI (14 + (7 * (σ.1 (0)))))), (8, .int (nI (σ.1 (0)))), (7, .int (nI 0)), (0, .ref d), (1, .int x), (2, .int y), (3, .int wd), (4, .int ht), (5, .int (nI p')), (6, .int (nI q'))]) hx hb dX6_paste_135 hl (by decide) rfl (fun ls hl => ?_)
            refine lv_aload_n hx hb dX6_paste_137 rfl (lv_at hl 3 rfl) ?_
            refine z_get (T := TX6) (v := .ref (d + 1)) hE hH hM27.1 rfl uw_X6 1 (by decide) fkX6_7 rfl dX6_paste_138 ?_
            refine lv_iload hx hb dX6_paste_141 (lv_at hl 0 rfl) ?_
            refine n_iconst hx hb 0 dX6_paste_143 (by decide) ?_
            refine n_iadd hx hb dX6_paste_144 ?_
            refine lv_iload_n hx hb dX6_paste_145 rfl (lv_at hl 4 rfl) ?_
            refine z_iast hE hH hS hA29 (k := (14 + (7 * (σ.1 (0)))) + 0) (by omega) (by decide) (by omega) dX6_paste_146 (fun H locs M33 hH hS e31 o32 => ?_)
            have hM34 : Md G d (sg (nI 0) (nI (keepN σ.2.1)) (nI σ.2.2.2.2.2.1) at' w bm) (xs (vset (vset σ.1 (0) ((σ.1 (0)) + 1)) ((14 + (7 * (σ.1 (0)))) + 0) x) A U18 L K (fun i => nI (σ.2.2.2.2.2.2 i)) SE SH BU) M33 := Md.setJ (j := 1) hM27 (by decide) (zArr.to e31 (fun q _ => by show (if q = _ then nI _ else nI _) = nI (fset _ _ _ q); unfold fset; by_cases hq : q = (14 + (7 * (σ.1 (0)))) + 0 <;> (first | (simp [hq]; done) | (rw [if_pos hq, if_pos hq]; rfl) | (rw [if_neg hq, if_neg hq]; rfl)))) (fun i hi => by unfold xs; split <;> first | rfl | exact absurd rfl hi) o32
            have hA36 := hM34.s (fun _ _ => rfl)
            have hF37 := fun q hq => (o32 q (by omega)).trans (hF30 q hq)
            refine lv_aload_n hx hb dX6_paste_147 rfl (lv_at hl 3 rfl) ?_
            refine z_get (T := TX6) (v := .ref (d + 1)) hE hH hM34.1 rfl uw_X6 1 (by decide) fkX6_7 rfl dX6_paste_148 ?_
            refine lv_iload hx hb dX6_paste_151 (lv_at hl 0 rfl) ?_
            refine n_iconst hx hb 1 dX6_paste_153 (by decide) ?_
            refine n_iadd hx hb dX6_paste_154 ?_
            refine lv_iload_n hx hb dX6_paste_155 rfl (lv_at hl 5 rfl) ?_
            refine z_iast hE hH hS hA36 (k := (14 + (7 * (σ.1 (0)))) + 1) (by omega) (by decide) (by omega) dX6_paste_156 (fun H locs M40 hH hS e38 o39 => ?_)
            have hM41 : Md G d (sg (nI 0) (nI (keepN σ.2.1)) (nI σ.2.2.2.2.2.1) at' w bm) (xs (vset (vset (vset σ.1 (0) ((σ.1 (0)) + 1)) ((14 + (7 * (σ.1 (0)))) + 0) x) ((14 + (7 * (σ.1 (0)))) + 1) y) A U18 L K (fun i => nI (σ.2.2.2.2.2.2 i)) SE SH BU) M40 := Md.setJ (j := 1) hM34 (by decide) (zArr.to e38 (fun q _ => by show (if q = _ then nI _ else nI _) = nI (fset _ _ _ q); unfold fset; by_cases hq : q = (14 + (7 * (σ.1 (0)))) + 1 <;> (first | (simp [hq]; done) | (rw [if_pos hq, if_pos hq]; rfl) | (rw [if_neg hq, if_neg hq]; rfl)))) (fun i hi => by unfold xs; split <;> first | rfl | exact absurd rfl hi) o39
            have hA43 := hM41.s (fun _ _ => rfl)
            have hF44 := fun q hq => (o39 q (by omega)).trans (hF37 q hq)
            refine lv_aload_n hx hb dX6_paste_157 rfl (lv_at hl 3 rfl) ?_
            refine z_get (T := TX6) (v := .ref (d + 1)) hE hH hM41.1 rfl uw_X6 1 (by decide) fkX6_7 rfl dX6_paste_158 ?_
            refine lv_iload hx hb dX6_paste_161 (lv_at hl 0 rfl) ?_
            refine n_iconst hx hb 2 dX6_paste_163 (by decide) ?_
            refine n_iadd hx hb dX6_paste_164 ?_
            refine lv_iload_n hx hb dX6_paste_165 rfl (lv_at hl 6 rfl) ?_
            refine z_iast hE hH hS hA43 (k := (14 + (7 * (σ.1 (0)))) + 2) (by omega) (by decide) (by omega) dX6_paste_166 (fun H locs M47 hH hS e45 o46 => ?_)
            have hM48 : Md G d (sg (nI 0) (nI (keepN σ.2.1)) (nI σ.2.2.2.2.2.1) at' w bm) (xs (vset (vset (vset (vset σ.1 (0) ((σ.1 (0)) + 1)) ((14 + (7 * (σ.1 (0)))) + 0) x) ((14 + (7 * (σ.1 (0)))) + 1) y) ((14 + (7 * (σ.1 (0)))) + 2) wd) A U18 L K (fun i => nI (σ.2.2.2.2.2.2 i)) SE SH BU) M47 := Md.setJ (j := 1) hM41 (by decide) (zArr.to e45 (fun q _ => by show (if q = _ then nI _ else nI _) = nI (fset _ _ _ q); unfold fset; by_cases hq : q = (14 + (7 * (σ.1 (0)))) + 2 <;> (first | (simp [hq]; done) | (rw [if_pos hq, if_pos hq]; rfl) | (rw [if_neg hq, if_neg hq]; rfl)))) (fun i hi => by unfold xs; split <;> first | rfl | exact absurd rfl hi) o46
            have hA50 := hM48.s (fun _ _ => rfl)
            have hF51 := fun q hq => (o46 q (by omega)).trans (hF44 q hq)
            refine lv_aload_n hx hb dX6_paste_167 rfl (lv_at hl 3 rfl) ?_
            refine z_get (T := TX6) (v := .ref (d + 1)) hE hH hM48.1 rfl uw_X6 1 (by decide) fkX6_7 rfl dX6_paste_168 ?_
            refine lv_iload hx hb dX6_paste_171 (lv_at hl 0 rfl) ?_
            refine n_iconst hx hb 3 dX6_paste_173 (by decide) ?_
            refine n_iadd hx hb dX6_paste_174 ?_
            refine lv_iload hx hb dX6_paste_175 (lv_at hl 7 rfl) ?_
            refine z_iast hE hH hS hA50 (k := (14 + (7 * (σ.1 (0)))) + 3) (by omega) (by decide) (by omega) dX6_paste_177 (fun H locs M54 hH hS e52 o53 => ?_)
            have hM55 : Md G d (sg (nI 0) (nI (keepN σ.2.1)) (nI σ.2.2.2.2.2.1) at' w bm) (xs (vset (vset (vset (vset (vset σ.1 (0) ((σ.1 (0)) + 1)) ((14 + (7 * (σ.1 (0)))) + 0) x) ((14 + (7 * (σ.1 (0)))) + 1) y) ((14 + (7 * (σ.1 (0)))) + 2) wd) ((14 + (7 * (σ.1 (0)))) + 3) ht) A U18 L K (fun i => nI (σ.2.2.2.2.2.2 i)) SE SH BU) M54 := Md.setJ (j := 1) hM48 (by decide) (zArr.to e52 (fun q _ => by show (if q = _ then nI _ else nI _) = nI (fset _ _ _ q); unfold fset; by_cases hq : q = (14 + (7 * (σ.1 (0)))) + 3 <;> (first | (simp [hq]; done) | (rw [if_pos hq, if_pos hq]; rfl) | (rw [if_neg hq, if_neg hq]; rfl)))) (fun i hi => by unfold xs; split <;> first | rfl | exact absurd rfl hi) o53
            have hA57 := hM55.s (fun _ _ => rfl)
            have hF58 := fun q hq => (o53 q (by omega)).trans (hF51 q hq)
            refine lv_aload_n hx hb dX6_paste_178 rfl (lv_at hl 3 rfl) ?_
            refine z_get (T := TX6) (v := .ref (d + 1)) hE hH hM55.1 rfl uw_X6 1 (by decide) fkX6_7 rfl dX6_paste_179 ?_
            refine lv_iload hx hb dX6_paste_182 (lv_at hl 0 rfl) ?_
            refine n_iconst hx hb 4 dX6_paste_184 (by decide) ?_
            refine n_iadd hx hb dX6_paste_185 ?_
            refine lv_iload hx hb dX6_paste_186 (lv_at hl 8 rfl) ?_
            refine z_iast hE hH hS hA57 (k := (14 + (7 * (σ.1 (0)))) + 4) (by omega) (by decide) (by omega) dX6_paste_188 (fun H locs M61 hH hS e59 o60 => ?_)
            have hM62 : Md G d (sg (nI 0) (nI (keepN σ.2.1)) (nI σ.2.2.2.2.2.1) at' w bm) (xs (vset (vset (vset (vset (vset (vset σ.1 (0) ((σ.1 (0)) + 1)) ((14 + (7 * (σ.1 (0)))) + 0) x) ((14 + (7 * (σ.1 (0)))) + 1) y) ((14 + (7 * (σ.1 (0)))) + 2) wd) ((14 + (7 * (σ.1 (0)))) + 3) ht) ((14 + (7 * (σ.1 (0)))) + 4) p') A U18 L K (fun i => nI (σ.2.2.2.2.2.2 i)) SE SH BU) M61 := Md.setJ (j := 1) hM55 (by decide) (zArr.to e59 (fun q _ => by show (if q = _ then nI _ else nI _) = nI (fset _ _ _ q); unfold fset; by_cases hq : q = (14 + (7 * (σ.1 (0)))) + 4 <;> (first | (simp [hq]; done) | (rw [if_pos hq, if_pos hq]; rfl) | (rw [if_neg hq, if_neg hq]; rfl)))) (fun i hi => by unfold xs; split <;> first | rfl | exact absurd rfl hi) o60
            have hA64 := hM62.s (fun _ _ => rfl)
            have hF65 := fun q hq => (o60 q (by omega)).trans (hF58 q hq)
            refine lv_aload_n hx hb dX6_paste_189 rfl (lv_at hl 3 rfl) ?_
            refine z_get (T := TX6) (v := .ref (d + 1)) hE hH hM62.1 rfl uw_X6 1 (by decide) fkX6_7 rfl dX6_paste_190 ?_
            refine lv_iload hx hb dX6_paste_193 (lv_at hl 0 rfl) ?_
            refine n_iconst hx hb 5 dX6_paste_195 (by decide) ?_
            refine n_iadd hx hb dX6_paste_196 ?_
            refine n_iconst hx hb 0 dX6_paste_197 (by decide) ?_
            refine z_iast hE hH hS hA64 (k := (14 + (7 * (σ.1 (0)))) + 5) (by omega) (by decide) (by omega) dX6_paste_198 (fun H locs M68 hH hS e66 o67 => ?_)
            have hM69 : Md G d (sg (nI 0) (nI (keepN σ.2.1)) (nI σ.2.2.2.2.2.1) at' w bm) (xs (vset (vset (vset (vset (vset (vset (vset σ.1 (0) ((σ.1 (0)) + 1)) ((14 + (7 * (σ.1 (0)))) + 0) x) ((14 + (7 * (σ.1 (0)))) + 1) y) ((14 + (7 * (σ.1 (0)))) + 2) wd) ((14 + (7 * (σ.1 (0)))) + 3) ht) ((14 + (7 * (σ.1 (0)))) + 4) p') ((14 + (7 * (σ.1 (0)))) + 5) 0) A U18 L K (fun i => nI (σ.2.2.2.2.2.2 i)) SE SH BU) M68 := Md.setJ (j := 1) hM62 (by decide) (zArr.to e66 (fun q _ => by show (if q = _ then nI _ else nI _) = nI (fset _ _ _ q); unfold fset; by_cases hq : q = (14 + (7 * (σ.1 (0)))) + 5 <;> (first | (simp [hq]; done) | (rw [if_pos hq, if_pos hq]; rfl) | (rw [if_neg hq, if_neg hq]; rfl)))) (fun i hi => by unfold xs; split <;> first | rfl | exact absurd rfl hi) o67
            have hA71 := hM69.s (fun _ _ => rfl)
            have hF72 := fun q hq => (o67 q (by omega)).trans (hF65 q hq)
            refine lv_aload_n hx hb dX6_paste_199 rfl (lv_at hl 3 rfl) ?_
            refine z_get (T := TX6) (v := .ref (d + 1)) hE hH hM69.1 rfl uw_X6 1 (by decide) fkX6_7 rfl dX6_paste_200 ?_
            refine lv_iload hx hb dX6_paste_203 (lv_at hl 0 rfl) ?_
            refine n_bipush hx hb 6 dX6_paste_205 (by decide) ?_
            refine n_iadd hx hb dX6_paste_207 ?_
            refine n_iconst hx hb 0 dX6_paste_208 (by decide) ?_
            refine z_iast hE hH hS hA71 (k := (14 + (7 * (σ.1 (0)))) + 6) (by omega) (by decide) (by omega) dX6_paste_209 (fun H locs M75 hH hS e73 o74 => ?_)
            have hM76 : Md G d (sg (nI 0) (nI (keepN σ.2.1)) (nI σ.2.2.2.2.2.1) at' w bm) (xs (vset (vset (vset (vset (vset (vset (vset (vset σ.1 (0) ((σ.1 (0)) + 1)) ((14 + (7 * (σ.1 (0)))) + 0) x) ((14 + (7 * (σ.1 (0)))) + 1) y) ((14 + (7 * (σ.1 (0)))) + 2) wd) ((14 + (7 * (σ.1 (0)))) + 3) ht) ((14 + (7 * (σ.1 (0)))) + 4) p') ((14 + (7 * (σ.1 (0)))) + 5) 0) ((14 + (7 * (σ.1 (0)))) + 6) 0) A U18 L K (fun i => nI (σ.2.2.2.2.2.2 i)) SE SH BU) M75 := Md.setJ (j := 1) hM69 (by decide) (zArr.to e73 (fun q _ => by show (if q = _ then nI _ else nI _) = nI (fset _ _ _ q); unfold fset; by_cases hq : q = (14 + (7 * (σ.1 (0)))) + 6 <;> (first | (simp [hq]; done) | (rw [if_pos hq, if_pos hq]; rfl) | (rw [if_neg hq, if_neg hq]; rfl)))) (fun i hi => by unfold xs; split <;> first | rfl | exact absurd rfl hi) o74
            have hA78 := hM76.s (fun _ _ => rfl)
            have hF79 := fun q hq => (o74 q (by omega)).trans (hF72 q hq)
            refine n_iconst hx hb 0 dX6_paste_210 (by decide) ?_
            refine lv_istore (lv' := [(10, .int (nI 0)), (9, .int (nI (14 + (7 * (σ.1 (0)))))), (8, .int (nI (σ.1 (0)))), (7, .int (nI 0)), (0, .ref d), (1, .int x), (2, .int y), (3, .int wd), (4, .int ht), (5, .int (nI p')), (6, .int (nI q'))]) hx hb dX6_paste_211 hl (by decide) rfl (fun ls hl => ?_)
            have L213 : ∀ (dd : Nat) (k : Nat) (u : Wv) (M1 : Mm), 60 < k + dd → (k ≤ 60) → (Md G d (sg (nI 0) (nI (keepN σ.2.1)) (nI σ.2.2.2.2.2.1) at' w bm) (xs u A U18 L K (fun i => nI (σ.2.2.2.2.2.2 i)) SE SH BU) M1) → (∀ q, (q < d ∨ d + 10 ≤ q) → M1 q = M q) → (∀ i, u i = pstV σ.1 x' y' wd' ht' p' q' k i) → ∀ (H : Heap) (locs : List Loc), zH G M1 H → zS 0 B0 s.heap H locs → ∀ (ls : Array Slot), lv_has ls 11 [(0, .ref d), (6, .int (nI q')), (8, .int (nI (σ.1 0))), (10, .int (nI k))] → zW pg l ev 5 0 0 s m [.ref d, .int x, .int y, .int wd, .int ht, .int (nI p'), .int (nI q')] below meth cd H locs 0 0 G B0 (some (.int ((fPaste σ x y wd ht (nI p') (nI q')).1))) (fun M1 => Mo G d (fPaste σ x y wd ht (nI p') (nI q')).2 M1 ∧ ∀ (nI q'), ((nI q') < d ∨ d + 10 ≤ (nI q')) → M1 (nI q') = M (nI q')) (F0 m 213 ls []) := by
              intro dd
              induction dd with
              | zero =>
                intro k u M1 hdd hk hM1 hF1 hu
                exact absurd hdd (by omega)
              | succ dd ih =>
                intro k u M1 hdd hk hM1 hF1 hu H locs hH hS ls hl
                have hA1 : zArr G 0 M1 (d + 1) 818 (fun i => nI (u i)) := hM1.s (fun _ _ => rfl)
                obtain ⟨hu0, r0, r1, r2, r3⟩ := pst_at hu
                have hqr : 1 ≤ pv u (σ.1 0) 2 ∧ pv u (σ.1 0) 0 + pv u (σ.1 0) 2 ≤ 10 ∧ 1 ≤ pv u (σ.1 0) 3 ∧ pv u (σ.1 0) 1 + pv u (σ.1 0) 3 ≤ 6 := by rw [r0, r1, r2, r3]; omega
                refine lv_iload hx hb dX6_paste_213 (lv_at hl 3 rfl) ?_
                refine n_bipush hx hb 60 dX6_paste_215 (by decide) ?_
                refine n_cmp_ge (tgt := 251) hx hb (by omega) (by decide) dX6_paste_217 (by decide) (fun h80 => ?_) (fun h80 => ?_)
                · refine lv_iload hx hb dX6_paste_251 (lv_at hl 2 rfl) ?_
                  have hf : (fPaste σ x y wd ht (nI p') (nI q')).1 = ((nI (σ.1 0)), (pasteV σ.1 x' y' wd' ht' p' q', keepN σ.2.1, keepH σ.2.2.1 σ.2.1 σ.1, σ.2.2.2.1, σ.2.2.2.2.1, σ.2.2.2.2.2.1, σ.2.2.2.2.2.2)) := by
                    simp [fPaste, chg, sV, sN, sH, sS, sD, sL, sP, h8, h9, h11, tx12, h14, tx15, h16, h80]
                    try omega
                  rw [hf]
                  have hkk : k = 60 := by omega
                  subst hkk
                  exact z_iret hE hH hS rfl ⟨⟨_, _, _, _, _, _, _, _, _, _, _, hM1.to (j := 1) (fun i hi => congrArg nI ((hu i).trans (pst_e i))) (fun i hi => by unfold xs; split <;> first | rfl | exact absurd rfl hi), hU22, hL, hK⟩, hF1⟩ dX6_paste_253
                · refine lv_aload_n hx hb dX6_paste_220 rfl (lv_at hl 0 rfl) ?_
                  refine lv_iload hx hb dX6_paste_221 (lv_at hl 2 rfl) ?_
                  refine lv_iload hx hb dX6_paste_223 (lv_at hl 3 rfl) ?_
                  refine lv_aload_n hx hb dX6_paste_225 rfl (lv_at hl 0 rfl) ?_
                  refine lv_iload hx hb dX6_paste_226 (lv_at hl 2 rfl) ?_
                  refine lv_iload hx hb dX6_paste_228 (lv_at hl 3 rfl) ?_
                  refine z_callV (rest := [.int (nI k), .int (nI (σ.1 0)), .ref d]) (st2 := [.int (zb (liesN (pv u (σ.1 0)) (k % 10) (k / 10))), .int (nI k), .int (nI (σ.1 0)), .ref d]) hE hH hS hB0 hl ca_X6_lies mkX6_53 (c_X6_lies0 l G B0 M1 d (sg (nI 0) (nI (keepN σ.2.1)) (nI σ.2.2.2.2.2.1) at' w bm) (xs u A U18 L K (fun i => nI (σ.2.2.2.2.2.2 i)) SE SH BU) hM1 u (fun _ _ => rfl) (σ.1 0) k (by omega) hqr (by omega)) hM1.1 rfl rfl rfl rfl rfl ⟨Nat.le_of_ble_eq_true rfl, Nat.le_of_ble_eq_true rfl⟩ (Nat.le_of_ble_eq_true rfl) ⟨Nat.le_refl _, Nat.le_refl _⟩ dX6_paste_230 (fun H locs M1 hH hp hS => ?_)
                  subst hp
                  refine b_if_eq (tgt := 241) hx hb dX6_paste_233 (by decide) (fun h83 => ?_) (fun h83 => ?_)
                  · refine n_iconst hx hb 0 dX6_paste_241 (by decide) ?_
                    refine z_callV (rest := []) (st2 := []) hE hH hS hB0 hl ca_X6_lays mkX6_63 (c_X6_lays0 l G B0 M1 d (sg (nI 0) (nI (keepN σ.2.1)) (nI σ.2.2.2.2.2.1) at' w bm) u A U18 L K (fun i => nI (σ.2.2.2.2.2.2 i)) SE SH BU hM1 (by omega) (σ.1 0) k 0 (by omega) (by omega)) hM1.1 rfl rfl rfl rfl rfl ⟨Nat.le_of_ble_eq_true rfl, Nat.le_of_ble_eq_true rfl⟩ (Nat.le_of_ble_eq_true rfl) ⟨Nat.le_refl _, Nat.le_refl _⟩ dX6_paste_242 (fun H locs M84 hH hp hS => ?_)
                    obtain ⟨hM85, hG86⟩ := hp
                    have hA88 := hM85.s (fun _ _ => rfl)
                    have hF87 := fun q hq => (hG86 q hq).trans (hF1 q hq)
                    refine lv_iinc (v := (nI (k + 1))) (lv' := [(10, .int (nI (k + 1))), (0, .ref d), (6, .int (nI q')), (8, .int (nI (σ.1 0)))]) hx hb dX6_paste_245 hl (k := 3) rfl (nI_inc _) (by decide) rfl (fun ls hl => ?_)
                    refine lv_goto (tgt := 213) hx hb dX6_paste_248 (by decide) ?_
                    exact ih  (k + 1) (vset u (98 + 60 * (σ.1 0) + k) 0) M84 (by omega) (by omega) hM85 hF87 (pst_s hu (by rw [if_neg (by rw [h83]; decide)])) _ _ hH hS _ (lv_sub hl [1, 2, 3, 0] rfl)
                  · refine lv_iload hx hb dX6_paste_236 (lv_at hl 1 rfl) ?_
                    refine lv_goto (tgt := 242) hx hb dX6_paste_238 (by decide) ?_
                    refine z_callV (rest := []) (st2 := []) hE hH hS hB0 hl ca_X6_lays mkX6_63 (c_X6_lays0 l G B0 M1 d (sg (nI 0) (nI (keepN σ.2.1)) (nI σ.2.2.2.2.2.1) at' w bm) u A U18 L K (fun i => nI (σ.2.2.2.2.2.2 i)) SE SH BU hM1 (by omega) (σ.1 0) k q' (by omega) (by omega)) hM1.1 rfl rfl rfl rfl rfl ⟨Nat.le_of_ble_eq_true rfl, Nat.le_of_ble_eq_true rfl⟩ (Nat.le_of_ble_eq_true rfl) ⟨Nat.le_refl _, Nat.le_refl _⟩ dX6_paste_242 (fun H locs M89 hH hp hS => ?_)
                    obtain ⟨hM90, hG91⟩ := hp
                    have hA93 := hM90.s (fun _ _ => rfl)
                    have hF92 := fun q hq => (hG91 q hq).trans (hF1 q hq)
                    refine lv_iinc (v := (nI (k + 1))) (lv' := [(10, .int (nI (k + 1))), (0, .ref d), (6, .int (nI q')), (8, .int (nI (σ.1 0)))]) hx hb dX6_paste_245 hl (k := 3) rfl (nI_inc _) (by decide) rfl (fun ls hl => ?_)
                    refine lv_goto (tgt := 213) hx hb dX6_paste_248 (by decide) ?_
                    exact ih  (k + 1) (vset u (98 + 60 * (σ.1 0) + k) q') M89 (by omega) (by omega) hM90 hF92 (pst_s hu (by rw [if_pos h83])) _ _ hH hS _ (lv_sub hl [1, 2, 3, 0] rfl)
            exact L213 61 0 (vset (vset (vset (vset (vset (vset (vset (vset σ.1 (0) ((σ.1 (0)) + 1)) ((14 + (7 * (σ.1 (0)))) + 0) x) ((14 + (7 * (σ.1 (0)))) + 1) y) ((14 + (7 * (σ.1 (0)))) + 2) wd) ((14 + (7 * (σ.1 (0)))) + 3) ht) ((14 + (7 * (σ.1 (0)))) + 4) p') ((14 + (7 * (σ.1 (0)))) + 5) 0) ((14 + (7 * (σ.1 (0)))) + 6) 0) M75 (by omega) (by omega) hM76 hF79 (fun i => pst_0 i) _ _ hH hS _ (lv_sub hl [4, 10, 2, 0] rfl)
          · refine lv_bipush (v := (-4)) hx hb dX6_paste_102 (by decide) ?_
            have hf : (fPaste σ x y wd ht (nI p') (nI q')).1 = ((-4), (σ.1, σ.2.1, σ.2.2.1, σ.2.2.2.1, σ.2.2.2.2.1, σ.2.2.2.2.2.1, σ.2.2.2.2.2.2)) := by
              simp [fPaste, chg, sV, sN, sH, sS, sD, sL, sP, h8, h9, h11, tx12, h14, tx15, h16]
              try omega
            rw [hf]
            exact z_iret hE hH hS rfl ⟨⟨_, _, _, _, _, _, _, _, _, _, _, hM4, hU, hL, hK⟩, hF6⟩ dX6_paste_104
        · refine lv_bipush (v := (-2)) hx hb dX6_paste_88 (by decide) ?_
          have hf : (fPaste σ x y wd ht (nI p') q).1 = ((-2), (σ.1, σ.2.1, σ.2.2.1, σ.2.2.2.1, σ.2.2.2.2.1, σ.2.2.2.2.2.1, σ.2.2.2.2.2.2)) := by
            simp [fPaste, chg, sV, sN, sH, sS, sD, sL, sP, h8, h9, h11, tx12, h14]
            try omega
          rw [hf]
          exact z_iret hE hH hS rfl ⟨⟨_, _, _, _, _, _, _, _, _, _, _, hM4, hU, hL, hK⟩, hF6⟩ dX6_paste_90
    · refine lv_iconst (v := (-1)) hx hb dX6_paste_63 (by decide) ?_
      have hf : (fPaste σ x y wd ht p q).1 = ((-1), (σ.1, σ.2.1, σ.2.2.1, σ.2.2.2.1, σ.2.2.2.2.1, σ.2.2.2.2.2.1, σ.2.2.2.2.2.2)) := by
        refine fPaste_no (fun q1 q2 q3 => ?_)
        first
          | exact absurd (q1.symm.trans h9) (by decide)
          | exact absurd ((wi_mono (by decide) (by decide) (by omega) q2).symm.trans h9) (by decide)
          | exact absurd ((wi_mono (by decide) (by decide) (by omega) q3).symm.trans h9) (by decide)
          | exact wi_not (by omega) (by decide) (by omega) q2
          | exact wi_not (by omega) (by decide) (by omega) q3
      rw [hf]
      exact z_iret hE hH hS rfl ⟨⟨_, _, _, _, _, _, _, _, _, _, _, hM4, hU, hL, hK⟩, hF6⟩ dX6_paste_64
  · obtain ⟨x', y', rfl, rfl, x9, y9⟩ := isC_nat h8
    have tx94 : tn (nI x') = x' := tn_nI (by omega)
    have tx95 : tn (nI y') = y' := tn_nI (by omega)
    refine lv_iload_n hx hb dX6_paste_13 rfl (lv_at hl 3 rfl) ?_
    refine n_iconst hx hb 1 dX6_paste_14 (by decide) ?_
    refine n_bipush hx hb 10 dX6_paste_15 (by decide) ?_
    refine z_callS (rest := []) (st2 := [.int (zb (wi wd (nI 1) (nI 10)))]) hE hH hS hB0 hl ca_X6_in mkX6_42 (c_X6_in l G B0 M3 wd (nI 1) (nI 10)) rfl rfl rfl ⟨Nat.le_of_ble_eq_true rfl, Nat.le_of_ble_eq_true rfl⟩ (Nat.le_of_ble_eq_true rfl) ⟨Nat.le_refl _, Nat.le_refl _⟩ dX6_paste_17 (fun H locs M1 hH hp hS => ?_)
    subst hp
    refine b_if_eq (tgt := 55) hx hb dX6_paste_20 (by decide) (fun h97 => ?_) (fun h97 => ?_)
    · refine n_iconst hx hb 0 dX6_paste_55 (by decide) ?_
      refine lv_istore (lv' := [(7, .int (nI 0)), (0, .ref d), (1, .int (nI x')), (2, .int (nI y')), (3, .int wd), (4, .int ht), (5, .int p), (6, .int q)]) hx hb dX6_paste_56 hl (by decide) rfl (fun ls hl => ?_)
      refine lv_iload hx hb dX6_paste_58 (lv_at hl 0 rfl) ?_
      refine n_if_ne (tgt := 65) hx hb (by decide) dX6_paste_60 (by decide) (fun h98 => ?_) (fun h98 => ?_)
      · refine lv_iload hx hb dX6_paste_65 (lv_at hl 6 rfl) ?_
        refine n_iconst hx hb 1 dX6_paste_67 (by decide) ?_
        refine n_sipush hx hb 999 dX6_paste_68 (by decide) ?_
        refine z_callS (rest := []) (st2 := [.int (zb (wi p (nI 1) (nI 999)))]) hE hH hS hB0 hl ca_X6_in mkX6_42 (c_X6_in l G B0 M3 p (nI 1) (nI 999)) rfl rfl rfl ⟨Nat.le_of_ble_eq_true rfl, Nat.le_of_ble_eq_true rfl⟩ (Nat.le_of_ble_eq_true rfl) ⟨Nat.le_refl _, Nat.le_refl _⟩ dX6_paste_71 (fun H locs M1 hH hp hS => ?_)
        subst hp
        refine b_if_eq (tgt := 88) hx hb dX6_paste_74 (by decide) (fun h100 => ?_) (fun h100 => ?_)
        · refine lv_bipush (v := (-2)) hx hb dX6_paste_88 (by decide) ?_
          have hf : (fPaste σ (nI x') (nI y') wd ht p q).1 = ((-2), (σ.1, σ.2.1, σ.2.2.1, σ.2.2.2.1, σ.2.2.2.2.1, σ.2.2.2.2.2.1, σ.2.2.2.2.2.2)) := by
            simp [fPaste, chg, sV, sN, sH, sS, sD, sL, sP, h8, tx94, tx95, h97, h98, h100]
            try omega
          rw [hf]
          exact z_iret hE hH hS rfl ⟨⟨_, _, _, _, _, _, _, _, _, _, _, hM4, hU, hL, hK⟩, hF6⟩ dX6_paste_90
        · obtain ⟨p', rfl, p1, p2⟩ := wi_nat (by decide) (by decide) h100
          have tx101 : tn (nI p') = p' := tn_nI (by omega)
          refine lv_iload hx hb dX6_paste_77 (lv_at hl 7 rfl) ?_
          refine n_iconst hx hb 1 dX6_paste_79 (by decide) ?_
          refine n_bipush hx hb 99 dX6_paste_80 (by decide) ?_
          refine z_callS (rest := []) (st2 := [.int (zb (wi q (nI 1) (nI 99)))]) hE hH hS hB0 hl ca_X6_in mkX6_42 (c_X6_in l G B0 M3 q (nI 1) (nI 99)) rfl rfl rfl ⟨Nat.le_of_ble_eq_true rfl, Nat.le_of_ble_eq_true rfl⟩ (Nat.le_of_ble_eq_true rfl) ⟨Nat.le_refl _, Nat.le_refl _⟩ dX6_paste_82 (fun H locs M1 hH hp hS => ?_)
          subst hp
          refine b_if_ne (tgt := 91) hx hb dX6_paste_85 (by decide) (fun h103 => ?_) (fun h103 => ?_)
          · obtain ⟨q', rfl, q1, q2⟩ := wi_nat (by decide) (by decide) h103
            have tx104 : tn (nI q') = q' := tn_nI (by omega)
            refine lv_aload_n hx hb dX6_paste_91 rfl (lv_at hl 1 rfl) ?_
            refine z_get (T := TX6) (v := .ref (d + 1)) hE hH hM4.1 rfl uw_X6 1 (by decide) fkX6_7 rfl dX6_paste_92 ?_
            refine n_iconst hx hb 0 dX6_paste_95 (by decide) ?_
            refine z_iald hE hH hA5 (k := 0) (by omega) (by decide) dX6_paste_96 ?_
            refine n_bipush hx hb 12 dX6_paste_97 (by decide) ?_
            refine n_cmp_ne (tgt := 105) hx hb (by omega) (by decide) dX6_paste_99 (by decide) (fun h105 => ?_) (fun h105 => ?_)
            · refine lv_aload_n hx hb dX6_paste_105 rfl (lv_at hl 1 rfl) ?_
              refine z_callV (rest := []) (st2 := []) hE hH hS hB0 hl ca_X6_records mkX6_81 (c_X6_records l G B0 M3 d (nI 0) (nI σ.2.2.2.2.2.1) at' w bm σ.2.1 σ.2.2.1 σ.1 A U L K (fun i => nI (σ.2.2.2.2.2.2 i)) SE SH BU hM4 hv (by omega) hn6 hU) hM4.1 rfl rfl rfl rfl rfl ⟨Nat.le_of_ble_eq_true rfl, Nat.le_of_ble_eq_true rfl⟩ (Nat.le_of_ble_eq_true rfl) ⟨Nat.le_refl _, Nat.le_refl _⟩ dX6_paste_106 (fun H locs M106 hH hp hS => ?_)
              obtain ⟨U107, hM108, hU111, hG109⟩ := hp
              have hA112 := hM108.s (fun _ _ => rfl)
              have hF110 := fun q hq => (hG109 q hq).trans (hF6 q hq)
              refine lv_aload_n hx hb dX6_paste_109 rfl (lv_at hl 1 rfl) ?_
              refine z_get (T := TX6) (v := .ref (d + 1)) hE hH hM108.1 rfl uw_X6 1 (by decide) fkX6_7 rfl dX6_paste_110 ?_
              refine n_iconst hx hb 0 dX6_paste_113 (by decide) ?_
              refine z_iald hE hH hA112 (k := 0) (by omega) (by decide) dX6_paste_114 ?_
              refine lv_istore (lv' := [(8, .int (nI (σ.1 (0)))), (7, .int (nI 0)), (0, .ref d), (1, .int (nI x')), (2, .int (nI y')), (3, .int wd), (4, .int ht), (5, .int (nI p')), (6, .int (nI q'))]) hx hb dX6_paste_115 hl (by decide) rfl (fun ls hl => ?_)
              refine lv_aload_n hx hb dX6_paste_117 rfl (lv_at hl 2 rfl) ?_
              refine z_get (T := TX6) (v := .ref (d + 1)) hE hH hM108.1 rfl uw_X6 1 (by decide) fkX6_7 rfl dX6_paste_118 ?_
              refine n_iconst hx hb 0 dX6_paste_121 (by decide) ?_
              refine lv_dup2_11 hx hb dX6_paste_122 rfl rfl ?_
              refine z_iald hE hH hA112 (k := 0) (by omega) (by decide) dX6_paste_123 ?_
              refine n_iconst hx hb 1 dX6_paste_124 (by decide) ?_
              refine n_iadd hx hb dX6_paste_125 ?_
              refine z_iast hE hH hS hA112 (k := 0) (by omega) (by decide) (by omega) dX6_paste_126 (fun H locs M115 hH hS e113 o114 => ?_)
              have hM116 : Md G d (sg (nI 0) (nI (keepN σ.2.1)) (nI σ.2.2.2.2.2.1) at' w bm) (xs (vset σ.1 (0) ((σ.1 (0)) + 1)) A U107 L K (fun i => nI (σ.2.2.2.2.2.2 i)) SE SH BU) M115 := Md.setJ (j := 1) hM108 (by decide) (zArr.to e113 (fun q _ => by show (if q = _ then nI _ else nI _) = nI (fset _ _ _ q); unfold fset; by_cases hq : q = 0 <;> (first | (simp [hq]; done) | (rw [if_pos hq, if_pos hq]; rfl) | (rw [if_neg hq, if_neg hq]; rfl)))) (fun i hi => by unfold xs; split <;> first | rfl | exact absurd rfl hi) o114
              have hA118 := hM116.s (fun _ _ => rfl)
              have hF119 := fun q hq => (o114 q (by omega)).trans (hF110 q hq)
              refine n_bipush hx hb 14 dX6_paste_127 (by decide) ?_
              refine n_bipush hx hb 7 dX6_paste_129 (by decide) ?_
              refine lv_iload hx hb dX6_paste_131 (lv_at hl 0 rfl) ?_
              refine n_imul hx hb dX6_paste_133 ?_
              refine n_iadd hx hb dX6_paste_134 ?_
              refine lv_istore (lv' := [(9, .int (nI (14 + (7 * (σ.1 (0)))))), (8, .int (nI (σ.1 (0)))), (7, .int (nI 0)), (0, .ref d), (1, .int (nI x')), (2, .int (nI y')), (3, .int wd), (4, .int ht), (5, .int (nI p')), (6, .int (nI q'))]) hx hb dX6_paste_135 hl (by decide) rfl (fun ls hl => ?_)
              refine lv_aload_n hx hb dX6_paste_137 rfl (lv_at hl 3 rfl) ?_
              refine z_get (T := TX6) (v := .ref (d + 1)) hE hH hM116.1 rfl uw_X6 1 (by decide) fkX6_7 rfl dX6_paste_138 ?_
              refine lv_iload hx hb dX6_paste_141 (lv_at hl 0 rfl) ?_
              refine n_iconst hx hb 0 dX6_paste_143 (by decide) ?_
              refine n_iadd hx hb dX6_paste_144 ?_
              refine lv_iload_n hx hb dX6_paste_145 rfl (lv_at hl 4 rfl) ?_
              refine z_iast hE hH hS hA118 (k := (14 + (7 * (σ.1 (0)))) + 0) (by omega) (by decide) (by omega) dX6_paste_146 (fun H locs M122 hH hS e120 o121 => ?_)
              have hM123 : Md G d (sg (nI 0) (nI (keepN σ.2.1)) (nI σ.2.2.2.2.2.1) at' w bm) (xs (vset (vset σ.1 (0) ((σ.1 (0)) + 1)) ((14 + (7 * (σ.1 (0)))) + 0) x') A U107 L K (fun i => nI (σ.2.2.2.2.2.2 i)) SE SH BU) M122 := Md.setJ (j := 1) hM116 (by decide) (zArr.to e120 (fun q _ => by show (if q = _ then nI _ else nI _) = nI (fset _ _ _ q); unfold fset; by_cases hq : q = (14 + (7 * (σ.1 (0)))) + 0 <;> (first | (simp [hq]; done) | (rw [if_pos hq, if_pos hq]; rfl) | (rw [if_neg hq, if_neg hq]; rfl)))) (fun i hi => by unfold xs; split <;> first | rfl | exact absurd rfl hi) o121
              have hA125 := hM123.s (fun _ _ => rfl)
              have hF126 := fun q hq => (o121 q (by omega)).trans (hF119 q hq)
              refine lv_aload_n hx hb dX6_paste_147 rfl (lv_at hl 3 rfl) ?_
              refine z_get (T := TX6) (v := .ref (d + 1)) hE hH hM123.1 rfl uw_X6 1 (by decide) fkX6_7 rfl dX6_paste_148 ?_
              refine lv_iload hx hb dX6_paste_151 (lv_at hl 0 rfl) ?_
              refine n_iconst hx hb 1 dX6_paste_153 (by decide) ?_
              refine n_iadd hx hb dX6_paste_154 ?_
              refine lv_iload_n hx hb dX6_paste_155 rfl (lv_at hl 5 rfl) ?_
              refine z_iast hE hH hS hA125 (k := (14 + (7 * (σ.1 (0)))) + 1) (by omega) (by decide) (by omega) dX6_paste_156 (fun H locs M129 hH hS e127 o128 => ?_)
              have hM130 : Md G d (sg (nI 0) (nI (keepN σ.2.1)) (nI σ.2.2.2.2.2.1) at' w bm) (xs (vset (vset (vset σ.1 (0) ((σ.1 (0)) + 1)) ((14 + (7 * (σ.1 (0)))) + 0) x') ((14 + (7 * (σ.1 (0)))) + 1) y') A U107 L K (fun i => nI (σ.2.2.2.2.2.2 i)) SE SH BU) M129 := Md.setJ (j := 1) hM123 (by decide) (zArr.to e127 (fun q _ => by show (if q = _ then nI _ else nI _) = nI (fset _ _ _ q); unfold fset; by_cases hq : q = (14 + (7 * (σ.1 (0)))) + 1 <;> (first | (simp [hq]; done) | (rw [if_pos hq, if_pos hq]; rfl) | (rw [if_neg hq, if_neg hq]; rfl)))) (fun i hi => by unfold xs; split <;> first | rfl | exact absurd rfl hi) o128
              have hA132 := hM130.s (fun _ _ => rfl)
              have hF133 := fun q hq => (o128 q (by omega)).trans (hF126 q hq)
              refine lv_aload_n hx hb dX6_paste_157 rfl (lv_at hl 3 rfl) ?_
              refine z_get (T := TX6) (v := .ref (d + 1)) hE hH hM130.1 rfl uw_X6 1 (by decide) fkX6_7 rfl dX6_paste_158 ?_
              refine lv_iload hx hb dX6_paste_161 (lv_at hl 0 rfl) ?_
              refine n_iconst hx hb 2 dX6_paste_163 (by decide) ?_
              refine n_iadd hx hb dX6_paste_164 ?_
              refine lv_iload_n hx hb dX6_paste_165 rfl (lv_at hl 6 rfl) ?_
              refine z_iast hE hH hS hA132 (k := (14 + (7 * (σ.1 (0)))) + 2) (by omega) (by decide) (by omega) dX6_paste_166 (fun H locs M136 hH hS e134 o135 => ?_)
              have hM137 : Md G d (sg (nI 0) (nI (keepN σ.2.1)) (nI σ.2.2.2.2.2.1) at' w bm) (xs (vset (vset (vset (vset σ.1 (0) ((σ.1 (0)) + 1)) ((14 + (7 * (σ.1 (0)))) + 0) x') ((14 + (7 * (σ.1 (0)))) + 1) y') ((14 + (7 * (σ.1 (0)))) + 2) wd) A U107 L K (fun i => nI (σ.2.2.2.2.2.2 i)) SE SH BU) M136 := Md.setJ (j := 1) hM130 (by decide) (zArr.to e134 (fun q _ => by show (if q = _ then nI _ else nI _) = nI (fset _ _ _ q); unfold fset; by_cases hq : q = (14 + (7 * (σ.1 (0)))) + 2 <;> (first | (simp [hq]; done) | (rw [if_pos hq, if_pos hq]; rfl) | (rw [if_neg hq, if_neg hq]; rfl)))) (fun i hi => by unfold xs; split <;> first | rfl | exact absurd rfl hi) o135
              have hA139 := hM137.s (fun _ _ => rfl)
              have hF140 := fun q hq => (o135 q (by omega)).trans (hF133 q hq)
              refine lv_aload_n hx hb dX6_paste_167 rfl (lv_at hl 3 rfl) ?_
              refine z_get (T := TX6) (v := .ref (d + 1)) hE hH hM137.1 rfl uw_X6 1 (by decide) fkX6_7 rfl dX6_paste_168 ?_
              refine lv_iload hx hb dX6_paste_171 (lv_at hl 0 rfl) ?_
              refine n_iconst hx hb 3 dX6_paste_173 (by decide) ?_
              refine n_iadd hx hb dX6_paste_174 ?_
              refine lv_iload hx hb dX6_paste_175 (lv_at hl 7 rfl) ?_
              refine z_iast hE hH hS hA139 (k := (14 + (7 * (σ.1 (0)))) + 3) (by omega) (by decide) (by omega) dX6_paste_177 (fun H locs M143 hH hS e141 o142 => ?_)
              have hM144 : Md G d (sg (nI 0) (nI (keepN σ.2.1)) (nI σ.2.2.2.2.2.1) at' w bm) (xs (vset (vset (vset (vset (vset σ.1 (0) ((σ.1 (0)) + 1)) ((14 + (7 * (σ.1 (0)))) + 0) x') ((14 + (7 * (σ.1 (0)))) + 1) y') ((14 + (7 * (σ.1 (0)))) + 2) wd) ((14 + (7 * (σ.1 (0)))) + 3) ht) A U107 L K (fun i => nI (σ.2.2.2.2.2.2 i)) SE SH BU) M143 := Md.setJ (j := 1) hM137 (by decide) (zArr.to e141 (fun q _ => by show (if q = _ then nI _ else nI _) = nI (fset _ _ _ q); unfold fset; by_cases hq : q = (14 + (7 * (σ.1 (0)))) + 3 <;> (first | (simp [hq]; done) | (rw [if_pos hq, if_pos hq]; rfl) | (rw [if_neg hq, if_neg hq]; rfl)))) (fun i hi => by unfold xs; split <;> first | rfl | exact absurd rfl hi) o142
              have hA146 := hM144.s (fun _ _ => rfl)
              have hF147 := fun q hq => (o142 q (by omega)).trans (hF140 q hq)
              refine lv_aload_n hx hb dX6_paste_178 rfl (lv_at hl 3 rfl) ?_
              refine z_get (T := TX6) (v := .ref (d + 1)) hE hH hM144.1 rfl uw_X6 1 (by decide) fkX6_7 rfl dX6_paste_179 ?_
              refine lv_iload hx hb dX6_paste_182 (lv_at hl 0 rfl) ?_
              refine n_iconst hx hb 4 dX6_paste_184 (by decide) ?_
              refine n_iadd hx hb dX6_paste_185 ?_
              refine lv_iload hx hb dX6_paste_186 (lv_at hl 8 rfl) ?_
              refine z_iast hE hH hS hA146 (k := (14 + (7 * (σ.1 (0)))) + 4) (by omega) (by decide) (by omega) dX6_paste_188 (fun H locs M150 hH hS e148 o149 => ?_)
              have hM151 : Md G d (sg (nI 0) (nI (keepN σ.2.1)) (nI σ.2.2.2.2.2.1) at' w bm) (xs (vset (vset (vset (vset (vset (vset σ.1 (0) ((σ.1 (0)) + 1)) ((14 + (7 * (σ.1 (0)))) + 0) x') ((14 + (7 * (σ.1 (0)))) + 1) y') ((14 + (7 * (σ.1 (0)))) + 2) wd) ((14 + (7 * (σ.1 (0)))) + 3) ht) ((14 + (7 * (σ.1 (0)))) + 4) p') A U107 L K (fun i => nI (σ.2.2.2.2.2.2 i)) SE SH BU) M150 := Md.setJ (j := 1) hM144 (by decide) (zArr.to e148 (fun q _ => by show (if q = _ then nI _ else nI _) = nI (fset _ _ _ q); unfold fset; by_cases hq : q = (14 + (7 * (σ.1 (0)))) + 4 <;> (first | (simp [hq]; done) | (rw [if_pos hq, if_pos hq]; rfl) | (rw [if_neg hq, if_neg hq]; rfl)))) (fun i hi => by unfold xs; split <;> first | rfl | exact absurd rfl hi) o149
              have hA153 := hM151.s (fun _ _ => rfl)
              have hF154 := fun q hq => (o149 q (by omega)).trans (hF147 q hq)
              refine lv_aload_n hx hb dX6_paste_189 rfl (lv_at hl 3 rfl) ?_
              refine z_get (T := TX6) (v := .ref (d + 1)) hE hH hM151.1 rfl uw_X6 1 (by decide) fkX6_7 rfl dX6_paste_190 ?_
              refine lv_iload hx hb dX6_paste_193 (lv_at hl 0 rfl) ?_
              refine n_iconst hx hb 5 dX6_paste_195 (by decide) ?_
              refine n_iadd hx hb dX6_paste_196 ?_
              refine n_iconst hx hb 0 dX6_paste_197 (by decide) ?_
              refine z_iast hE hH hS hA153 (k := (14 + (7 * (σ.1 (0)))) + 5) (by omega) (by decide) (by omega) dX6_paste_198 (fun H locs M157 hH hS e155 o156 => ?_)
              have hM158 : Md G d (sg (nI 0) (nI (keepN σ.2.1)) (nI σ.2.2.2.2.2.1) at' w bm) (xs (vset (vset (vset (vset (vset (vset (vset σ.1 (0) ((σ.1 (0)) + 1)) ((14 + (7 * (σ.1 (0)))) + 0) x') ((14 + (7 * (σ.1 (0)))) + 1) y') ((14 + (7 * (σ.1 (0)))) + 2) wd) ((14 + (7 * (σ.1 (0)))) + 3) ht) ((14 + (7 * (σ.1 (0)))) + 4) p') ((14 + (7 * (σ.1 (0)))) + 5) 0) A U107 L K (fun i => nI (σ.2.2.2.2.2.2 i)) SE SH BU) M157 := Md.setJ (j := 1) hM151 (by decide) (zArr.to e155 (fun q _ => by show (if q = _ then nI _ else nI _) = nI (fset _ _ _ q); unfold fset; by_cases hq : q = (14 + (7 * (σ.1 (0)))) + 5 <;> (first | (simp [hq]; done) | (rw [if_pos hq, if_pos hq]; rfl) | (rw [if_neg hq, if_neg hq]; rfl)))) (fun i hi => by unfold xs; split <;> first | rfl | exact absurd rfl hi) o156
              have hA160 := hM158.s (fun _ _ => rfl)
              have hF161 := fun q hq => (o156 q (by omega)).trans (hF154 q hq)
              refine lv_aload_n hx hb dX6_paste_199 rfl (lv_at hl 3 rfl) ?_
              refine z_get (T := TX6) (v := .ref (d + 1)) hE hH hM158.1 rfl uw_X6 1 (by decide) fkX6_7 rfl dX6_paste_200 ?_
              refine lv_iload hx hb dX6_paste_203 (lv_at hl 0 rfl) ?_
              refine n_bipush hx hb 6 dX6_paste_205 (by decide) ?_
              refine n_iadd hx hb dX6_paste_207 ?_
              refine n_iconst hx hb 0 dX6_paste_208 (by decide) ?_
              refine z_iast hE hH hS hA160 (k := (14 + (7 * (σ.1 (0)))) + 6) (by omega) (by decide) (by omega) dX6_paste_209 (fun H locs M164 hH hS e162 o163 => ?_)
              have hM165 : Md G d (sg (nI 0) (nI (keepN σ.2.1)) (nI σ.2.2.2.2.2.1) at' w bm) (xs (vset (vset (vset (vset (vset (vset (vset (vset σ.1 (0) ((σ.1 (0)) + 1)) ((14 + (7 * (σ.1 (0)))) + 0) x') ((14 + (7 * (σ.1 (0)))) + 1) y') ((14 + (7 * (σ.1 (0)))) + 2) wd) ((14 + (7 * (σ.1 (0)))) + 3) ht) ((14 + (7 * (σ.1 (0)))) + 4) p') ((14 + (7 * (σ.1 (0)))) + 5) 0) ((14 + (7 * (σ.1 (0)))) + 6) 0) A U107 L K (fun i => nI (σ.2.2.2.2.2.2 i)) SE SH BU) M164 := Md.setJ (j := 1) hM158 (by decide) (zArr.to e162 (fun q _ => by show (if q = _ then nI _ else nI _) = nI (fset _ _ _ q); unfold fset; by_cases hq : q = (14 + (7 * (σ.1 (0)))) + 6 <;> (first | (simp [hq]; done) | (rw [if_pos hq, if_pos hq]; rfl) | (rw [if_neg hq, if_neg hq]; rfl)))) (fun i hi => by unfold xs; split <;> first | rfl | exact absurd rfl hi) o163
              have hA167 := hM165.s (fun _ _ => rfl)
              have hF168 := fun q hq => (o163 q (by omega)).trans (hF161 q hq)
              refine n_iconst hx hb 0 dX6_paste_210 (by decide) ?_
              refine lv_istore (lv' := [(10, .int (nI 0)), (9, .int (nI (14 + (7 * (σ.1 (0)))))), (8, .int (nI (σ.1 (0)))), (7, .int (nI 0)), (0, .ref d), (1, .int (nI x')), (2, .int (nI y')), (3, .int wd), (4, .int ht), (5, .int (nI p')), (6, .int (nI q'))]) hx hb dX6_paste_211 hl (by decide) rfl (fun ls hl => ?_)
              have L213 : ∀ (dd : Nat) (k : Nat) (u : Wv) (M1 : Mm), 60 < k + dd → (k ≤ 60) → (Md G d (sg (nI 0) (nI (keepN σ.2.1)) (nI σ.2.2.2.2.2.1) at' w bm) (xs u A U18 L K (fun i => nI (σ.2.2.2.2.2.2 i)) SE SH BU) M1) → (∀ q, (q < d ∨ d + 10 ≤ q) → M1 q = M q) → (∀ i, u i = pstV σ.1 x' y' wd' ht' p' q' k i) → ∀ (H : Heap) (locs : List Loc), zH G M1 H → zS 0 B0 s.heap H locs → ∀ (ls : Array Slot), lv_has ls 11 [(0, .ref d), (6, .int (nI q')), (8, .int (nI (σ.1 0))), (10, .int (nI k))] → zW pg l ev 5 0 0 s m [.ref d, .int (nI x'), .int (nI y'), .int wd, .int ht, .int (nI p'), .int (nI q')] below meth cd H locs 0 0 G B0 (some (.int ((fPaste σ (nI x') (nI y') wd ht (nI p') (nI q')).1))) (fun M1 => Mo G d (fPaste σ (nI x') (nI y') wd ht (nI p') (nI q')).2 M1 ∧ ∀ (nI q'), ((nI q') < d ∨ d + 10 ≤ (nI q')) → M1 (nI q') = M (nI q')) (F0 m 213 ls []) := by
                intro dd
                induction dd with
                | zero =>
                  intro k u M1 hdd hk hM1 hF1 hu
                  exact absurd hdd (by omega)
                | succ dd ih =>
                  intro k u M1 hdd hk hM1 hF1 hu H locs hH hS ls hl
                  have hA1 : zArr G 0 M1 (d + 1) 818 (fun i => nI (u i)) := hM1.s (fun _ _ => rfl)
                  obtain ⟨hu0, r0, r1, r2, r3⟩ := pst_at hu
                  have hqr : 1 ≤ pv u (σ.1 0) 2 ∧ pv u (σ.1 0) 0 + pv u (σ.1 0) 2 ≤ 10 ∧ 1 ≤ pv u (σ.1 0) 3 ∧ pv u (σ.1 0) 1 + pv u (σ.1 0) 3 ≤ 6 := by rw [r0, r1, r2, r3]; omega
                  refine lv_iload hx hb dX6_paste_213 (lv_at hl 3 rfl) ?_
                  refine n_bipush hx hb 60 dX6_paste_215 (by decide) ?_
                  refine n_cmp_ge (tgt := 251) hx hb (by omega) (by decide) dX6_paste_217 (by decide) (fun h169 => ?_) (fun h169 => ?_)
                  · refine lv_iload hx hb dX6_paste_251 (lv_at hl 2 rfl) ?_
                    have hf : (fPaste σ (nI x') (nI y') wd ht (nI p') (nI q')).1 = ((nI (σ.1 0)), (pasteV σ.1 x' y' wd' ht' p' q', keepN σ.2.1, keepH σ.2.2.1 σ.2.1 σ.1, σ.2.2.2.1, σ.2.2.2.2.1, σ.2.2.2.2.2.1, σ.2.2.2.2.2.2)) := by
                      simp [fPaste, chg, sV, sN, sH, sS, sD, sL, sP, h8, tx94, tx95, h97, h98, h100, tx101, h103, tx104, h105, h169]
                      try omega
                    rw [hf]
                    have hkk : k = 60 := by omega
                    subst hkk
                    exact z_iret hE hH hS rfl ⟨⟨_, _, _, _, _, _, _, _, _, _, _, hM1.to (j := 1) (fun i hi => congrArg nI ((hu i).trans (pst_e i))) (fun i hi => by unfold xs; split <;> first | rfl | exact absurd rfl hi), hU111, hL, hK⟩, hF1⟩ dX6_paste_253
                  · refine lv_aload_n hx hb dX6_paste_220 rfl (lv_at hl 0 rfl) ?_
                    refine lv_iload hx hb dX6_paste_221 (lv_at hl 2 rfl) ?_
                    refine lv_iload hx hb dX6_paste_223 (lv_at hl 3 rfl) ?_
                    refine lv_aload_n hx hb dX6_paste_225 rfl (lv_at hl 0 rfl) ?_
                    refine lv_iload hx hb dX6_paste_226 (lv_at hl 2 rfl) ?_
                    refine lv_iload hx hb dX6_paste_228 (lv_at hl 3 rfl) ?_
                    refine z_callV (rest := [.int (nI k), .int (nI (σ.1 0)), .ref d]) (st2 := [.int (zb (liesN (pv u (σ.1 0)) (k % 10) (k / 10))), .int (nI k), .int (nI (σ.1 0)), .ref d]) hE hH hS hB0 hl ca_X6_lies mkX6_53 (c_X6_lies0 l G B0 M1 d (sg (nI 0) (nI (keepN σ.2.1)) (nI σ.2.2.2.2.2.1) at' w bm) (xs u A U107 L K (fun i => nI (σ.2.2.2.2.2.2 i)) SE SH BU) hM1 u (fun _ _ => rfl) (σ.1 0) k (by omega) hqr (by omega)) hM1.1 rfl rfl rfl rfl rfl ⟨Nat.le_of_ble_eq_true rfl, Nat.le_of_ble_eq_true rfl⟩ (Nat.le_of_ble_eq_true rfl) ⟨Nat.le_refl _, Nat.le_refl _⟩ dX6_paste_230 (fun H locs M1 hH hp hS => ?_)
                    subst hp
                    refine b_if_eq (tgt := 241) hx hb dX6_paste_233 (by decide) (fun h172 => ?_) (fun h172 => ?_)
                    · refine n_iconst hx hb 0 dX6_paste_241 (by decide) ?_
                      refine z_callV (rest := []) (st2 := []) hE hH hS hB0 hl ca_X6_lays mkX6_63 (c_X6_lays0 l G B0 M1 d (sg (nI 0) (nI (keepN σ.2.1)) (nI σ.2.2.2.2.2.1) at' w bm) u A U107 L K (fun i => nI (σ.2.2.2.2.2.2 i)) SE SH BU hM1 (by omega) (σ.1 0) k 0 (by omega) (by omega)) hM1.1 rfl rfl rfl rfl rfl ⟨Nat.le_of_ble_eq_true rfl, Nat.le_of_ble_eq_true rfl⟩ (Nat.le_of_ble_eq_true rfl) ⟨Nat.le_refl _, Nat.le_refl _⟩ dX6_paste_242 (fun H locs M173 hH hp hS => ?_)
                      obtain ⟨hM174, hG175⟩ := hp
                      have hA177 := hM174.s (fun _ _ => rfl)
                      have hF176 := fun q hq => (hG175 q hq).trans (hF1 q hq)
                      refine lv_iinc (v := (nI (k + 1))) (lv' := [(10, .int (nI (k + 1))), (0, .ref d), (6, .int (nI q')), (8, .int (nI (σ.1 0)))]) hx hb dX6_paste_245 hl (k := 3) rfl (nI_inc _) (by decide) rfl (fun ls hl => ?_)
                      refine lv_goto (tgt := 213) hx hb dX6_paste_248 (by decide) ?_
                      exact ih  (k + 1) (vset u (98 + 60 * (σ.1 0) + k) 0) M173 (by omega) (by omega) hM174 hF176 (pst_s hu (by rw [if_neg (by rw [h172]; decide)])) _ _ hH hS _ (lv_sub hl [1, 2, 3, 0] rfl)
                    · refine lv_iload hx hb dX6_paste_236 (lv_at hl 1 rfl) ?_
                      refine lv_goto (tgt := 242) hx hb dX6_paste_238 (by decide) ?_
                      refine z_callV (rest := []) (st2 := []) hE hH hS hB0 hl ca_X6_lays mkX6_63 (c_X6_lays0 l G B0 M1 d (sg (nI 0) (nI (keepN σ.2.1)) (nI σ.2.2.2.2.2.1) at' w bm) u A U107 L K (fun i => nI (σ.2.2.2.2.2.2 i)) SE SH BU hM1 (by omega) (σ.1 0) k q' (by omega) (by omega)) hM1.1 rfl rfl rfl rfl rfl ⟨Nat.le_of_ble_eq_true rfl, Nat.le_of_ble_eq_true rfl⟩ (Nat.le_of_ble_eq_true rfl) ⟨Nat.le_refl _, Nat.le_refl _⟩ dX6_paste_242 (fun H locs M178 hH hp hS => ?_)
                      obtain ⟨hM179, hG180⟩ := hp
                      have hA182 := hM179.s (fun _ _ => rfl)
                      have hF181 := fun q hq => (hG180 q hq).trans (hF1 q hq)
                      refine lv_iinc (v := (nI (k + 1))) (lv' := [(10, .int (nI (k + 1))), (0, .ref d), (6, .int (nI q')), (8, .int (nI (σ.1 0)))]) hx hb dX6_paste_245 hl (k := 3) rfl (nI_inc _) (by decide) rfl (fun ls hl => ?_)
                      refine lv_goto (tgt := 213) hx hb dX6_paste_248 (by decide) ?_
                      exact ih  (k + 1) (vset u (98 + 60 * (σ.1 0) + k) q') M178 (by omega) (by omega) hM179 hF181 (pst_s hu (by rw [if_pos h172])) _ _ hH hS _ (lv_sub hl [1, 2, 3, 0] rfl)
              exact L213 61 0 (vset (vset (vset (vset (vset (vset (vset (vset σ.1 (0) ((σ.1 (0)) + 1)) ((14 + (7 * (σ.1 (0)))) + 0) x') ((14 + (7 * (σ.1 (0)))) + 1) y') ((14 + (7 * (σ.1 (0)))) + 2) wd) ((14 + (7 * (σ.1 (0)))) + 3) ht) ((14 + (7 * (σ.1 (0)))) + 4) p') ((14 + (7 * (σ.1 (0)))) + 5) 0) ((14 + (7 * (σ.1 (0)))) + 6) 0) M164 (by omega) (by omega) hM165 hF168 (fun i => pst_0 i) _ _ hH hS _ (lv_sub hl [4, 10, 2, 0] rfl)
            · refine lv_bipush (v := (-4)) hx hb dX6_paste_102 (by decide) ?_
              have hf : (fPaste σ (nI x') (nI y') wd ht (nI p') (nI q')).1 = ((-4), (σ.1, σ.2.1, σ.2.2.1, σ.2.2.2.1, σ.2.2.2.2.1, σ.2.2.2.2.2.1, σ.2.2.2.2.2.2)) := by
                simp [fPaste, chg, sV, sN, sH, sS, sD, sL, sP, h8, tx94, tx95, h97, h98, h100, tx101, h103, tx104, h105]
                try omega
              rw [hf]
              exact z_iret hE hH hS rfl ⟨⟨_, _, _, _, _, _, _, _, _, _, _, hM4, hU, hL, hK⟩, hF6⟩ dX6_paste_104
          · refine lv_bipush (v := (-2)) hx hb dX6_paste_88 (by decide) ?_
            have hf : (fPaste σ (nI x') (nI y') wd ht (nI p') q).1 = ((-2), (σ.1, σ.2.1, σ.2.2.1, σ.2.2.2.1, σ.2.2.2.2.1, σ.2.2.2.2.2.1, σ.2.2.2.2.2.2)) := by
              simp [fPaste, chg, sV, sN, sH, sS, sD, sL, sP, h8, tx94, tx95, h97, h98, h100, tx101, h103]
              try omega
            rw [hf]
            exact z_iret hE hH hS rfl ⟨⟨_, _, _, _, _, _, _, _, _, _, _, hM4, hU, hL, hK⟩, hF6⟩ dX6_paste_90
      · refine lv_iconst (v := (-1)) hx hb dX6_paste_63 (by decide) ?_
        have hf : (fPaste σ (nI x') (nI y') wd ht p q).1 = ((-1), (σ.1, σ.2.1, σ.2.2.1, σ.2.2.2.1, σ.2.2.2.2.1, σ.2.2.2.2.2.1, σ.2.2.2.2.2.2)) := by
          refine fPaste_no (fun q1 q2 q3 => ?_)
          first
            | exact absurd (q1.symm.trans h98) (by decide)
            | exact absurd ((wi_mono (by decide) (by decide) (by omega) q2).symm.trans h98) (by decide)
            | exact absurd ((wi_mono (by decide) (by decide) (by omega) q3).symm.trans h98) (by decide)
            | exact wi_not (by omega) (by decide) (by omega) q2
            | exact wi_not (by omega) (by decide) (by omega) q3
        rw [hf]
        exact z_iret hE hH hS rfl ⟨⟨_, _, _, _, _, _, _, _, _, _, _, hM4, hU, hL, hK⟩, hF6⟩ dX6_paste_64
    · obtain ⟨wd', rfl, wd1, wd2⟩ := wi_nat (by decide) (by decide) h97
      have tx183 : tn (nI wd') = wd' := tn_nI (by omega)
      refine lv_iload hx hb dX6_paste_23 (lv_at hl 4 rfl) ?_
      refine n_iconst hx hb 1 dX6_paste_25 (by decide) ?_
      refine n_bipush hx hb 6 dX6_paste_26 (by decide) ?_
      refine z_callS (rest := []) (st2 := [.int (zb (wi ht (nI 1) (nI 6)))]) hE hH hS hB0 hl ca_X6_in mkX6_42 (c_X6_in l G B0 M3 ht (nI 1) (nI 6)) rfl rfl rfl ⟨Nat.le_of_ble_eq_true rfl, Nat.le_of_ble_eq_true rfl⟩ (Nat.le_of_ble_eq_true rfl) ⟨Nat.le_refl _, Nat.le_refl _⟩ dX6_paste_28 (fun H locs M1 hH hp hS => ?_)
      subst hp
      refine b_if_eq (tgt := 55) hx hb dX6_paste_31 (by decide) (fun h185 => ?_) (fun h185 => ?_)
      · refine n_iconst hx hb 0 dX6_paste_55 (by decide) ?_
        refine lv_istore (lv' := [(7, .int (nI 0)), (0, .ref d), (1, .int (nI x')), (2, .int (nI y')), (3, .int (nI wd')), (4, .int ht), (5, .int p), (6, .int q)]) hx hb dX6_paste_56 hl (by decide) rfl (fun ls hl => ?_)
        refine lv_iload hx hb dX6_paste_58 (lv_at hl 0 rfl) ?_
        refine n_if_ne (tgt := 65) hx hb (by decide) dX6_paste_60 (by decide) (fun h186 => ?_) (fun h186 => ?_)
        · refine lv_iload hx hb dX6_paste_65 (lv_at hl 6 rfl) ?_
          refine n_iconst hx hb 1 dX6_paste_67 (by decide) ?_
          refine n_sipush hx hb 999 dX6_paste_68 (by decide) ?_
          refine z_callS (rest := []) (st2 := [.int (zb (wi p (nI 1) (nI 999)))]) hE hH hS hB0 hl ca_X6_in mkX6_42 (c_X6_in l G B0 M3 p (nI 1) (nI 999)) rfl rfl rfl ⟨Nat.le_of_ble_eq_true rfl, Nat.le_of_ble_eq_true rfl⟩ (Nat.le_of_ble_eq_true rfl) ⟨Nat.le_refl _, Nat.le_refl _⟩ dX6_paste_71 (fun H locs M1 hH hp hS => ?_)
          subst hp
          refine b_if_eq (tgt := 88) hx hb dX6_paste_74 (by decide) (fun h188 => ?_) (fun h188 => ?_)
          · refine lv_bipush (v := (-2)) hx hb dX6_paste_88 (by decide) ?_
            have hf : (fPaste σ (nI x') (nI y') (nI wd') ht p q).1 = ((-2), (σ.1, σ.2.1, σ.2.2.1, σ.2.2.2.1, σ.2.2.2.2.1, σ.2.2.2.2.2.1, σ.2.2.2.2.2.2)) := by
              simp [fPaste, chg, sV, sN, sH, sS, sD, sL, sP, h8, tx94, tx95, h97, tx183, h185, h186, h188]
              try omega
            rw [hf]
            exact z_iret hE hH hS rfl ⟨⟨_, _, _, _, _, _, _, _, _, _, _, hM4, hU, hL, hK⟩, hF6⟩ dX6_paste_90
          · obtain ⟨p', rfl, p1, p2⟩ := wi_nat (by decide) (by decide) h188
            have tx189 : tn (nI p') = p' := tn_nI (by omega)
            refine lv_iload hx hb dX6_paste_77 (lv_at hl 7 rfl) ?_
            refine n_iconst hx hb 1 dX6_paste_79 (by decide) ?_
            refine n_bipush hx hb 99 dX6_paste_80 (by decide) ?_
            refine z_callS (rest := []) (st2 := [.int (zb (wi q (nI 1) (nI 99)))]) hE hH hS hB0 hl ca_X6_in mkX6_42 (c_X6_in l G B0 M3 q (nI 1) (nI 99)) rfl rfl rfl ⟨Nat.le_of_ble_eq_true rfl, Nat.le_of_ble_eq_true rfl⟩ (Nat.le_of_ble_eq_true rfl) ⟨Nat.le_refl _, Nat.le_refl _⟩ dX6_paste_82 (fun H locs M1 hH hp hS => ?_)
            subst hp
            refine b_if_ne (tgt := 91) hx hb dX6_paste_85 (by decide) (fun h191 => ?_) (fun h191 => ?_)
            · obtain ⟨q', rfl, q1, q2⟩ := wi_nat (by decide) (by decide) h191
              have tx192 : tn (nI q') = q' := tn_nI (by omega)
              refine lv_aload_n hx hb dX6_paste_91 rfl (lv_at hl 1 rfl) ?_
              refine z_get (T := TX6) (v := .ref (d + 1)) hE hH hM4.1 rfl uw_X6 1 (by decide) fkX6_7 rfl dX6_paste_92 ?_
              refine n_iconst hx hb 0 dX6_paste_95 (by decide) ?_
              refine z_iald hE hH hA5 (k := 0) (by omega) (by decide) dX6_paste_96 ?_
              refine n_bipush hx hb 12 dX6_paste_97 (by decide) ?_
              refine n_cmp_ne (tgt := 105) hx hb (by omega) (by decide) dX6_paste_99 (by decide) (fun h193 => ?_) (fun h193 => ?_)
              · refine lv_aload_n hx hb dX6_paste_105 rfl (lv_at hl 1 rfl) ?_
                refine z_callV (rest := []) (st2 := []) hE hH hS hB0 hl ca_X6_records mkX6_81 (c_X6_records l G B0 M3 d (nI 0) (nI σ.2.2.2.2.2.1) at' w bm σ.2.1 σ.2.2.1 σ.1 A U L K (fun i => nI (σ.2.2.2.2.2.2 i)) SE SH BU hM4 hv (by omega) hn6 hU) hM4.1 rfl rfl rfl rfl rfl ⟨Nat.le_of_ble_eq_true rfl, Nat.le_of_ble_eq_true rfl⟩ (Nat.le_of_ble_eq_true rfl) ⟨Nat.le_refl _, Nat.le_refl _⟩ dX6_paste_106 (fun H locs M194 hH hp hS => ?_)
                obtain ⟨U195, hM196, hU199, hG197⟩ := hp
                have hA200 := hM196.s (fun _ _ => rfl)
                have hF198 := fun q hq => (hG197 q hq).trans (hF6 q hq)
                refine lv_aload_n hx hb dX6_paste_109 rfl (lv_at hl 1 rfl) ?_
                refine z_get (T := TX6) (v := .ref (d + 1)) hE hH hM196.1 rfl uw_X6 1 (by decide) fkX6_7 rfl dX6_paste_110 ?_
                refine n_iconst hx hb 0 dX6_paste_113 (by decide) ?_
                refine z_iald hE hH hA200 (k := 0) (by omega) (by decide) dX6_paste_114 ?_
                refine lv_istore (lv' := [(8, .int (nI (σ.1 (0)))), (7, .int (nI 0)), (0, .ref d), (1, .int (nI x')), (2, .int (nI y')), (3, .int (nI wd')), (4, .int ht), (5, .int (nI p')), (6, .int (nI q'))]) hx hb dX6_paste_115 hl (by decide) rfl (fun ls hl => ?_)
                refine lv_aload_n hx hb dX6_paste_117 rfl (lv_at hl 2 rfl) ?_
                refine z_get (T := TX6) (v := .ref (d + 1)) hE hH hM196.1 rfl uw_X6 1 (by decide) fkX6_7 rfl dX6_paste_118 ?_
                refine n_iconst hx hb 0 dX6_paste_121 (by decide) ?_
                refine lv_dup2_11 hx hb dX6_paste_122 rfl rfl ?_
                refine z_iald hE hH hA200 (k := 0) (by omega) (by decide) dX6_paste_123 ?_
                refine n_iconst hx hb 1 dX6_paste_124 (by decide) ?_
                refine n_iadd hx hb dX6_paste_125 ?_
                refine z_iast hE hH hS hA200 (k := 0) (by omega) (by decide) (by omega) dX6_paste_126 (fun H locs M203 hH hS e201 o202 => ?_)
                have hM204 : Md G d (sg (nI 0) (nI (keepN σ.2.1)) (nI σ.2.2.2.2.2.1) at' w bm) (xs (vset σ.1 (0) ((σ.1 (0)) + 1)) A U195 L K (fun i => nI (σ.2.2.2.2.2.2 i)) SE SH BU) M203 := Md.setJ (j := 1) hM196 (by decide) (zArr.to e201 (fun q _ => by show (if q = _ then nI _ else nI _) = nI (fset _ _ _ q); unfold fset; by_cases hq : q = 0 <;> (first | (simp [hq]; done) | (rw [if_pos hq, if_pos hq]; rfl) | (rw [if_neg hq, if_neg hq]; rfl)))) (fun i hi => by unfold xs; split <;> first | rfl | exact absurd rfl hi) o202
                have hA206 := hM204.s (fun _ _ => rfl)
                have hF207 := fun q hq => (o202 q (by omega)).trans (hF198 q hq)
                refine n_bipush hx hb 14 dX6_paste_127 (by decide) ?_
                refine n_bipush hx hb 7 dX6_paste_129 (by decide) ?_
                refine lv_iload hx hb dX6_paste_131 (lv_at hl 0 rfl) ?_
                refine n_imul hx hb dX6_paste_133 ?_
                refine n_iadd hx hb dX6_paste_134 ?_
                refine lv_istore (lv' := [(9, .int (nI (14 + (7 * (σ.1 (0)))))), (8, .int (nI (σ.1 (0)))), (7, .int (nI 0)), (0, .ref d), (1, .int (nI x')), (2, .int (nI y')), (3, .int (nI wd')), (4, .int ht), (5, .int (nI p')), (6, .int (nI q'))]) hx hb dX6_paste_135 hl (by decide) rfl (fun ls hl => ?_)
                refine lv_aload_n hx hb dX6_paste_137 rfl (lv_at hl 3 rfl) ?_
                refine z_get (T := TX6) (v := .ref (d + 1)) hE hH hM204.1 rfl uw_X6 1 (by decide) fkX6_7 rfl dX6_paste_138 ?_
                refine lv_iload hx hb dX6_paste_141 (lv_at hl 0 rfl) ?_
                refine n_iconst hx hb 0 dX6_paste_143 (by decide) ?_
                refine n_iadd hx hb dX6_paste_144 ?_
                refine lv_iload_n hx hb dX6_paste_145 rfl (lv_at hl 4 rfl) ?_
                refine z_iast hE hH hS hA206 (k := (14 + (7 * (σ.1 (0)))) + 0) (by omega) (by decide) (by omega) dX6_paste_146 (fun H locs M210 hH hS e208 o209 => ?_)
                have hM211 : Md G d (sg (nI 0) (nI (keepN σ.2.1)) (nI σ.2.2.2.2.2.1) at' w bm) (xs (vset (vset σ.1 (0) ((σ.1 (0)) + 1)) ((14 + (7 * (σ.1 (0)))) + 0) x') A U195 L K (fun i => nI (σ.2.2.2.2.2.2 i)) SE SH BU) M210 := Md.setJ (j := 1) hM204 (by decide) (zArr.to e208 (fun q _ => by show (if q = _ then nI _ else nI _) = nI (fset _ _ _ q); unfold fset; by_cases hq : q = (14 + (7 * (σ.1 (0)))) + 0 <;> (first | (simp [hq]; done) | (rw [if_pos hq, if_pos hq]; rfl) | (rw [if_neg hq, if_neg hq]; rfl)))) (fun i hi => by unfold xs; split <;> first | rfl | exact absurd rfl hi) o209
                have hA213 := hM211.s (fun _ _ => rfl)
                have hF214 := fun q hq => (o209 q (by omega)).trans (hF207 q hq)
                refine lv_aload_n hx hb dX6_paste_147 rfl (lv_at hl 3 rfl) ?_
                refine z_get (T := TX6) (v := .ref (d + 1)) hE hH hM211.1 rfl uw_X6 1 (by decide) fkX6_7 rfl dX6_paste_148 ?_
                refine lv_iload hx hb dX6_paste_151 (lv_at hl 0 rfl) ?_
                refine n_iconst hx hb 1 dX6_paste_153 (by decide) ?_
                refine n_iadd hx hb dX6_paste_154 ?_
                refine lv_iload_n hx hb dX6_paste_155 rfl (lv_at hl 5 rfl) ?_
                refine z_iast hE hH hS hA213 (k := (14 + (7 * (σ.1 (0)))) + 1) (by omega) (by decide) (by omega) dX6_paste_156 (fun H locs M217 hH hS e215 o216 => ?_)
                have hM218 : Md G d (sg (nI 0) (nI (keepN σ.2.1)) (nI σ.2.2.2.2.2.1) at' w bm) (xs (vset (vset (vset σ.1 (0) ((σ.1 (0)) + 1)) ((14 + (7 * (σ.1 (0)))) + 0) x') ((14 + (7 * (σ.1 (0)))) + 1) y') A U195 L K (fun i => nI (σ.2.2.2.2.2.2 i)) SE SH BU) M217 := Md.setJ (j := 1) hM211 (by decide) (zArr.to e215 (fun q _ => by show (if q = _ then nI _ else nI _) = nI (fset _ _ _ q); unfold fset; by_cases hq : q = (14 + (7 * (σ.1 (0)))) + 1 <;> (first | (simp [hq]; done) | (rw [if_pos hq, if_pos hq]; rfl) | (rw [if_neg hq, if_neg hq]; rfl)))) (fun i hi => by unfold xs; split <;> first | rfl | exact absurd rfl hi) o216
                have hA220 := hM218.s (fun _ _ => rfl)
                have hF221 := fun q hq => (o216 q (by omega)).trans (hF214 q hq)
                refine lv_aload_n hx hb dX6_paste_157 rfl (lv_at hl 3 rfl) ?_
                refine z_get (T := TX6) (v := .ref (d + 1)) hE hH hM218.1 rfl uw_X6 1 (by decide) fkX6_7 rfl dX6_paste_158 ?_
                refine lv_iload hx hb dX6_paste_161 (lv_at hl 0 rfl) ?_
                refine n_iconst hx hb 2 dX6_paste_163 (by decide) ?_
                refine n_iadd hx hb dX6_paste_164 ?_
                refine lv_iload_n hx hb dX6_paste_165 rfl (lv_at hl 6 rfl) ?_
                refine z_iast hE hH hS hA220 (k := (14 + (7 * (σ.1 (0)))) + 2) (by omega) (by decide) (by omega) dX6_paste_166 (fun H locs M224 hH hS e222 o223 => ?_)
                have hM225 : Md G d (sg (nI 0) (nI (keepN σ.2.1)) (nI σ.2.2.2.2.2.1) at' w bm) (xs (vset (vset (vset (vset σ.1 (0) ((σ.1 (0)) + 1)) ((14 + (7 * (σ.1 (0)))) + 0) x') ((14 + (7 * (σ.1 (0)))) + 1) y') ((14 + (7 * (σ.1 (0)))) + 2) wd') A U195 L K (fun i => nI (σ.2.2.2.2.2.2 i)) SE SH BU) M224 := Md.setJ (j := 1) hM218 (by decide) (zArr.to e222 (fun q _ => by show (if q = _ then nI _ else nI _) = nI (fset _ _ _ q); unfold fset; by_cases hq : q = (14 + (7 * (σ.1 (0)))) + 2 <;> (first | (simp [hq]; done) | (rw [if_pos hq, if_pos hq]; rfl) | (rw [if_neg hq, if_neg hq]; rfl)))) (fun i hi => by unfold xs; split <;> first | rfl | exact absurd rfl hi) o223
                have hA227 := hM225.s (fun _ _ => rfl)
                have hF228 := fun q hq => (o223 q (by omega)).trans (hF221 q hq)
                refine lv_aload_n hx hb dX6_paste_167 rfl (lv_at hl 3 rfl) ?_
                refine z_get (T := TX6) (v := .ref (d + 1)) hE hH hM225.1 rfl uw_X6 1 (by decide) fkX6_7 rfl dX6_paste_168 ?_
                refine lv_iload hx hb dX6_paste_171 (lv_at hl 0 rfl) ?_
                refine n_iconst hx hb 3 dX6_paste_173 (by decide) ?_
                refine n_iadd hx hb dX6_paste_174 ?_
                refine lv_iload hx hb dX6_paste_175 (lv_at hl 7 rfl) ?_
                refine z_iast hE hH hS hA227 (k := (14 + (7 * (σ.1 (0)))) + 3) (by omega) (by decide) (by omega) dX6_paste_177 (fun H locs M231 hH hS e229 o230 => ?_)
                have hM232 : Md G d (sg (nI 0) (nI (keepN σ.2.1)) (nI σ.2.2.2.2.2.1) at' w bm) (xs (vset (vset (vset (vset (vset σ.1 (0) ((σ.1 (0)) + 1)) ((14 + (7 * (σ.1 (0)))) + 0) x') ((14 + (7 * (σ.1 (0)))) + 1) y') ((14 + (7 * (σ.1 (0)))) + 2) wd') ((14 + (7 * (σ.1 (0)))) + 3) ht) A U195 L K (fun i => nI (σ.2.2.2.2.2.2 i)) SE SH BU) M231 := Md.setJ (j := 1) hM225 (by decide) (zArr.to e229 (fun q _ => by show (if q = _ then nI _ else nI _) = nI (fset _ _ _ q); unfold fset; by_cases hq : q = (14 + (7 * (σ.1 (0)))) + 3 <;> (first | (simp [hq]; done) | (rw [if_pos hq, if_pos hq]; rfl) | (rw [if_neg hq, if_neg hq]; rfl)))) (fun i hi => by unfold xs; split <;> first | rfl | exact absurd rfl hi) o230
                have hA234 := hM232.s (fun _ _ => rfl)
                have hF235 := fun q hq => (o230 q (by omega)).trans (hF228 q hq)
                refine lv_aload_n hx hb dX6_paste_178 rfl (lv_at hl 3 rfl) ?_
                refine z_get (T := TX6) (v := .ref (d + 1)) hE hH hM232.1 rfl uw_X6 1 (by decide) fkX6_7 rfl dX6_paste_179 ?_
                refine lv_iload hx hb dX6_paste_182 (lv_at hl 0 rfl) ?_
                refine n_iconst hx hb 4 dX6_paste_184 (by decide) ?_
                refine n_iadd hx hb dX6_paste_185 ?_
                refine lv_iload hx hb dX6_paste_186 (lv_at hl 8 rfl) ?_
                refine z_iast hE hH hS hA234 (k := (14 + (7 * (σ.1 (0)))) + 4) (by omega) (by decide) (by omega) dX6_paste_188 (fun H locs M238 hH hS e236 o237 => ?_)
                have hM239 : Md G d (sg (nI 0) (nI (keepN σ.2.1)) (nI σ.2.2.2.2.2.1) at' w bm) (xs (vset (vset (vset (vset (vset (vset σ.1 (0) ((σ.1 (0)) + 1)) ((14 + (7 * (σ.1 (0)))) + 0) x') ((14 + (7 * (σ.1 (0)))) + 1) y') ((14 + (7 * (σ.1 (0)))) + 2) wd') ((14 + (7 * (σ.1 (0)))) + 3) ht) ((14 + (7 * (σ.1 (0)))) + 4) p') A U195 L K (fun i => nI (σ.2.2.2.2.2.2 i)) SE SH BU) M238 := Md.setJ (j := 1) hM232 (by decide) (zArr.to e236 (fun q _ => by show (if q = _ then nI _ else nI _) = nI (fset _ _ _ q); unfold fset; by_cases hq : q = (14 + (7 * (σ.1 (0)))) + 4 <;> (first | (simp [hq]; done) | (rw [if_pos hq, if_pos hq]; rfl) | (rw [if_neg hq, if_neg hq]; rfl)))) (fun i hi => by unfold xs; split <;> first | rfl | exact absurd rfl hi) o237
                have hA241 := hM239.s (fun _ _ => rfl)
                have hF242 := fun q hq => (o237 q (by omega)).trans (hF235 q hq)
                refine lv_aload_n hx hb dX6_paste_189 rfl (lv_at hl 3 rfl) ?_
                refine z_get (T := TX6) (v := .ref (d + 1)) hE hH hM239.1 rfl uw_X6 1 (by decide) fkX6_7 rfl dX6_paste_190 ?_
                refine lv_iload hx hb dX6_paste_193 (lv_at hl 0 rfl) ?_
                refine n_iconst hx hb 5 dX6_paste_195 (by decide) ?_
                refine n_iadd hx hb dX6_paste_196 ?_
                refine n_iconst hx hb 0 dX6_paste_197 (by decide) ?_
                refine z_iast hE hH hS hA241 (k := (14 + (7 * (σ.1 (0)))) + 5) (by omega) (by decide) (by omega) dX6_paste_198 (fun H locs M245 hH hS e243 o244 => ?_)
                have hM246 : Md G d (sg (nI 0) (nI (keepN σ.2.1)) (nI σ.2.2.2.2.2.1) at' w bm) (xs (vset (vset (vset (vset (vset (vset (vset σ.1 (0) ((σ.1 (0)) + 1)) ((14 + (7 * (σ.1 (0)))) + 0) x') ((14 + (7 * (σ.1 (0)))) + 1) y') ((14 + (7 * (σ.1 (0)))) + 2) wd') ((14 + (7 * (σ.1 (0)))) + 3) ht) ((14 + (7 * (σ.1 (0)))) + 4) p') ((14 + (7 * (σ.1 (0)))) + 5) 0) A U195 L K (fun i => nI (σ.2.2.2.2.2.2 i)) SE SH BU) M245 := Md.setJ (j := 1) hM239 (by decide) (zArr.to e243 (fun q _ => by show (if q = _ then nI _ else nI _) = nI (fset _ _ _ q); unfold fset; by_cases hq : q = (14 + (7 * (σ.1 (0)))) + 5 <;> (first | (simp [hq]; done) | (rw [if_pos hq, if_pos hq]; rfl) | (rw [if_neg hq, if_neg hq]; rfl)))) (fun i hi => by unfold xs; split <;> first | rfl | exact absurd rfl hi) o244
                have hA248 := hM246.s (fun _ _ => rfl)
                have hF249 := fun q hq => (o244 q (by omega)).trans (hF242 q hq)
                refine lv_aload_n hx hb dX6_paste_199 rfl (lv_at hl 3 rfl) ?_
                refine z_get (T := TX6) (v := .ref (d + 1)) hE hH hM246.1 rfl uw_X6 1 (by decide) fkX6_7 rfl dX6_paste_200 ?_
                refine lv_iload hx hb dX6_paste_203 (lv_at hl 0 rfl) ?_
                refine n_bipush hx hb 6 dX6_paste_205 (by decide) ?_
                refine n_iadd hx hb dX6_paste_207 ?_
                refine n_iconst hx hb 0 dX6_paste_208 (by decide) ?_
                refine z_iast hE hH hS hA248 (k := (14 + (7 * (σ.1 (0)))) + 6) (by omega) (by decide) (by omega) dX6_paste_209 (fun H locs M252 hH hS e250 o251 => ?_)
                have hM253 : Md G d (sg (nI 0) (nI (keepN σ.2.1)) (nI σ.2.2.2.2.2.1) at' w bm) (xs (vset (vset (vset (vset (vset (vset (vset (vset σ.1 (0) ((σ.1 (0)) + 1)) ((14 + (7 * (σ.1 (0)))) + 0) x') ((14 + (7 * (σ.1 (0)))) + 1) y') ((14 + (7 * (σ.1 (0)))) + 2) wd') ((14 + (7 * (σ.1 (0)))) + 3) ht) ((14 + (7 * (σ.1 (0)))) + 4) p') ((14 + (7 * (σ.1 (0)))) + 5) 0) ((14 + (7 * (σ.1 (0)))) + 6) 0) A U195 L K (fun i => nI (σ.2.2.2.2.2.2 i)) SE SH BU) M252 := Md.setJ (j := 1) hM246 (by decide) (zArr.to e250 (fun q _ => by show (if q = _ then nI _ else nI _) = nI (fset _ _ _ q); unfold fset; by_cases hq : q = (14 + (7 * (σ.1 (0)))) + 6 <;> (first | (simp [hq]; done) | (rw [if_pos hq, if_pos hq]; rfl) | (rw [if_neg hq, if_neg hq]; rfl)))) (fun i hi => by unfold xs; split <;> first | rfl | exact absurd rfl hi) o251
                have hA255 := hM253.s (fun _ _ => rfl)
                have hF256 := fun q hq => (o251 q (by omega)).trans (hF249 q hq)
                refine n_iconst hx hb 0 dX6_paste_210 (by decide) ?_
                refine lv_istore (lv' := [(10, .int (nI 0)), (9, .int (nI (14 + (7 * (σ.1 (0)))))), (8, .int (nI (σ.1 (0)))), (7, .int (nI 0)), (0, .ref d), (1, .int (nI x')), (2, .int (nI y')), (3, .int (nI wd')), (4, .int ht), (5, .int (nI p')), (6, .int (nI q'))]) hx hb dX6_paste_211 hl (by decide) rfl (fun ls hl => ?_)
                have L213 : ∀ (dd : Nat) (k : Nat) (u : Wv) (M1 : Mm), 60 < k + dd → (k ≤ 60) → (Md G d (sg (nI 0) (nI (keepN σ.2.1)) (nI σ.2.2.2.2.2.1) at' w bm) (xs u A U18 L K (fun i => nI (σ.2.2.2.2.2.2 i)) SE SH BU) M1) → (∀ q, (q < d ∨ d + 10 ≤ q) → M1 q = M q) → (∀ i, u i = pstV σ.1 x' y' wd' ht' p' q' k i) → ∀ (H : Heap) (locs : List Loc), zH G M1 H → zS 0 B0 s.heap H locs → ∀ (ls : Array Slot), lv_has ls 11 [(0, .ref d), (6, .int (nI q')), (8, .int (nI (σ.1 0))), (10, .int (nI k))] → zW pg l ev 5 0 0 s m [.ref d, .int (nI x'), .int (nI y'), .int (nI wd'), .int ht, .int (nI p'), .int (nI q')] below meth cd H locs 0 0 G B0 (some (.int ((fPaste σ (nI x') (nI y') (nI wd') ht (nI p') (nI q')).1))) (fun M1 => Mo G d (fPaste σ (nI x') (nI y') (nI wd') ht (nI p') (nI q')).2 M1 ∧ ∀ (nI q'), ((nI q') < d ∨ d + 10 ≤ (nI q')) → M1 (nI q') = M (nI q')) (F0 m 213 ls []) := by
                  intro dd
                  induction dd with
                  | zero =>
                    intro k u M1 hdd hk hM1 hF1 hu
                    exact absurd hdd (by omega)
                  | succ dd ih =>
                    intro k u M1 hdd hk hM1 hF1 hu H locs hH hS ls hl
                    have hA1 : zArr G 0 M1 (d + 1) 818 (fun i => nI (u i)) := hM1.s (fun _ _ => rfl)
                    obtain ⟨hu0, r0, r1, r2, r3⟩ := pst_at hu
                    have hqr : 1 ≤ pv u (σ.1 0) 2 ∧ pv u (σ.1 0) 0 + pv u (σ.1 0) 2 ≤ 10 ∧ 1 ≤ pv u (σ.1 0) 3 ∧ pv u (σ.1 0) 1 + pv u (σ.1 0) 3 ≤ 6 := by rw [r0, r1, r2, r3]; omega
                    refine lv_iload hx hb dX6_paste_213 (lv_at hl 3 rfl) ?_
                    refine n_bipush hx hb 60 dX6_paste_215 (by decide) ?_
                    refine n_cmp_ge (tgt := 251) hx hb (by omega) (by decide) dX6_paste_217 (by decide) (fun h257 => ?_) (fun h257 => ?_)
                    · refine lv_iload hx hb dX6_paste_251 (lv_at hl 2 rfl) ?_
                      have hf : (fPaste σ (nI x') (nI y') (nI wd') ht (nI p') (nI q')).1 = ((nI (σ.1 0)), (pasteV σ.1 x' y' wd' ht' p' q', keepN σ.2.1, keepH σ.2.2.1 σ.2.1 σ.1, σ.2.2.2.1, σ.2.2.2.2.1, σ.2.2.2.2.2.1, σ.2.2.2.2.2.2)) := by
                        simp [fPaste, chg, sV, sN, sH, sS, sD, sL, sP, h8, tx94, tx95, h97, tx183, h185, h186, h188, tx189, h191, tx192, h193, h257]
                        try omega
                      rw [hf]
                      have hkk : k = 60 := by omega
                      subst hkk
                      exact z_iret hE hH hS rfl ⟨⟨_, _, _, _, _, _, _, _, _, _, _, hM1.to (j := 1) (fun i hi => congrArg nI ((hu i).trans (pst_e i))) (fun i hi => by unfold xs; split <;> first | rfl | exact absurd rfl hi), hU199, hL, hK⟩, hF1⟩ dX6_paste_253
                    · refine lv_aload_n hx hb dX6_paste_220 rfl (lv_at hl 0 rfl) ?_
                      refine lv_iload hx hb dX6_paste_221 (lv_at hl 2 rfl) ?_
                      refine lv_iload hx hb dX6_paste_223 (lv_at hl 3 rfl) ?_
                      refine lv_aload_n hx hb dX6_paste_225 rfl (lv_at hl 0 rfl) ?_
                      refine lv_iload hx hb dX6_paste_226 (lv_at hl 2 rfl) ?_
                      refine lv_iload hx hb dX6_paste_228 (lv_at hl 3 rfl) ?_
                      refine z_callV (rest := [.int (nI k), .int (nI (σ.1 0)), .ref d]) (st2 := [.int (zb (liesN (pv u (σ.1 0)) (k % 10) (k / 10))), .int (nI k), .int (nI (σ.1 0)), .ref d]) hE hH hS hB0 hl ca_X6_lies mkX6_53 (c_X6_lies0 l G B0 M1 d (sg (nI 0) (nI (keepN σ.2.1)) (nI σ.2.2.2.2.2.1) at' w bm) (xs u A U195 L K (fun i => nI (σ.2.2.2.2.2.2 i)) SE SH BU) hM1 u (fun _ _ => rfl) (σ.1 0) k (by omega) hqr (by omega)) hM1.1 rfl rfl rfl rfl rfl ⟨Nat.le_of_ble_eq_true rfl, Nat.le_of_ble_eq_true rfl⟩ (Nat.le_of_ble_eq_true rfl) ⟨Nat.le_refl _, Nat.le_refl _⟩ dX6_paste_230 (fun H locs M1 hH hp hS => ?_)
                      subst hp
                      refine b_if_eq (tgt := 241) hx hb dX6_paste_233 (by decide) (fun h260 => ?_) (fun h260 => ?_)
                      · refine n_iconst hx hb 0 dX6_paste_241 (by decide) ?_
                        refine z_callV (rest := []) (st2 := []) hE hH hS hB0 hl ca_X6_lays mkX6_63 (c_X6_lays0 l G B0 M1 d (sg (nI 0) (nI (keepN σ.2.1)) (nI σ.2.2.2.2.2.1) at' w bm) u A U195 L K (fun i => nI (σ.2.2.2.2.2.2 i)) SE SH BU hM1 (by omega) (σ.1 0) k 0 (by omega) (by omega)) hM1.1 rfl rfl rfl rfl rfl ⟨Nat.le_of_ble_eq_true rfl, Nat.le_of_ble_eq_true rfl⟩ (Nat.le_of_ble_eq_true rfl) ⟨Nat.le_refl _, Nat.le_refl _⟩ dX6_paste_242 (fun H locs M261 hH hp hS => ?_)
                        obtain ⟨hM262, hG263⟩ := hp
                        have hA265 := hM262.s (fun _ _ => rfl)
                        have hF264 := fun q hq => (hG263 q hq).trans (hF1 q hq)
                        refine lv_iinc (v := (nI (k + 1))) (lv' := [(10, .int (nI (k + 1))), (0, .ref d), (6, .int (nI q')), (8, .int (nI (σ.1 0)))]) hx hb dX6_paste_245 hl (k := 3) rfl (nI_inc _) (by decide) rfl (fun ls hl => ?_)
                        refine lv_goto (tgt := 213) hx hb dX6_paste_248 (by decide) ?_
                        exact ih  (k + 1) (vset u (98 + 60 * (σ.1 0) + k) 0) M261 (by omega) (by omega) hM262 hF264 (pst_s hu (by rw [if_neg (by rw [h260]; decide)])) _ _ hH hS _ (lv_sub hl [1, 2, 3, 0] rfl)
                      · refine lv_iload hx hb dX6_paste_236 (lv_at hl 1 rfl) ?_
                        refine lv_goto (tgt := 242) hx hb dX6_paste_238 (by decide) ?_
                        refine z_callV (rest := []) (st2 := []) hE hH hS hB0 hl ca_X6_lays mkX6_63 (c_X6_lays0 l G B0 M1 d (sg (nI 0) (nI (keepN σ.2.1)) (nI σ.2.2.2.2.2.1) at' w bm) u A U195 L K (fun i => nI (σ.2.2.2.2.2.2 i)) SE SH BU hM1 (by omega) (σ.1 0) k q' (by omega) (by omega)) hM1.1 rfl rfl rfl rfl rfl ⟨Nat.le_of_ble_eq_true rfl, Nat.le_of_ble_eq_true rfl⟩ (Nat.le_of_ble_eq_true rfl) ⟨Nat.le_refl _, Nat.le_refl _⟩ dX6_paste_242 (fun H locs M266 hH hp hS => ?_)
                        obtain ⟨hM267, hG268⟩ := hp
                        have hA270 := hM267.s (fun _ _ => rfl)
                        have hF269 := fun q hq => (hG268 q hq).trans (hF1 q hq)
                        refine lv_iinc (v := (nI (k + 1))) (lv' := [(10, .int (nI (k + 1))), (0, .ref d), (6, .int (nI q')), (8, .int (nI (σ.1 0)))]) hx hb dX6_paste_245 hl (k := 3) rfl (nI_inc _) (by decide) rfl (fun ls hl => ?_)
                        refine lv_goto (tgt := 213) hx hb dX6_paste_248 (by decide) ?_
                        exact ih  (k + 1) (vset u (98 + 60 * (σ.1 0) + k) q') M266 (by omega) (by omega) hM267 hF269 (pst_s hu (by rw [if_pos h260])) _ _ hH hS _ (lv_sub hl [1, 2, 3, 0] rfl)
                exact L213 61 0 (vset (vset (vset (vset (vset (vset (vset (vset σ.1 (0) ((σ.1 (0)) + 1)) ((14 + (7 * (σ.1 (0)))) + 0) x') ((14 + (7 * (σ.1 (0)))) + 1) y') ((14 + (7 * (σ.1 (0)))) + 2) wd') ((14 + (7 * (σ.1 (0)))) + 3) ht) ((14 + (7 * (σ.1 (0)))) + 4) p') ((14 + (7 * (σ.1 (0)))) + 5) 0) ((14 + (7 * (σ.1 (0)))) + 6) 0) M252 (by omega) (by omega) hM253 hF256 (fun i => pst_0 i) _ _ hH hS _ (lv_sub hl [4, 10, 2, 0] rfl)
              · refine lv_bipush (v := (-4)) hx hb dX6_paste_102 (by decide) ?_
                have hf : (fPaste σ (nI x') (nI y') (nI wd') ht (nI p') (nI q')).1 = ((-4), (σ.1, σ.2.1, σ.2.2.1, σ.2.2.2.1, σ.2.2.2.2.1, σ.2.2.2.2.2.1, σ.2.2.2.2.2.2)) := by
                  simp [fPaste, chg, sV, sN, sH, sS, sD, sL, sP, h8, tx94, tx95, h97, tx183, h185, h186, h188, tx189, h191, tx192, h193]
                  try omega
                rw [hf]
                exact z_iret hE hH hS rfl ⟨⟨_, _, _, _, _, _, _, _, _, _, _, hM4, hU, hL, hK⟩, hF6⟩ dX6_paste_104
            · refine lv_bipush (v := (-2)) hx hb dX6_paste_88 (by decide) ?_
              have hf : (fPaste σ (nI x') (nI y') (nI wd') ht (nI p') q).1 = ((-2), (σ.1, σ.2.1, σ.2.2.1, σ.2.2.2.1, σ.2.2.2.2.1, σ.2.2.2.2.2.1, σ.2.2.2.2.2.2)) := by
                simp [fPaste, chg, sV, sN, sH, sS, sD, sL, sP, h8, tx94, tx95, h97, tx183, h185, h186, h188, tx189, h191]
                try omega
              rw [hf]
              exact z_iret hE hH hS rfl ⟨⟨_, _, _, _, _, _, _, _, _, _, _, hM4, hU, hL, hK⟩, hF6⟩ dX6_paste_90
        · refine lv_iconst (v := (-1)) hx hb dX6_paste_63 (by decide) ?_
          have hf : (fPaste σ (nI x') (nI y') (nI wd') ht p q).1 = ((-1), (σ.1, σ.2.1, σ.2.2.1, σ.2.2.2.1, σ.2.2.2.2.1, σ.2.2.2.2.2.1, σ.2.2.2.2.2.2)) := by
            refine fPaste_no (fun q1 q2 q3 => ?_)
            first
              | exact absurd (q1.symm.trans h186) (by decide)
              | exact absurd ((wi_mono (by decide) (by decide) (by omega) q2).symm.trans h186) (by decide)
              | exact absurd ((wi_mono (by decide) (by decide) (by omega) q3).symm.trans h186) (by decide)
              | exact wi_not (by omega) (by decide) (by omega) q2
              | exact wi_not (by omega) (by decide) (by omega) q3
          rw [hf]
          exact z_iret hE hH hS rfl ⟨⟨_, _, _, _, _, _, _, _, _, _, _, hM4, hU, hL, hK⟩, hF6⟩ dX6_paste_64
      · obtain ⟨ht', rfl, ht1, ht2⟩ := wi_nat (by decide) (by decide) h185
        have tx271 : tn (nI ht') = ht' := tn_nI (by omega)
        refine lv_iload_n hx hb dX6_paste_34 rfl (lv_at hl 1 rfl) ?_
        refine lv_iload_n hx hb dX6_paste_35 rfl (lv_at hl 3 rfl) ?_
        refine n_iadd hx hb dX6_paste_36 ?_
        refine n_bipush hx hb 10 dX6_paste_37 (by decide) ?_
        refine n_cmp_gt (tgt := 55) hx hb (by omega) (by decide) dX6_paste_39 (by decide) (fun h272 => ?_) (fun h272 => ?_)
        · refine n_iconst hx hb 0 dX6_paste_55 (by decide) ?_
          refine lv_istore (lv' := [(7, .int (nI 0)), (0, .ref d), (1, .int (nI x')), (2, .int (nI y')), (3, .int (nI wd')), (4, .int (nI ht')), (5, .int p), (6, .int q)]) hx hb dX6_paste_56 hl (by decide) rfl (fun ls hl => ?_)
          refine lv_iload hx hb dX6_paste_58 (lv_at hl 0 rfl) ?_
          refine n_if_ne (tgt := 65) hx hb (by decide) dX6_paste_60 (by decide) (fun h273 => ?_) (fun h273 => ?_)
          · refine lv_iload hx hb dX6_paste_65 (lv_at hl 6 rfl) ?_
            refine n_iconst hx hb 1 dX6_paste_67 (by decide) ?_
            refine n_sipush hx hb 999 dX6_paste_68 (by decide) ?_
            refine z_callS (rest := []) (st2 := [.int (zb (wi p (nI 1) (nI 999)))]) hE hH hS hB0 hl ca_X6_in mkX6_42 (c_X6_in l G B0 M3 p (nI 1) (nI 999)) rfl rfl rfl ⟨Nat.le_of_ble_eq_true rfl, Nat.le_of_ble_eq_true rfl⟩ (Nat.le_of_ble_eq_true rfl) ⟨Nat.le_refl _, Nat.le_refl _⟩ dX6_paste_71 (fun H locs M1 hH hp hS => ?_)
            subst hp
            refine b_if_eq (tgt := 88) hx hb dX6_paste_74 (by decide) (fun h275 => ?_) (fun h275 => ?_)
            · refine lv_bipush (v := (-2)) hx hb dX6_paste_88 (by decide) ?_
              have hf : (fPaste σ (nI x') (nI y') (nI wd') (nI ht') p q).1 = ((-2), (σ.1, σ.2.1, σ.2.2.1, σ.2.2.2.1, σ.2.2.2.2.1, σ.2.2.2.2.2.1, σ.2.2.2.2.2.2)) := by
                simp [fPaste, chg, sV, sN, sH, sS, sD, sL, sP, h8, tx94, tx95, h97, tx183, h185, tx271, h272, h273, h275]
                try omega
              rw [hf]
              exact z_iret hE hH hS rfl ⟨⟨_, _, _, _, _, _, _, _, _, _, _, hM4, hU, hL, hK⟩, hF6⟩ dX6_paste_90
            · obtain ⟨p', rfl, p1, p2⟩ := wi_nat (by decide) (by decide) h275
              have tx276 : tn (nI p') = p' := tn_nI (by omega)
              refine lv_iload hx hb dX6_paste_77 (lv_at hl 7 rfl) ?_
              refine n_iconst hx hb 1 dX6_paste_79 (by decide) ?_
              refine n_bipush hx hb 99 dX6_paste_80 (by decide) ?_
              refine z_callS (rest := []) (st2 := [.int (zb (wi q (nI 1) (nI 99)))]) hE hH hS hB0 hl ca_X6_in mkX6_42 (c_X6_in l G B0 M3 q (nI 1) (nI 99)) rfl rfl rfl ⟨Nat.le_of_ble_eq_true rfl, Nat.le_of_ble_eq_true rfl⟩ (Nat.le_of_ble_eq_true rfl) ⟨Nat.le_refl _, Nat.le_refl _⟩ dX6_paste_82 (fun H locs M1 hH hp hS => ?_)
              subst hp
              refine b_if_ne (tgt := 91) hx hb dX6_paste_85 (by decide) (fun h278 => ?_) (fun h278 => ?_)
              · obtain ⟨q', rfl, q1, q2⟩ := wi_nat (by decide) (by decide) h278
                have tx279 : tn (nI q') = q' := tn_nI (by omega)
                refine lv_aload_n hx hb dX6_paste_91 rfl (lv_at hl 1 rfl) ?_
                refine z_get (T := TX6) (v := .ref (d + 1)) hE hH hM4.1 rfl uw_X6 1 (by decide) fkX6_7 rfl dX6_paste_92 ?_
                refine n_iconst hx hb 0 dX6_paste_95 (by decide) ?_
                refine z_iald hE hH hA5 (k := 0) (by omega) (by decide) dX6_paste_96 ?_
                refine n_bipush hx hb 12 dX6_paste_97 (by decide) ?_
                refine n_cmp_ne (tgt := 105) hx hb (by omega) (by decide) dX6_paste_99 (by decide) (fun h280 => ?_) (fun h280 => ?_)
                · refine lv_aload_n hx hb dX6_paste_105 rfl (lv_at hl 1 rfl) ?_
                  refine z_callV (rest := []) (st2 := []) hE hH hS hB0 hl ca_X6_records mkX6_81 (c_X6_records l G B0 M3 d (nI 0) (nI σ.2.2.2.2.2.1) at' w bm σ.2.1 σ.2.2.1 σ.1 A U L K (fun i => nI (σ.2.2.2.2.2.2 i)) SE SH BU hM4 hv (by omega) hn6 hU) hM4.1 rfl rfl rfl rfl rfl ⟨Nat.le_of_ble_eq_true rfl, Nat.le_of_ble_eq_true rfl⟩ (Nat.le_of_ble_eq_true rfl) ⟨Nat.le_refl _, Nat.le_refl _⟩ dX6_paste_106 (fun H locs M281 hH hp hS => ?_)
                  obtain ⟨U282, hM283, hU286, hG284⟩ := hp
                  have hA287 := hM283.s (fun _ _ => rfl)
                  have hF285 := fun q hq => (hG284 q hq).trans (hF6 q hq)
                  refine lv_aload_n hx hb dX6_paste_109 rfl (lv_at hl 1 rfl) ?_
                  refine z_get (T := TX6) (v := .ref (d + 1)) hE hH hM283.1 rfl uw_X6 1 (by decide) fkX6_7 rfl dX6_paste_110 ?_
                  refine n_iconst hx hb 0 dX6_paste_113 (by decide) ?_
                  refine z_iald hE hH hA287 (k := 0) (by omega) (by decide) dX6_paste_114 ?_
                  refine lv_istore (lv' := [(8, .int (nI (σ.1 (0)))), (7, .int (nI 0)), (0, .ref d), (1, .int (nI x')), (2, .int (nI y')), (3, .int (nI wd')), (4, .int (nI ht')), (5, .int (nI p')), (6, .int (nI q'))]) hx hb dX6_paste_115 hl (by decide) rfl (fun ls hl => ?_)
                  refine lv_aload_n hx hb dX6_paste_117 rfl (lv_at hl 2 rfl) ?_
                  refine z_get (T := TX6) (v := .ref (d + 1)) hE hH hM283.1 rfl uw_X6 1 (by decide) fkX6_7 rfl dX6_paste_118 ?_
                  refine n_iconst hx hb 0 dX6_paste_121 (by decide) ?_
                  refine lv_dup2_11 hx hb dX6_paste_122 rfl rfl ?_
                  refine z_iald hE hH hA287 (k := 0) (by omega) (by decide) dX6_paste_123 ?_
                  refine n_iconst hx hb 1 dX6_paste_124 (by decide) ?_
                  refine n_iadd hx hb dX6_paste_125 ?_
                  refine z_iast hE hH hS hA287 (k := 0) (by omega) (by decide) (by omega) dX6_paste_126 (fun H locs M290 hH hS e288 o289 => ?_)
                  have hM291 : Md G d (sg (nI 0) (nI (keepN σ.2.1)) (nI σ.2.2.2.2.2.1) at' w bm) (xs (vset σ.1 (0) ((σ.1 (0)) + 1)) A U282 L K (fun i => nI (σ.2.2.2.2.2.2 i)) SE SH BU) M290 := Md.setJ (j := 1) hM283 (by decide) (zArr.to e288 (fun q _ => by show (if q = _ then nI _ else nI _) = nI (fset _ _ _ q); unfold fset; by_cases hq : q = 0 <;> (first | (simp [hq]; done) | (rw [if_pos hq, if_pos hq]; rfl) | (rw [if_neg hq, if_neg hq]; rfl)))) (fun i hi => by unfold xs; split <;> first | rfl | exact absurd rfl hi) o289
                  have hA293 := hM291.s (fun _ _ => rfl)
                  have hF294 := fun q hq => (o289 q (by omega)).trans (hF285 q hq)
                  refine n_bipush hx hb 14 dX6_paste_127 (by decide) ?_
                  refine n_bipush hx hb 7 dX6_paste_129 (by decide) ?_
                  refine lv_iload hx hb dX6_paste_131 (lv_at hl 0 rfl) ?_
                  refine n_imul hx hb dX6_paste_133 ?_
                  refine n_iadd hx hb dX6_paste_134 ?_
                  refine lv_istore (lv' := [(9, .int (nI (14 + (7 * (σ.1 (0)))))), (8, .int (nI (σ.1 (0)))), (7, .int (nI 0)), (0, .ref d), (1, .int (nI x')), (2, .int (nI y')), (3, .int (nI wd')), (4, .int (nI ht')), (5, .int (nI p')), (6, .int (nI q'))]) hx hb dX6_paste_135 hl (by decide) rfl (fun ls hl => ?_)
                  refine lv_aload_n hx hb dX6_paste_137 rfl (lv_at hl 3 rfl) ?_
                  refine z_get (T := TX6) (v := .ref (d + 1)) hE hH hM291.1 rfl uw_X6 1 (by decide) fkX6_7 rfl dX6_paste_138 ?_
                  refine lv_iload hx hb dX6_paste_141 (lv_at hl 0 rfl) ?_
                  refine n_iconst hx hb 0 dX6_paste_143 (by decide) ?_
                  refine n_iadd hx hb dX6_paste_144 ?_
                  refine lv_iload_n hx hb dX6_paste_145 rfl (lv_at hl 4 rfl) ?_
                  refine z_iast hE hH hS hA293 (k := (14 + (7 * (σ.1 (0)))) + 0) (by omega) (by decide) (by omega) dX6_paste_146 (fun H locs M297 hH hS e295 o296 => ?_)
                  have hM298 : Md G d (sg (nI 0) (nI (keepN σ.2.1)) (nI σ.2.2.2.2.2.1) at' w bm) (xs (vset (vset σ.1 (0) ((σ.1 (0)) + 1)) ((14 + (7 * (σ.1 (0)))) + 0) x') A U282 L K (fun i => nI (σ.2.2.2.2.2.2 i)) SE SH BU) M297 := Md.setJ (j := 1) hM291 (by decide) (zArr.to e295 (fun q _ => by show (if q = _ then nI _ else nI _) = nI (fset _ _ _ q); unfold fset; by_cases hq : q = (14 + (7 * (σ.1 (0)))) + 0 <;> (first | (simp [hq]; done) | (rw [if_pos hq, if_pos hq]; rfl) | (rw [if_neg hq, if_neg hq]; rfl)))) (fun i hi => by unfold xs; split <;> first | rfl | exact absurd rfl hi) o296
                  have hA300 := hM298.s (fun _ _ => rfl)
                  have hF301 := fun q hq => (o296 q (by omega)).trans (hF294 q hq)
                  refine lv_aload_n hx hb dX6_paste_147 rfl (lv_at hl 3 rfl) ?_
                  refine z_get (T := TX6) (v := .ref (d + 1)) hE hH hM298.1 rfl uw_X6 1 (by decide) fkX6_7 rfl dX6_paste_148 ?_
                  refine lv_iload hx hb dX6_paste_151 (lv_at hl 0 rfl) ?_
                  refine n_iconst hx hb 1 dX6_paste_153 (by decide) ?_
                  refine n_iadd hx hb dX6_paste_154 ?_
                  refine lv_iload_n hx hb dX6_paste_155 rfl (lv_at hl 5 rfl) ?_
                  refine z_iast hE hH hS hA300 (k := (14 + (7 * (σ.1 (0)))) + 1) (by omega) (by decide) (by omega) dX6_paste_156 (fun H locs M304 hH hS e302 o303 => ?_)
                  have hM305 : Md G d (sg (nI 0) (nI (keepN σ.2.1)) (nI σ.2.2.2.2.2.1) at' w bm) (xs (vset (vset (vset σ.1 (0) ((σ.1 (0)) + 1)) ((14 + (7 * (σ.1 (0)))) + 0) x') ((14 + (7 * (σ.1 (0)))) + 1) y') A U282 L K (fun i => nI (σ.2.2.2.2.2.2 i)) SE SH BU) M304 := Md.setJ (j := 1) hM298 (by decide) (zArr.to e302 (fun q _ => by show (if q = _ then nI _ else nI _) = nI (fset _ _ _ q); unfold fset; by_cases hq : q = (14 + (7 * (σ.1 (0)))) + 1 <;> (first | (simp [hq]; done) | (rw [if_pos hq, if_pos hq]; rfl) | (rw [if_neg hq, if_neg hq]; rfl)))) (fun i hi => by unfold xs; split <;> first | rfl | exact absurd rfl hi) o303
                  have hA307 := hM305.s (fun _ _ => rfl)
                  have hF308 := fun q hq => (o303 q (by omega)).trans (hF301 q hq)
                  refine lv_aload_n hx hb dX6_paste_157 rfl (lv_at hl 3 rfl) ?_
                  refine z_get (T := TX6) (v := .ref (d + 1)) hE hH hM305.1 rfl uw_X6 1 (by decide) fkX6_7 rfl dX6_paste_158 ?_
                  refine lv_iload hx hb dX6_paste_161 (lv_at hl 0 rfl) ?_
                  refine n_iconst hx hb 2 dX6_paste_163 (by decide) ?_
                  refine n_iadd hx hb dX6_paste_164 ?_
                  refine lv_iload_n hx hb dX6_paste_165 rfl (lv_at hl 6 rfl) ?_
                  refine z_iast hE hH hS hA307 (k := (14 + (7 * (σ.1 (0)))) + 2) (by omega) (by decide) (by omega) dX6_paste_166 (fun H locs M311 hH hS e309 o310 => ?_)
                  have hM312 : Md G d (sg (nI 0) (nI (keepN σ.2.1)) (nI σ.2.2.2.2.2.1) at' w bm) (xs (vset (vset (vset (vset σ.1 (0) ((σ.1 (0)) + 1)) ((14 + (7 * (σ.1 (0)))) + 0) x') ((14 + (7 * (σ.1 (0)))) + 1) y') ((14 + (7 * (σ.1 (0)))) + 2) wd') A U282 L K (fun i => nI (σ.2.2.2.2.2.2 i)) SE SH BU) M311 := Md.setJ (j := 1) hM305 (by decide) (zArr.to e309 (fun q _ => by show (if q = _ then nI _ else nI _) = nI (fset _ _ _ q); unfold fset; by_cases hq : q = (14 + (7 * (σ.1 (0)))) + 2 <;> (first | (simp [hq]; done) | (rw [if_pos hq, if_pos hq]; rfl) | (rw [if_neg hq, if_neg hq]; rfl)))) (fun i hi => by unfold xs; split <;> first | rfl | exact absurd rfl hi) o310
                  have hA314 := hM312.s (fun _ _ => rfl)
                  have hF315 := fun q hq => (o310 q (by omega)).trans (hF308 q hq)
                  refine lv_aload_n hx hb dX6_paste_167 rfl (lv_at hl 3 rfl) ?_
                  refine z_get (T := TX6) (v := .ref (d + 1)) hE hH hM312.1 rfl uw_X6 1 (by decide) fkX6_7 rfl dX6_paste_168 ?_
                  refine lv_iload hx hb dX6_paste_171 (lv_at hl 0 rfl) ?_
                  refine n_iconst hx hb 3 dX6_paste_173 (by decide) ?_
                  refine n_iadd hx hb dX6_paste_174 ?_
                  refine lv_iload hx hb dX6_paste_175 (lv_at hl 7 rfl) ?_
                  refine z_iast hE hH hS hA314 (k := (14 + (7 * (σ.1 (0)))) + 3) (by omega) (by decide) (by omega) dX6_paste_177 (fun H locs M318 hH hS e316 o317 => ?_)
                  have hM319 : Md G d (sg (nI 0) (nI (keepN σ.2.1)) (nI σ.2.2.2.2.2.1) at' w bm) (xs (vset (vset (vset (vset (vset σ.1 (0) ((σ.1 (0)) + 1)) ((14 + (7 * (σ.1 (0)))) + 0) x') ((14 + (7 * (σ.1 (0)))) + 1) y') ((14 + (7 * (σ.1 (0)))) + 2) wd') ((14 + (7 * (σ.1 (0)))) + 3) ht') A U282 L K (fun i => nI (σ.2.2.2.2.2.2 i)) SE SH BU) M318 := Md.setJ (j := 1) hM312 (by decide) (zArr.to e316 (fun q _ => by show (if q = _ then nI _ else nI _) = nI (fset _ _ _ q); unfold fset; by_cases hq : q = (14 + (7 * (σ.1 (0)))) + 3 <;> (first | (simp [hq]; done) | (rw [if_pos hq, if_pos hq]; rfl) | (rw [if_neg hq, if_neg hq]; rfl)))) (fun i hi => by unfold xs; split <;> first | rfl | exact absurd rfl hi) o317
                  have hA321 := hM319.s (fun _ _ => rfl)
                  have hF322 := fun q hq => (o317 q (by omega)).trans (hF315 q hq)
                  refine lv_aload_n hx hb dX6_paste_178 rfl (lv_at hl 3 rfl) ?_
                  refine z_get (T := TX6) (v := .ref (d + 1)) hE hH hM319.1 rfl uw_X6 1 (by decide) fkX6_7 rfl dX6_paste_179 ?_
                  refine lv_iload hx hb dX6_paste_182 (lv_at hl 0 rfl) ?_
                  refine n_iconst hx hb 4 dX6_paste_184 (by decide) ?_
                  refine n_iadd hx hb dX6_paste_185 ?_
                  refine lv_iload hx hb dX6_paste_186 (lv_at hl 8 rfl) ?_
                  refine z_iast hE hH hS hA321 (k := (14 + (7 * (σ.1 (0)))) + 4) (by omega) (by decide) (by omega) dX6_paste_188 (fun H locs M325 hH hS e323 o324 => ?_)
                  have hM326 : Md G d (sg (nI 0) (nI (keepN σ.2.1)) (nI σ.2.2.2.2.2.1) at' w bm) (xs (vset (vset (vset (vset (vset (vset σ.1 (0) ((σ.1 (0)) + 1)) ((14 + (7 * (σ.1 (0)))) + 0) x') ((14 + (7 * (σ.1 (0)))) + 1) y') ((14 + (7 * (σ.1 (0)))) + 2) wd') ((14 + (7 * (σ.1 (0)))) + 3) ht') ((14 + (7 * (σ.1 (0)))) + 4) p') A U282 L K (fun i => nI (σ.2.2.2.2.2.2 i)) SE SH BU) M325 := Md.setJ (j := 1) hM319 (by decide) (zArr.to e323 (fun q _ => by show (if q = _ then nI _ else nI _) = nI (fset _ _ _ q); unfold fset; by_cases hq : q = (14 + (7 * (σ.1 (0)))) + 4 <;> (first | (simp [hq]; done) | (rw [if_pos hq, if_pos hq]; rfl) | (rw [if_neg hq, if_neg hq]; rfl)))) (fun i hi => by unfold xs; split <;> first | rfl | exact absurd rfl hi) o324
                  have hA328 := hM326.s (fun _ _ => rfl)
                  have hF329 := fun q hq => (o324 q (by omega)).trans (hF322 q hq)
                  refine lv_aload_n hx hb dX6_paste_189 rfl (lv_at hl 3 rfl) ?_
                  refine z_get (T := TX6) (v := .ref (d + 1)) hE hH hM326.1 rfl uw_X6 1 (by decide) fkX6_7 rfl dX6_paste_190 ?_
                  refine lv_iload hx hb dX6_paste_193 (lv_at hl 0 rfl) ?_
                  refine n_iconst hx hb 5 dX6_paste_195 (by decide) ?_
                  refine n_iadd hx hb dX6_paste_196 ?_
                  refine n_iconst hx hb 0 dX6_paste_197 (by decide) ?_
                  refine z_iast hE hH hS hA328 (k := (14 + (7 * (σ.1 (0)))) + 5) (by omega) (by decide) (by omega) dX6_paste_198 (fun H locs M332 hH hS e330 o331 => ?_)
                  have hM333 : Md G d (sg (nI 0) (nI (keepN σ.2.1)) (nI σ.2.2.2.2.2.1) at' w bm) (xs (vset (vset (vset (vset (vset (vset (vset σ.1 (0) ((σ.1 (0)) + 1)) ((14 + (7 * (σ.1 (0)))) + 0) x') ((14 + (7 * (σ.1 (0)))) + 1) y') ((14 + (7 * (σ.1 (0)))) + 2) wd') ((14 + (7 * (σ.1 (0)))) + 3) ht') ((14 + (7 * (σ.1 (0)))) + 4) p') ((14 + (7 * (σ.1 (0)))) + 5) 0) A U282 L K (fun i => nI (σ.2.2.2.2.2.2 i)) SE SH BU) M332 := Md.setJ (j := 1) hM326 (by decide) (zArr.to e330 (fun q _ => by show (if q = _ then nI _ else nI _) = nI (fset _ _ _ q); unfold fset; by_cases hq : q = (14 + (7 * (σ.1 (0)))) + 5 <;> (first | (simp [hq]; done) | (rw [if_pos hq, if_pos hq]; rfl) | (rw [if_neg hq, if_neg hq]; rfl)))) (fun i hi => by unfold xs; split <;> first | rfl | exact absurd rfl hi) o331
                  have hA335 := hM333.s (fun _ _ => rfl)
                  have hF336 := fun q hq => (o331 q (by omega)).trans (hF329 q hq)
                  refine lv_aload_n hx hb dX6_paste_199 rfl (lv_at hl 3 rfl) ?_
                  refine z_get (T := TX6) (v := .ref (d + 1)) hE hH hM333.1 rfl uw_X6 1 (by decide) fkX6_7 rfl dX6_paste_200 ?_
                  refine lv_iload hx hb dX6_paste_203 (lv_at hl 0 rfl) ?_
                  refine n_bipush hx hb 6 dX6_paste_205 (by decide) ?_
                  refine n_iadd hx hb dX6_paste_207 ?_
                  refine n_iconst hx hb 0 dX6_paste_208 (by decide) ?_
                  refine z_iast hE hH hS hA335 (k := (14 + (7 * (σ.1 (0)))) + 6) (by omega) (by decide) (by omega) dX6_paste_209 (fun H locs M339 hH hS e337 o338 => ?_)
                  have hM340 : Md G d (sg (nI 0) (nI (keepN σ.2.1)) (nI σ.2.2.2.2.2.1) at' w bm) (xs (vset (vset (vset (vset (vset (vset (vset (vset σ.1 (0) ((σ.1 (0)) + 1)) ((14 + (7 * (σ.1 (0)))) + 0) x') ((14 + (7 * (σ.1 (0)))) + 1) y') ((14 + (7 * (σ.1 (0)))) + 2) wd') ((14 + (7 * (σ.1 (0)))) + 3) ht') ((14 + (7 * (σ.1 (0)))) + 4) p') ((14 + (7 * (σ.1 (0)))) + 5) 0) ((14 + (7 * (σ.1 (0)))) + 6) 0) A U282 L K (fun i => nI (σ.2.2.2.2.2.2 i)) SE SH BU) M339 := Md.setJ (j := 1) hM333 (by decide) (zArr.to e337 (fun q _ => by show (if q = _ then nI _ else nI _) = nI (fset _ _ _ q); unfold fset; by_cases hq : q = (14 + (7 * (σ.1 (0)))) + 6 <;> (first | (simp [hq]; done) | (rw [if_pos hq, if_pos hq]; rfl) | (rw [if_neg hq, if_neg hq]; rfl)))) (fun i hi => by unfold xs; split <;> first | rfl | exact absurd rfl hi) o338
                  have hA342 := hM340.s (fun _ _ => rfl)
                  have hF343 := fun q hq => (o338 q (by omega)).trans (hF336 q hq)
                  refine n_iconst hx hb 0 dX6_paste_210 (by decide) ?_
                  refine lv_istore (lv' := [(10, .int (nI 0)), (9, .int (nI (14 + (7 * (σ.1 (0)))))), (8, .int (nI (σ.1 (0)))), (7, .int (nI 0)), (0, .ref d), (1, .int (nI x')), (2, .int (nI y')), (3, .int (nI wd')), (4, .int (nI ht')), (5, .int (nI p')), (6, .int (nI q'))]) hx hb dX6_paste_211 hl (by decide) rfl (fun ls hl => ?_)
                  have L213 : ∀ (dd : Nat) (k : Nat) (u : Wv) (M1 : Mm), 60 < k + dd → (k ≤ 60) → (Md G d (sg (nI 0) (nI (keepN σ.2.1)) (nI σ.2.2.2.2.2.1) at' w bm) (xs u A U18 L K (fun i => nI (σ.2.2.2.2.2.2 i)) SE SH BU) M1) → (∀ q, (q < d ∨ d + 10 ≤ q) → M1 q = M q) → (∀ i, u i = pstV σ.1 x' y' wd' ht' p' q' k i) → ∀ (H : Heap) (locs : List Loc), zH G M1 H → zS 0 B0 s.heap H locs → ∀ (ls : Array Slot), lv_has ls 11 [(0, .ref d), (6, .int (nI q')), (8, .int (nI (σ.1 0))), (10, .int (nI k))] → zW pg l ev 5 0 0 s m [.ref d, .int (nI x'), .int (nI y'), .int (nI wd'), .int (nI ht'), .int (nI p'), .int (nI q')] below meth cd H locs 0 0 G B0 (some (.int ((fPaste σ (nI x') (nI y') (nI wd') (nI ht') (nI p') (nI q')).1))) (fun M1 => Mo G d (fPaste σ (nI x') (nI y') (nI wd') (nI ht') (nI p') (nI q')).2 M1 ∧ ∀ (nI q'), ((nI q') < d ∨ d + 10 ≤ (nI q')) → M1 (nI q') = M (nI q')) (F0 m 213 ls []) := by
                    intro dd
                    induction dd with
                    | zero =>
                      intro k u M1 hdd hk hM1 hF1 hu
                      exact absurd hdd (by omega)
                    | succ dd ih =>
                      intro k u M1 hdd hk hM1 hF1 hu H locs hH hS ls hl
                      have hA1 : zArr G 0 M1 (d + 1) 818 (fun i => nI (u i)) := hM1.s (fun _ _ => rfl)
                      obtain ⟨hu0, r0, r1, r2, r3⟩ := pst_at hu
                      have hqr : 1 ≤ pv u (σ.1 0) 2 ∧ pv u (σ.1 0) 0 + pv u (σ.1 0) 2 ≤ 10 ∧ 1 ≤ pv u (σ.1 0) 3 ∧ pv u (σ.1 0) 1 + pv u (σ.1 0) 3 ≤ 6 := by rw [r0, r1, r2, r3]; omega
                      refine lv_iload hx hb dX6_paste_213 (lv_at hl 3 rfl) ?_
                      refine n_bipush hx hb 60 dX6_paste_215 (by decide) ?_
                      refine n_cmp_ge (tgt := 251) hx hb (by omega) (by decide) dX6_paste_217 (by decide) (fun h344 => ?_) (fun h344 => ?_)
                      · refine lv_iload hx hb dX6_paste_251 (lv_at hl 2 rfl) ?_
                        have hf : (fPaste σ (nI x') (nI y') (nI wd') (nI ht') (nI p') (nI q')).1 = ((nI (σ.1 0)), (pasteV σ.1 x' y' wd' ht' p' q', keepN σ.2.1, keepH σ.2.2.1 σ.2.1 σ.1, σ.2.2.2.1, σ.2.2.2.2.1, σ.2.2.2.2.2.1, σ.2.2.2.2.2.2)) := by
                          simp [fPaste, chg, sV, sN, sH, sS, sD, sL, sP, h8, tx94, tx95, h97, tx183, h185, tx271, h272, h273, h275, tx276, h278, tx279, h280, h344]
                          try omega
                        rw [hf]
                        have hkk : k = 60 := by omega
                        subst hkk
                        exact z_iret hE hH hS rfl ⟨⟨_, _, _, _, _, _, _, _, _, _, _, hM1.to (j := 1) (fun i hi => congrArg nI ((hu i).trans (pst_e i))) (fun i hi => by unfold xs; split <;> first | rfl | exact absurd rfl hi), hU286, hL, hK⟩, hF1⟩ dX6_paste_253
                      · refine lv_aload_n hx hb dX6_paste_220 rfl (lv_at hl 0 rfl) ?_
                        refine lv_iload hx hb dX6_paste_221 (lv_at hl 2 rfl) ?_
                        refine lv_iload hx hb dX6_paste_223 (lv_at hl 3 rfl) ?_
                        refine lv_aload_n hx hb dX6_paste_225 rfl (lv_at hl 0 rfl) ?_
                        refine lv_iload hx hb dX6_paste_226 (lv_at hl 2 rfl) ?_
                        refine lv_iload hx hb dX6_paste_228 (lv_at hl 3 rfl) ?_
                        refine z_callV (rest := [.int (nI k), .int (nI (σ.1 0)), .ref d]) (st2 := [.int (zb (liesN (pv u (σ.1 0)) (k % 10) (k / 10))), .int (nI k), .int (nI (σ.1 0)), .ref d]) hE hH hS hB0 hl ca_X6_lies mkX6_53 (c_X6_lies0 l G B0 M1 d (sg (nI 0) (nI (keepN σ.2.1)) (nI σ.2.2.2.2.2.1) at' w bm) (xs u A U282 L K (fun i => nI (σ.2.2.2.2.2.2 i)) SE SH BU) hM1 u (fun _ _ => rfl) (σ.1 0) k (by omega) hqr (by omega)) hM1.1 rfl rfl rfl rfl rfl ⟨Nat.le_of_ble_eq_true rfl, Nat.le_of_ble_eq_true rfl⟩ (Nat.le_of_ble_eq_true rfl) ⟨Nat.le_refl _, Nat.le_refl _⟩ dX6_paste_230 (fun H locs M1 hH hp hS => ?_)
                        subst hp
                        refine b_if_eq (tgt := 241) hx hb dX6_paste_233 (by decide) (fun h347 => ?_) (fun h347 => ?_)
                        · refine n_iconst hx hb 0 dX6_paste_241 (by decide) ?_
                          refine z_callV (rest := []) (st2 := []) hE hH hS hB0 hl ca_X6_lays mkX6_63 (c_X6_lays0 l G B0 M1 d (sg (nI 0) (nI (keepN σ.2.1)) (nI σ.2.2.2.2.2.1) at' w bm) u A U282 L K (fun i => nI (σ.2.2.2.2.2.2 i)) SE SH BU hM1 (by omega) (σ.1 0) k 0 (by omega) (by omega)) hM1.1 rfl rfl rfl rfl rfl ⟨Nat.le_of_ble_eq_true rfl, Nat.le_of_ble_eq_true rfl⟩ (Nat.le_of_ble_eq_true rfl) ⟨Nat.le_refl _, Nat.le_refl _⟩ dX6_paste_242 (fun H locs M348 hH hp hS => ?_)
                          obtain ⟨hM349, hG350⟩ := hp
                          have hA352 := hM349.s (fun _ _ => rfl)
                          have hF351 := fun q hq => (hG350 q hq).trans (hF1 q hq)
                          refine lv_iinc (v := (nI (k + 1))) (lv' := [(10, .int (nI (k + 1))), (0, .ref d), (6, .int (nI q')), (8, .int (nI (σ.1 0)))]) hx hb dX6_paste_245 hl (k := 3) rfl (nI_inc _) (by decide) rfl (fun ls hl => ?_)
                          refine lv_goto (tgt := 213) hx hb dX6_paste_248 (by decide) ?_
                          exact ih  (k + 1) (vset u (98 + 60 * (σ.1 0) + k) 0) M348 (by omega) (by omega) hM349 hF351 (pst_s hu (by rw [if_neg (by rw [h347]; decide)])) _ _ hH hS _ (lv_sub hl [1, 2, 3, 0] rfl)
                        · refine lv_iload hx hb dX6_paste_236 (lv_at hl 1 rfl) ?_
                          refine lv_goto (tgt := 242) hx hb dX6_paste_238 (by decide) ?_
                          refine z_callV (rest := []) (st2 := []) hE hH hS hB0 hl ca_X6_lays mkX6_63 (c_X6_lays0 l G B0 M1 d (sg (nI 0) (nI (keepN σ.2.1)) (nI σ.2.2.2.2.2.1) at' w bm) u A U282 L K (fun i => nI (σ.2.2.2.2.2.2 i)) SE SH BU hM1 (by omega) (σ.1 0) k q' (by omega) (by omega)) hM1.1 rfl rfl rfl rfl rfl ⟨Nat.le_of_ble_eq_true rfl, Nat.le_of_ble_eq_true rfl⟩ (Nat.le_of_ble_eq_true rfl) ⟨Nat.le_refl _, Nat.le_refl _⟩ dX6_paste_242 (fun H locs M353 hH hp hS => ?_)
                          obtain ⟨hM354, hG355⟩ := hp
                          have hA357 := hM354.s (fun _ _ => rfl)
                          have hF356 := fun q hq => (hG355 q hq).trans (hF1 q hq)
                          refine lv_iinc (v := (nI (k + 1))) (lv' := [(10, .int (nI (k + 1))), (0, .ref d), (6, .int (nI q')), (8, .int (nI (σ.1 0)))]) hx hb dX6_paste_245 hl (k := 3) rfl (nI_inc _) (by decide) rfl (fun ls hl => ?_)
                          refine lv_goto (tgt := 213) hx hb dX6_paste_248 (by decide) ?_
                          exact ih  (k + 1) (vset u (98 + 60 * (σ.1 0) + k) q') M353 (by omega) (by omega) hM354 hF356 (pst_s hu (by rw [if_pos h347])) _ _ hH hS _ (lv_sub hl [1, 2, 3, 0] rfl)
                  exact L213 61 0 (vset (vset (vset (vset (vset (vset (vset (vset σ.1 (0) ((σ.1 (0)) + 1)) ((14 + (7 * (σ.1 (0)))) + 0) x') ((14 + (7 * (σ.1 (0)))) + 1) y') ((14 + (7 * (σ.1 (0)))) + 2) wd') ((14 + (7 * (σ.1 (0)))) + 3) ht') ((14 + (7 * (σ.1 (0)))) + 4) p') ((14 + (7 * (σ.1 (0)))) + 5) 0) ((14 + (7 * (σ.1 (0)))) + 6) 0) M339 (by omega) (by omega) hM340 hF343 (fun i => pst_0 i) _ _ hH hS _ (lv_sub hl [4, 10, 2, 0] rfl)
                · refine lv_bipush (v := (-4)) hx hb dX6_paste_102 (by decide) ?_
                  have hf : (fPaste σ (nI x') (nI y') (nI wd') (nI ht') (nI p') (nI q')).1 = ((-4), (σ.1, σ.2.1, σ.2.2.1, σ.2.2.2.1, σ.2.2.2.2.1, σ.2.2.2.2.2.1, σ.2.2.2.2.2.2)) := by
                    simp [fPaste, chg, sV, sN, sH, sS, sD, sL, sP, h8, tx94, tx95, h97, tx183, h185, tx271, h272, h273, h275, tx276, h278, tx279, h280]
                    try omega
                  rw [hf]
                  exact z_iret hE hH hS rfl ⟨⟨_, _, _, _, _, _, _, _, _, _, _, hM4, hU, hL, hK⟩, hF6⟩ dX6_paste_104
              · refine lv_bipush (v := (-2)) hx hb dX6_paste_88 (by decide) ?_
                have hf : (fPaste σ (nI x') (nI y') (nI wd') (nI ht') (nI p') q).1 = ((-2), (σ.1, σ.2.1, σ.2.2.1, σ.2.2.2.1, σ.2.2.2.2.1, σ.2.2.2.2.2.1, σ.2.2.2.2.2.2)) := by
                  simp [fPaste, chg, sV, sN, sH, sS, sD, sL, sP, h8, tx94, tx95, h97, tx183, h185, tx271, h272, h273, h275, tx276, h278]
                  try omega
                rw [hf]
                exact z_iret hE hH hS rfl ⟨⟨_, _, _, _, _, _, _, _, _, _, _, hM4, hU, hL, hK⟩, hF6⟩ dX6_paste_90
          · refine lv_iconst (v := (-1)) hx hb dX6_paste_63 (by decide) ?_
            have hf : (fPaste σ (nI x') (nI y') (nI wd') (nI ht') p q).1 = ((-1), (σ.1, σ.2.1, σ.2.2.1, σ.2.2.2.1, σ.2.2.2.2.1, σ.2.2.2.2.2.1, σ.2.2.2.2.2.2)) := by
              refine fPaste_no (fun q1 q2 q3 => ?_)
              first
                | exact absurd (q1.symm.trans h273) (by decide)
                | exact absurd ((wi_mono (by decide) (by decide) (by omega) q2).symm.trans h273) (by decide)
                | exact absurd ((wi_mono (by decide) (by decide) (by omega) q3).symm.trans h273) (by decide)
                | exact wi_not (by omega) (by decide) (by omega) q2
                | exact wi_not (by omega) (by decide) (by omega) q3
            rw [hf]
            exact z_iret hE hH hS rfl ⟨⟨_, _, _, _, _, _, _, _, _, _, _, hM4, hU, hL, hK⟩, hF6⟩ dX6_paste_64
        · refine lv_iload_n hx hb dX6_paste_42 rfl (lv_at hl 2 rfl) ?_
          refine lv_iload hx hb dX6_paste_43 (lv_at hl 4 rfl) ?_
          refine n_iadd hx hb dX6_paste_45 ?_
          refine n_bipush hx hb 6 dX6_paste_46 (by decide) ?_
          refine n_cmp_gt (tgt := 55) hx hb (by omega) (by decide) dX6_paste_48 (by decide) (fun h358 => ?_) (fun h358 => ?_)
          · refine n_iconst hx hb 0 dX6_paste_55 (by decide) ?_
            refine lv_istore (lv' := [(7, .int (nI 0)), (0, .ref d), (1, .int (nI x')), (2, .int (nI y')), (3, .int (nI wd')), (4, .int (nI ht')), (5, .int p), (6, .int q)]) hx hb dX6_paste_56 hl (by decide) rfl (fun ls hl => ?_)
            refine lv_iload hx hb dX6_paste_58 (lv_at hl 0 rfl) ?_
            refine n_if_ne (tgt := 65) hx hb (by decide) dX6_paste_60 (by decide) (fun h359 => ?_) (fun h359 => ?_)
            · refine lv_iload hx hb dX6_paste_65 (lv_at hl 6 rfl) ?_
              refine n_iconst hx hb 1 dX6_paste_67 (by decide) ?_
              refine n_sipush hx hb 999 dX6_paste_68 (by decide) ?_
              refine z_callS (rest := []) (st2 := [.int (zb (wi p (nI 1) (nI 999)))]) hE hH hS hB0 hl ca_X6_in mkX6_42 (c_X6_in l G B0 M3 p (nI 1) (nI 999)) rfl rfl rfl ⟨Nat.le_of_ble_eq_true rfl, Nat.le_of_ble_eq_true rfl⟩ (Nat.le_of_ble_eq_true rfl) ⟨Nat.le_refl _, Nat.le_refl _⟩ dX6_paste_71 (fun H locs M1 hH hp hS => ?_)
              subst hp
              refine b_if_eq (tgt := 88) hx hb dX6_paste_74 (by decide) (fun h361 => ?_) (fun h361 => ?_)
              · refine lv_bipush (v := (-2)) hx hb dX6_paste_88 (by decide) ?_
                have hf : (fPaste σ (nI x') (nI y') (nI wd') (nI ht') p q).1 = ((-2), (σ.1, σ.2.1, σ.2.2.1, σ.2.2.2.1, σ.2.2.2.2.1, σ.2.2.2.2.2.1, σ.2.2.2.2.2.2)) := by
                  simp [fPaste, chg, sV, sN, sH, sS, sD, sL, sP, h8, tx94, tx95, h97, tx183, h185, tx271, h272, h358, h359, h361]
                  try omega
                rw [hf]
                exact z_iret hE hH hS rfl ⟨⟨_, _, _, _, _, _, _, _, _, _, _, hM4, hU, hL, hK⟩, hF6⟩ dX6_paste_90
              · obtain ⟨p', rfl, p1, p2⟩ := wi_nat (by decide) (by decide) h361
                have tx362 : tn (nI p') = p' := tn_nI (by omega)
                refine lv_iload hx hb dX6_paste_77 (lv_at hl 7 rfl) ?_
                refine n_iconst hx hb 1 dX6_paste_79 (by decide) ?_
                refine n_bipush hx hb 99 dX6_paste_80 (by decide) ?_
                refine z_callS (rest := []) (st2 := [.int (zb (wi q (nI 1) (nI 99)))]) hE hH hS hB0 hl ca_X6_in mkX6_42 (c_X6_in l G B0 M3 q (nI 1) (nI 99)) rfl rfl rfl ⟨Nat.le_of_ble_eq_true rfl, Nat.le_of_ble_eq_true rfl⟩ (Nat.le_of_ble_eq_true rfl) ⟨Nat.le_refl _, Nat.le_refl _⟩ dX6_paste_82 (fun H locs M1 hH hp hS => ?_)
                subst hp
                refine b_if_ne (tgt := 91) hx hb dX6_paste_85 (by decide) (fun h364 => ?_) (fun h364 => ?_)
                · obtain ⟨q', rfl, q1, q2⟩ := wi_nat (by decide) (by decide) h364
                  have tx365 : tn (nI q') = q' := tn_nI (by omega)
                  refine lv_aload_n hx hb dX6_paste_91 rfl (lv_at hl 1 rfl) ?_
                  refine z_get (T := TX6) (v := .ref (d + 1)) hE hH hM4.1 rfl uw_X6 1 (by decide) fkX6_7 rfl dX6_paste_92 ?_
                  refine n_iconst hx hb 0 dX6_paste_95 (by decide) ?_
                  refine z_iald hE hH hA5 (k := 0) (by omega) (by decide) dX6_paste_96 ?_
                  refine n_bipush hx hb 12 dX6_paste_97 (by decide) ?_
                  refine n_cmp_ne (tgt := 105) hx hb (by omega) (by decide) dX6_paste_99 (by decide) (fun h366 => ?_) (fun h366 => ?_)
                  · refine lv_aload_n hx hb dX6_paste_105 rfl (lv_at hl 1 rfl) ?_
                    refine z_callV (rest := []) (st2 := []) hE hH hS hB0 hl ca_X6_records mkX6_81 (c_X6_records l G B0 M3 d (nI 0) (nI σ.2.2.2.2.2.1) at' w bm σ.2.1 σ.2.2.1 σ.1 A U L K (fun i => nI (σ.2.2.2.2.2.2 i)) SE SH BU hM4 hv (by omega) hn6 hU) hM4.1 rfl rfl rfl rfl rfl ⟨Nat.le_of_ble_eq_true rfl, Nat.le_of_ble_eq_true rfl⟩ (Nat.le_of_ble_eq_true rfl) ⟨Nat.le_refl _, Nat.le_refl _⟩ dX6_paste_106 (fun H locs M367 hH hp hS => ?_)
                    obtain ⟨U368, hM369, hU372, hG370⟩ := hp
                    have hA373 := hM369.s (fun _ _ => rfl)
                    have hF371 := fun q hq => (hG370 q hq).trans (hF6 q hq)
                    refine lv_aload_n hx hb dX6_paste_109 rfl (lv_at hl 1 rfl) ?_
                    refine z_get (T := TX6) (v := .ref (d + 1)) hE hH hM369.1 rfl uw_X6 1 (by decide) fkX6_7 rfl dX6_paste_110 ?_
                    refine n_iconst hx hb 0 dX6_paste_113 (by decide) ?_
                    refine z_iald hE hH hA373 (k := 0) (by omega) (by decide) dX6_paste_114 ?_
                    refine lv_istore (lv' := [(8, .int (nI (σ.1 (0)))), (7, .int (nI 0)), (0, .ref d), (1, .int (nI x')), (2, .int (nI y')), (3, .int (nI wd')), (4, .int (nI ht')), (5, .int (nI p')), (6, .int (nI q'))]) hx hb dX6_paste_115 hl (by decide) rfl (fun ls hl => ?_)
                    refine lv_aload_n hx hb dX6_paste_117 rfl (lv_at hl 2 rfl) ?_
                    refine z_get (T := TX6) (v := .ref (d + 1)) hE hH hM369.1 rfl uw_X6 1 (by decide) fkX6_7 rfl dX6_paste_118 ?_
                    refine n_iconst hx hb 0 dX6_paste_121 (by decide) ?_
                    refine lv_dup2_11 hx hb dX6_paste_122 rfl rfl ?_
                    refine z_iald hE hH hA373 (k := 0) (by omega) (by decide) dX6_paste_123 ?_
                    refine n_iconst hx hb 1 dX6_paste_124 (by decide) ?_
                    refine n_iadd hx hb dX6_paste_125 ?_
                    refine z_iast hE hH hS hA373 (k := 0) (by omega) (by decide) (by omega) dX6_paste_126 (fun H locs M376 hH hS e374 o375 => ?_)
                    have hM377 : Md G d (sg (nI 0) (nI (keepN σ.2.1)) (nI σ.2.2.2.2.2.1) at' w bm) (xs (vset σ.1 (0) ((σ.1 (0)) + 1)) A U368 L K (fun i => nI (σ.2.2.2.2.2.2 i)) SE SH BU) M376 := Md.setJ (j := 1) hM369 (by decide) (zArr.to e374 (fun q _ => by show (if q = _ then nI _ else nI _) = nI (fset _ _ _ q); unfold fset; by_cases hq : q = 0 <;> (first | (simp [hq]; done) | (rw [if_pos hq, if_pos hq]; rfl) | (rw [if_neg hq, if_neg hq]; rfl)))) (fun i hi => by unfold xs; split <;> first | rfl | exact absurd rfl hi) o375
                    have hA379 := hM377.s (fun _ _ => rfl)
                    have hF380 := fun q hq => (o375 q (by omega)).trans (hF371 q hq)
                    refine n_bipush hx hb 14 dX6_paste_127 (by decide) ?_
                    refine n_bipush hx hb 7 dX6_paste_129 (by decide) ?_
                    refine lv_iload hx hb dX6_paste_131 (lv_at hl 0 rfl) ?_
                    refine n_imul hx hb dX6_paste_133 ?_
                    refine n_iadd hx hb dX6_paste_134 ?_
                    refine lv_istore (lv' := [(9, .int (nI (14 + (7 * (σ.1 (0)))))), (8, .int (nI (σ.1 (0)))), (7, .int (nI 0)), (0, .ref d), (1, .int (nI x')), (2, .int (nI y')), (3, .int (nI wd')), (4, .int (nI ht')), (5, .int (nI p')), (6, .int (nI q'))]) hx hb dX6_paste_135 hl (by decide) rfl (fun ls hl => ?_)
                    refine lv_aload_n hx hb dX6_paste_137 rfl (lv_at hl 3 rfl) ?_
                    refine z_get (T := TX6) (v := .ref (d + 1)) hE hH hM377.1 rfl uw_X6 1 (by decide) fkX6_7 rfl dX6_paste_138 ?_
                    refine lv_iload hx hb dX6_paste_141 (lv_at hl 0 rfl) ?_
                    refine n_iconst hx hb 0 dX6_paste_143 (by decide) ?_
                    refine n_iadd hx hb dX6_paste_144 ?_
                    refine lv_iload_n hx hb dX6_paste_145 rfl (lv_at hl 4 rfl) ?_
                    refine z_iast hE hH hS hA379 (k := (14 + (7 * (σ.1 (0)))) + 0) (by omega) (by decide) (by omega) dX6_paste_146 (fun H locs M383 hH hS e381 o382 => ?_)
                    have hM384 : Md G d (sg (nI 0) (nI (keepN σ.2.1)) (nI σ.2.2.2.2.2.1) at' w bm) (xs (vset (vset σ.1 (0) ((σ.1 (0)) + 1)) ((14 + (7 * (σ.1 (0)))) + 0) x') A U368 L K (fun i => nI (σ.2.2.2.2.2.2 i)) SE SH BU) M383 := Md.setJ (j := 1) hM377 (by decide) (zArr.to e381 (fun q _ => by show (if q = _ then nI _ else nI _) = nI (fset _ _ _ q); unfold fset; by_cases hq : q = (14 + (7 * (σ.1 (0)))) + 0 <;> (first | (simp [hq]; done) | (rw [if_pos hq, if_pos hq]; rfl) | (rw [if_neg hq, if_neg hq]; rfl)))) (fun i hi => by unfold xs; split <;> first | rfl | exact absurd rfl hi) o382
                    have hA386 := hM384.s (fun _ _ => rfl)
                    have hF387 := fun q hq => (o382 q (by omega)).trans (hF380 q hq)
                    refine lv_aload_n hx hb dX6_paste_147 rfl (lv_at hl 3 rfl) ?_
                    refine z_get (T := TX6) (v := .ref (d + 1)) hE hH hM384.1 rfl uw_X6 1 (by decide) fkX6_7 rfl dX6_paste_148 ?_
                    refine lv_iload hx hb dX6_paste_151 (lv_at hl 0 rfl) ?_
                    refine n_iconst hx hb 1 dX6_paste_153 (by decide) ?_
                    refine n_iadd hx hb dX6_paste_154 ?_
                    refine lv_iload_n hx hb dX6_paste_155 rfl (lv_at hl 5 rfl) ?_
                    refine z_iast hE hH hS hA386 (k := (14 + (7 * (σ.1 (0)))) + 1) (by omega) (by decide) (by omega) dX6_paste_156 (fun H locs M390 hH hS e388 o389 => ?_)
                    have hM391 : Md G d (sg (nI 0) (nI (keepN σ.2.1)) (nI σ.2.2.2.2.2.1) at' w bm) (xs (vset (vset (vset σ.1 (0) ((σ.1 (0)) + 1)) ((14 + (7 * (σ.1 (0)))) + 0) x') ((14 + (7 * (σ.1 (0)))) + 1) y') A U368 L K (fun i => nI (σ.2.2.2.2.2.2 i)) SE SH BU) M390 := Md.setJ (j := 1) hM384 (by decide) (zArr.to e388 (fun q _ => by show (if q = _ then nI _ else nI _) = nI (fset _ _ _ q); unfold fset; by_cases hq : q = (14 + (7 * (σ.1 (0)))) + 1 <;> (first | (simp [hq]; done) | (rw [if_pos hq, if_pos hq]; rfl) | (rw [if_neg hq, if_neg hq]; rfl)))) (fun i hi => by unfold xs; split <;> first | rfl | exact absurd rfl hi) o389
                    have hA393 := hM391.s (fun _ _ => rfl)
                    have hF394 := fun q hq => (o389 q (by omega)).trans (hF387 q hq)
                    refine lv_aload_n hx hb dX6_paste_157 rfl (lv_at hl 3 rfl) ?_
                    refine z_get (T := TX6) (v := .ref (d + 1)) hE hH hM391.1 rfl uw_X6 1 (by decide) fkX6_7 rfl dX6_paste_158 ?_
                    refine lv_iload hx hb dX6_paste_161 (lv_at hl 0 rfl) ?_
                    refine n_iconst hx hb 2 dX6_paste_163 (by decide) ?_
                    refine n_iadd hx hb dX6_paste_164 ?_
                    refine lv_iload_n hx hb dX6_paste_165 rfl (lv_at hl 6 rfl) ?_
                    refine z_iast hE hH hS hA393 (k := (14 + (7 * (σ.1 (0)))) + 2) (by omega) (by decide) (by omega) dX6_paste_166 (fun H locs M397 hH hS e395 o396 => ?_)
                    have hM398 : Md G d (sg (nI 0) (nI (keepN σ.2.1)) (nI σ.2.2.2.2.2.1) at' w bm) (xs (vset (vset (vset (vset σ.1 (0) ((σ.1 (0)) + 1)) ((14 + (7 * (σ.1 (0)))) + 0) x') ((14 + (7 * (σ.1 (0)))) + 1) y') ((14 + (7 * (σ.1 (0)))) + 2) wd') A U368 L K (fun i => nI (σ.2.2.2.2.2.2 i)) SE SH BU) M397 := Md.setJ (j := 1) hM391 (by decide) (zArr.to e395 (fun q _ => by show (if q = _ then nI _ else nI _) = nI (fset _ _ _ q); unfold fset; by_cases hq : q = (14 + (7 * (σ.1 (0)))) + 2 <;> (first | (simp [hq]; done) | (rw [if_pos hq, if_pos hq]; rfl) | (rw [if_neg hq, if_neg hq]; rfl)))) (fun i hi => by unfold xs; split <;> first | rfl | exact absurd rfl hi) o396
                    have hA400 := hM398.s (fun _ _ => rfl)
                    have hF401 := fun q hq => (o396 q (by omega)).trans (hF394 q hq)
                    refine lv_aload_n hx hb dX6_paste_167 rfl (lv_at hl 3 rfl) ?_
                    refine z_get (T := TX6) (v := .ref (d + 1)) hE hH hM398.1 rfl uw_X6 1 (by decide) fkX6_7 rfl dX6_paste_168 ?_
                    refine lv_iload hx hb dX6_paste_171 (lv_at hl 0 rfl) ?_
                    refine n_iconst hx hb 3 dX6_paste_173 (by decide) ?_
                    refine n_iadd hx hb dX6_paste_174 ?_
                    refine lv_iload hx hb dX6_paste_175 (lv_at hl 7 rfl) ?_
                    refine z_iast hE hH hS hA400 (k := (14 + (7 * (σ.1 (0)))) + 3) (by omega) (by decide) (by omega) dX6_paste_177 (fun H locs M404 hH hS e402 o403 => ?_)
                    have hM405 : Md G d (sg (nI 0) (nI (keepN σ.2.1)) (nI σ.2.2.2.2.2.1) at' w bm) (xs (vset (vset (vset (vset (vset σ.1 (0) ((σ.1 (0)) + 1)) ((14 + (7 * (σ.1 (0)))) + 0) x') ((14 + (7 * (σ.1 (0)))) + 1) y') ((14 + (7 * (σ.1 (0)))) + 2) wd') ((14 + (7 * (σ.1 (0)))) + 3) ht') A U368 L K (fun i => nI (σ.2.2.2.2.2.2 i)) SE SH BU) M404 := Md.setJ (j := 1) hM398 (by decide) (zArr.to e402 (fun q _ => by show (if q = _ then nI _ else nI _) = nI (fset _ _ _ q); unfold fset; by_cases hq : q = (14 + (7 * (σ.1 (0)))) + 3 <;> (first | (simp [hq]; done) | (rw [if_pos hq, if_pos hq]; rfl) | (rw [if_neg hq, if_neg hq]; rfl)))) (fun i hi => by unfold xs; split <;> first | rfl | exact absurd rfl hi) o403
                    have hA407 := hM405.s (fun _ _ => rfl)
                    have hF408 := fun q hq => (o403 q (by omega)).trans (hF401 q hq)
                    refine lv_aload_n hx hb dX6_paste_178 rfl (lv_at hl 3 rfl) ?_
                    refine z_get (T := TX6) (v := .ref (d + 1)) hE hH hM405.1 rfl uw_X6 1 (by decide) fkX6_7 rfl dX6_paste_179 ?_
                    refine lv_iload hx hb dX6_paste_182 (lv_at hl 0 rfl) ?_
                    refine n_iconst hx hb 4 dX6_paste_184 (by decide) ?_
                    refine n_iadd hx hb dX6_paste_185 ?_
                    refine lv_iload hx hb dX6_paste_186 (lv_at hl 8 rfl) ?_
                    refine z_iast hE hH hS hA407 (k := (14 + (7 * (σ.1 (0)))) + 4) (by omega) (by decide) (by omega) dX6_paste_188 (fun H locs M411 hH hS e409 o410 => ?_)
                    have hM412 : Md G d (sg (nI 0) (nI (keepN σ.2.1)) (nI σ.2.2.2.2.2.1) at' w bm) (xs (vset (vset (vset (vset (vset (vset σ.1 (0) ((σ.1 (0)) + 1)) ((14 + (7 * (σ.1 (0)))) + 0) x') ((14 + (7 * (σ.1 (0)))) + 1) y') ((14 + (7 * (σ.1 (0)))) + 2) wd') ((14 + (7 * (σ.1 (0)))) + 3) ht') ((14 + (7 * (σ.1 (0)))) + 4) p') A U368 L K (fun i => nI (σ.2.2.2.2.2.2 i)) SE SH BU) M411 := Md.setJ (j := 1) hM405 (by decide) (zArr.to e409 (fun q _ => by show (if q = _ then nI _ else nI _) = nI (fset _ _ _ q); unfold fset; by_cases hq : q = (14 + (7 * (σ.1 (0)))) + 4 <;> (first | (simp [hq]; done) | (rw [if_pos hq, if_pos hq]; rfl) | (rw [if_neg hq, if_neg hq]; rfl)))) (fun i hi => by unfold xs; split <;> first | rfl | exact absurd rfl hi) o410
                    have hA414 := hM412.s (fun _ _ => rfl)
                    have hF415 := fun q hq => (o410 q (by omega)).trans (hF408 q hq)
                    refine lv_aload_n hx hb dX6_paste_189 rfl (lv_at hl 3 rfl) ?_
                    refine z_get (T := TX6) (v := .ref (d + 1)) hE hH hM412.1 rfl uw_X6 1 (by decide) fkX6_7 rfl dX6_paste_190 ?_
                    refine lv_iload hx hb dX6_paste_193 (lv_at hl 0 rfl) ?_
                    refine n_iconst hx hb 5 dX6_paste_195 (by decide) ?_
                    refine n_iadd hx hb dX6_paste_196 ?_
                    refine n_iconst hx hb 0 dX6_paste_197 (by decide) ?_
                    refine z_iast hE hH hS hA414 (k := (14 + (7 * (σ.1 (0)))) + 5) (by omega) (by decide) (by omega) dX6_paste_198 (fun H locs M418 hH hS e416 o417 => ?_)
                    have hM419 : Md G d (sg (nI 0) (nI (keepN σ.2.1)) (nI σ.2.2.2.2.2.1) at' w bm) (xs (vset (vset (vset (vset (vset (vset (vset σ.1 (0) ((σ.1 (0)) + 1)) ((14 + (7 * (σ.1 (0)))) + 0) x') ((14 + (7 * (σ.1 (0)))) + 1) y') ((14 + (7 * (σ.1 (0)))) + 2) wd') ((14 + (7 * (σ.1 (0)))) + 3) ht') ((14 + (7 * (σ.1 (0)))) + 4) p') ((14 + (7 * (σ.1 (0)))) + 5) 0) A U368 L K (fun i => nI (σ.2.2.2.2.2.2 i)) SE SH BU) M418 := Md.setJ (j := 1) hM412 (by decide) (zArr.to e416 (fun q _ => by show (if q = _ then nI _ else nI _) = nI (fset _ _ _ q); unfold fset; by_cases hq : q = (14 + (7 * (σ.1 (0)))) + 5 <;> (first | (simp [hq]; done) | (rw [if_pos hq, if_pos hq]; rfl) | (rw [if_neg hq, if_neg hq]; rfl)))) (fun i hi => by unfold xs; split <;> first | rfl | exact absurd rfl hi) o417
                    have hA421 := hM419.s (fun _ _ => rfl)
                    have hF422 := fun q hq => (o417 q (by omega)).trans (hF415 q hq)
                    refine lv_aload_n hx hb dX6_paste_199 rfl (lv_at hl 3 rfl) ?_
                    refine z_get (T := TX6) (v := .ref (d + 1)) hE hH hM419.1 rfl uw_X6 1 (by decide) fkX6_7 rfl dX6_paste_200 ?_
                    refine lv_iload hx hb dX6_paste_203 (lv_at hl 0 rfl) ?_
                    refine n_bipush hx hb 6 dX6_paste_205 (by decide) ?_
                    refine n_iadd hx hb dX6_paste_207 ?_
                    refine n_iconst hx hb 0 dX6_paste_208 (by decide) ?_
                    refine z_iast hE hH hS hA421 (k := (14 + (7 * (σ.1 (0)))) + 6) (by omega) (by decide) (by omega) dX6_paste_209 (fun H locs M425 hH hS e423 o424 => ?_)
                    have hM426 : Md G d (sg (nI 0) (nI (keepN σ.2.1)) (nI σ.2.2.2.2.2.1) at' w bm) (xs (vset (vset (vset (vset (vset (vset (vset (vset σ.1 (0) ((σ.1 (0)) + 1)) ((14 + (7 * (σ.1 (0)))) + 0) x') ((14 + (7 * (σ.1 (0)))) + 1) y') ((14 + (7 * (σ.1 (0)))) + 2) wd') ((14 + (7 * (σ.1 (0)))) + 3) ht') ((14 + (7 * (σ.1 (0)))) + 4) p') ((14 + (7 * (σ.1 (0)))) + 5) 0) ((14 + (7 * (σ.1 (0)))) + 6) 0) A U368 L K (fun i => nI (σ.2.2.2.2.2.2 i)) SE SH BU) M425 := Md.setJ (j := 1) hM419 (by decide) (zArr.to e423 (fun q _ => by show (if q = _ then nI _ else nI _) = nI (fset _ _ _ q); unfold fset; by_cases hq : q = (14 + (7 * (σ.1 (0)))) + 6 <;> (first | (simp [hq]; done) | (rw [if_pos hq, if_pos hq]; rfl) | (rw [if_neg hq, if_neg hq]; rfl)))) (fun i hi => by unfold xs; split <;> first | rfl | exact absurd rfl hi) o424
                    have hA428 := hM426.s (fun _ _ => rfl)
                    have hF429 := fun q hq => (o424 q (by omega)).trans (hF422 q hq)
                    refine n_iconst hx hb 0 dX6_paste_210 (by decide) ?_
                    refine lv_istore (lv' := [(10, .int (nI 0)), (9, .int (nI (14 + (7 * (σ.1 (0)))))), (8, .int (nI (σ.1 (0)))), (7, .int (nI 0)), (0, .ref d), (1, .int (nI x')), (2, .int (nI y')), (3, .int (nI wd')), (4, .int (nI ht')), (5, .int (nI p')), (6, .int (nI q'))]) hx hb dX6_paste_211 hl (by decide) rfl (fun ls hl => ?_)
                    have L213 : ∀ (dd : Nat) (k : Nat) (u : Wv) (M1 : Mm), 60 < k + dd → (k ≤ 60) → (Md G d (sg (nI 0) (nI (keepN σ.2.1)) (nI σ.2.2.2.2.2.1) at' w bm) (xs u A U18 L K (fun i => nI (σ.2.2.2.2.2.2 i)) SE SH BU) M1) → (∀ q, (q < d ∨ d + 10 ≤ q) → M1 q = M q) → (∀ i, u i = pstV σ.1 x' y' wd' ht' p' q' k i) → ∀ (H : Heap) (locs : List Loc), zH G M1 H → zS 0 B0 s.heap H locs → ∀ (ls : Array Slot), lv_has ls 11 [(0, .ref d), (6, .int (nI q')), (8, .int (nI (σ.1 0))), (10, .int (nI k))] → zW pg l ev 5 0 0 s m [.ref d, .int (nI x'), .int (nI y'), .int (nI wd'), .int (nI ht'), .int (nI p'), .int (nI q')] below meth cd H locs 0 0 G B0 (some (.int ((fPaste σ (nI x') (nI y') (nI wd') (nI ht') (nI p') (nI q')).1))) (fun M1 => Mo G d (fPaste σ (nI x') (nI y') (nI wd') (nI ht') (nI p') (nI q')).2 M1 ∧ ∀ (nI q'), ((nI q') < d ∨ d + 10 ≤ (nI q')) → M1 (nI q') = M (nI q')) (F0 m 213 ls []) := by
                      intro dd
                      induction dd with
                      | zero =>
                        intro k u M1 hdd hk hM1 hF1 hu
                        exact absurd hdd (by omega)
                      | succ dd ih =>
                        intro k u M1 hdd hk hM1 hF1 hu H locs hH hS ls hl
                        have hA1 : zArr G 0 M1 (d + 1) 818 (fun i => nI (u i)) := hM1.s (fun _ _ => rfl)
                        obtain ⟨hu0, r0, r1, r2, r3⟩ := pst_at hu
                        have hqr : 1 ≤ pv u (σ.1 0) 2 ∧ pv u (σ.1 0) 0 + pv u (σ.1 0) 2 ≤ 10 ∧ 1 ≤ pv u (σ.1 0) 3 ∧ pv u (σ.1 0) 1 + pv u (σ.1 0) 3 ≤ 6 := by rw [r0, r1, r2, r3]; omega
                        refine lv_iload hx hb dX6_paste_213 (lv_at hl 3 rfl) ?_
                        refine n_bipush hx hb 60 dX6_paste_215 (by decide) ?_
                        refine n_cmp_ge (tgt := 251) hx hb (by omega) (by decide) dX6_paste_217 (by decide) (fun h430 => ?_) (fun h430 => ?_)
                        · refine lv_iload hx hb dX6_paste_251 (lv_at hl 2 rfl) ?_
                          have hf : (fPaste σ (nI x') (nI y') (nI wd') (nI ht') (nI p') (nI q')).1 = ((nI (σ.1 0)), (pasteV σ.1 x' y' wd' ht' p' q', keepN σ.2.1, keepH σ.2.2.1 σ.2.1 σ.1, σ.2.2.2.1, σ.2.2.2.2.1, σ.2.2.2.2.2.1, σ.2.2.2.2.2.2)) := by
                            simp [fPaste, chg, sV, sN, sH, sS, sD, sL, sP, h8, tx94, tx95, h97, tx183, h185, tx271, h272, h358, h359, h361, tx362, h364, tx365, h366, h430]
                            try omega
                          rw [hf]
                          have hkk : k = 60 := by omega
                          subst hkk
                          exact z_iret hE hH hS rfl ⟨⟨_, _, _, _, _, _, _, _, _, _, _, hM1.to (j := 1) (fun i hi => congrArg nI ((hu i).trans (pst_e i))) (fun i hi => by unfold xs; split <;> first | rfl | exact absurd rfl hi), hU372, hL, hK⟩, hF1⟩ dX6_paste_253
                        · refine lv_aload_n hx hb dX6_paste_220 rfl (lv_at hl 0 rfl) ?_
                          refine lv_iload hx hb dX6_paste_221 (lv_at hl 2 rfl) ?_
                          refine lv_iload hx hb dX6_paste_223 (lv_at hl 3 rfl) ?_
                          refine lv_aload_n hx hb dX6_paste_225 rfl (lv_at hl 0 rfl) ?_
                          refine lv_iload hx hb dX6_paste_226 (lv_at hl 2 rfl) ?_
                          refine lv_iload hx hb dX6_paste_228 (lv_at hl 3 rfl) ?_
                          refine z_callV (rest := [.int (nI k), .int (nI (σ.1 0)), .ref d]) (st2 := [.int (zb (liesN (pv u (σ.1 0)) (k % 10) (k / 10))), .int (nI k), .int (nI (σ.1 0)), .ref d]) hE hH hS hB0 hl ca_X6_lies mkX6_53 (c_X6_lies0 l G B0 M1 d (sg (nI 0) (nI (keepN σ.2.1)) (nI σ.2.2.2.2.2.1) at' w bm) (xs u A U368 L K (fun i => nI (σ.2.2.2.2.2.2 i)) SE SH BU) hM1 u (fun _ _ => rfl) (σ.1 0) k (by omega) hqr (by omega)) hM1.1 rfl rfl rfl rfl rfl ⟨Nat.le_of_ble_eq_true rfl, Nat.le_of_ble_eq_true rfl⟩ (Nat.le_of_ble_eq_true rfl) ⟨Nat.le_refl _, Nat.le_refl _⟩ dX6_paste_230 (fun H locs M1 hH hp hS => ?_)
                          subst hp
                          refine b_if_eq (tgt := 241) hx hb dX6_paste_233 (by decide) (fun h433 => ?_) (fun h433 => ?_)
                          · refine n_iconst hx hb 0 dX6_paste_241 (by decide) ?_
                            refine z_callV (rest := []) (st2 := []) hE hH hS hB0 hl ca_X6_lays mkX6_63 (c_X6_lays0 l G B0 M1 d (sg (nI 0) (nI (keepN σ.2.1)) (nI σ.2.2.2.2.2.1) at' w bm) u A U368 L K (fun i => nI (σ.2.2.2.2.2.2 i)) SE SH BU hM1 (by omega) (σ.1 0) k 0 (by omega) (by omega)) hM1.1 rfl rfl rfl rfl rfl ⟨Nat.le_of_ble_eq_true rfl, Nat.le_of_ble_eq_true rfl⟩ (Nat.le_of_ble_eq_true rfl) ⟨Nat.le_refl _, Nat.le_refl _⟩ dX6_paste_242 (fun H locs M434 hH hp hS => ?_)
                            obtain ⟨hM435, hG436⟩ := hp
                            have hA438 := hM435.s (fun _ _ => rfl)
                            have hF437 := fun q hq => (hG436 q hq).trans (hF1 q hq)
                            refine lv_iinc (v := (nI (k + 1))) (lv' := [(10, .int (nI (k + 1))), (0, .ref d), (6, .int (nI q')), (8, .int (nI (σ.1 0)))]) hx hb dX6_paste_245 hl (k := 3) rfl (nI_inc _) (by decide) rfl (fun ls hl => ?_)
                            refine lv_goto (tgt := 213) hx hb dX6_paste_248 (by decide) ?_
                            exact ih  (k + 1) (vset u (98 + 60 * (σ.1 0) + k) 0) M434 (by omega) (by omega) hM435 hF437 (pst_s hu (by rw [if_neg (by rw [h433]; decide)])) _ _ hH hS _ (lv_sub hl [1, 2, 3, 0] rfl)
                          · refine lv_iload hx hb dX6_paste_236 (lv_at hl 1 rfl) ?_
                            refine lv_goto (tgt := 242) hx hb dX6_paste_238 (by decide) ?_
                            refine z_callV (rest := []) (st2 := []) hE hH hS hB0 hl ca_X6_lays mkX6_63 (c_X6_lays0 l G B0 M1 d (sg (nI 0) (nI (keepN σ.2.1)) (nI σ.2.2.2.2.2.1) at' w bm) u A U368 L K (fun i => nI (σ.2.2.2.2.2.2 i)) SE SH BU hM1 (by omega) (σ.1 0) k q' (by omega) (by omega)) hM1.1 rfl rfl rfl rfl rfl ⟨Nat.le_of_ble_eq_true rfl, Nat.le_of_ble_eq_true rfl⟩ (Nat.le_of_ble_eq_true rfl) ⟨Nat.le_refl _, Nat.le_refl _⟩ dX6_paste_242 (fun H locs M439 hH hp hS => ?_)
                            obtain ⟨hM440, hG441⟩ := hp
                            have hA443 := hM440.s (fun _ _ => rfl)
                            have hF442 := fun q hq => (hG441 q hq).trans (hF1 q hq)
                            refine lv_iinc (v := (nI (k + 1))) (lv' := [(10, .int (nI (k + 1))), (0, .ref d), (6, .int (nI q')), (8, .int (nI (σ.1 0)))]) hx hb dX6_paste_245 hl (k := 3) rfl (nI_inc _) (by decide) rfl (fun ls hl => ?_)
                            refine lv_goto (tgt := 213) hx hb dX6_paste_248 (by decide) ?_
                            exact ih  (k + 1) (vset u (98 + 60 * (σ.1 0) + k) q') M439 (by omega) (by omega) hM440 hF442 (pst_s hu (by rw [if_pos h433])) _ _ hH hS _ (lv_sub hl [1, 2, 3, 0] rfl)
                    exact L213 61 0 (vset (vset (vset (vset (vset (vset (vset (vset σ.1 (0) ((σ.1 (0)) + 1)) ((14 + (7 * (σ.1 (0)))) + 0) x') ((14 + (7 * (σ.1 (0)))) + 1) y') ((14 + (7 * (σ.1 (0)))) + 2) wd') ((14 + (7 * (σ.1 (0)))) + 3) ht') ((14 + (7 * (σ.1 (0)))) + 4) p') ((14 + (7 * (σ.1 (0)))) + 5) 0) ((14 + (7 * (σ.1 (0)))) + 6) 0) M425 (by omega) (by omega) hM426 hF429 (fun i => pst_0 i) _ _ hH hS _ (lv_sub hl [4, 10, 2, 0] rfl)
                  · refine lv_bipush (v := (-4)) hx hb dX6_paste_102 (by decide) ?_
                    have hf : (fPaste σ (nI x') (nI y') (nI wd') (nI ht') (nI p') (nI q')).1 = ((-4), (σ.1, σ.2.1, σ.2.2.1, σ.2.2.2.1, σ.2.2.2.2.1, σ.2.2.2.2.2.1, σ.2.2.2.2.2.2)) := by
                      simp [fPaste, chg, sV, sN, sH, sS, sD, sL, sP, h8, tx94, tx95, h97, tx183, h185, tx271, h272, h358, h359, h361, tx362, h364, tx365, h366]
                      try omega
                    rw [hf]
                    exact z_iret hE hH hS rfl ⟨⟨_, _, _, _, _, _, _, _, _, _, _, hM4, hU, hL, hK⟩, hF6⟩ dX6_paste_104
                · refine lv_bipush (v := (-2)) hx hb dX6_paste_88 (by decide) ?_
                  have hf : (fPaste σ (nI x') (nI y') (nI wd') (nI ht') (nI p') q).1 = ((-2), (σ.1, σ.2.1, σ.2.2.1, σ.2.2.2.1, σ.2.2.2.2.1, σ.2.2.2.2.2.1, σ.2.2.2.2.2.2)) := by
                    simp [fPaste, chg, sV, sN, sH, sS, sD, sL, sP, h8, tx94, tx95, h97, tx183, h185, tx271, h272, h358, h359, h361, tx362, h364]
                    try omega
                  rw [hf]
                  exact z_iret hE hH hS rfl ⟨⟨_, _, _, _, _, _, _, _, _, _, _, hM4, hU, hL, hK⟩, hF6⟩ dX6_paste_90
            · refine lv_iconst (v := (-1)) hx hb dX6_paste_63 (by decide) ?_
              have hf : (fPaste σ (nI x') (nI y') (nI wd') (nI ht') p q).1 = ((-1), (σ.1, σ.2.1, σ.2.2.1, σ.2.2.2.1, σ.2.2.2.2.1, σ.2.2.2.2.2.1, σ.2.2.2.2.2.2)) := by
                refine fPaste_no (fun q1 q2 q3 => ?_)
                first
                  | exact absurd (q1.symm.trans h359) (by decide)
                  | exact absurd ((wi_mono (by decide) (by decide) (by omega) q2).symm.trans h359) (by decide)
                  | exact absurd ((wi_mono (by decide) (by decide) (by omega) q3).symm.trans h359) (by decide)
                  | exact wi_not (by omega) (by decide) (by omega) q2
                  | exact wi_not (by omega) (by decide) (by omega) q3
              rw [hf]
              exact z_iret hE hH hS rfl ⟨⟨_, _, _, _, _, _, _, _, _, _, _, hM4, hU, hL, hK⟩, hF6⟩ dX6_paste_64
          · have hwd : wi (nI wd') (nI 1) (nI (10 - x')) = true := wi_yes (by omega) (by omega) (by omega)
            have hht : wi (nI ht') (nI 1) (nI (6 - y')) = true := wi_yes (by omega) (by omega) (by omega)
            refine n_iconst hx hb 1 dX6_paste_51 (by decide) ?_
            refine lv_goto (tgt := 56) hx hb dX6_paste_52 (by decide) ?_
            refine lv_istore (lv' := [(7, .int (nI 1)), (0, .ref d), (1, .int (nI x')), (2, .int (nI y')), (3, .int (nI wd')), (4, .int (nI ht')), (5, .int p), (6, .int q)]) hx hb dX6_paste_56 hl (by decide) rfl (fun ls hl => ?_)
            refine lv_iload hx hb dX6_paste_58 (lv_at hl 0 rfl) ?_
            refine n_if_ne (tgt := 65) hx hb (by decide) dX6_paste_60 (by decide) (fun h444 => ?_) (fun h444 => ?_)
            · refine lv_iload hx hb dX6_paste_65 (lv_at hl 6 rfl) ?_
              refine n_iconst hx hb 1 dX6_paste_67 (by decide) ?_
              refine n_sipush hx hb 999 dX6_paste_68 (by decide) ?_
              refine z_callS (rest := []) (st2 := [.int (zb (wi p (nI 1) (nI 999)))]) hE hH hS hB0 hl ca_X6_in mkX6_42 (c_X6_in l G B0 M3 p (nI 1) (nI 999)) rfl rfl rfl ⟨Nat.le_of_ble_eq_true rfl, Nat.le_of_ble_eq_true rfl⟩ (Nat.le_of_ble_eq_true rfl) ⟨Nat.le_refl _, Nat.le_refl _⟩ dX6_paste_71 (fun H locs M1 hH hp hS => ?_)
              subst hp
              refine b_if_eq (tgt := 88) hx hb dX6_paste_74 (by decide) (fun h446 => ?_) (fun h446 => ?_)
              · refine lv_bipush (v := (-2)) hx hb dX6_paste_88 (by decide) ?_
                have hf : (fPaste σ (nI x') (nI y') (nI wd') (nI ht') p q).1 = ((-2), (σ.1, σ.2.1, σ.2.2.1, σ.2.2.2.1, σ.2.2.2.2.1, σ.2.2.2.2.2.1, σ.2.2.2.2.2.2)) := by
                  simp [fPaste, chg, sV, sN, sH, sS, sD, sL, sP, h8, tx94, tx95, h97, tx183, h185, tx271, h272, h358, hwd, hht, h444, h446]
                  try omega
                rw [hf]
                exact z_iret hE hH hS rfl ⟨⟨_, _, _, _, _, _, _, _, _, _, _, hM4, hU, hL, hK⟩, hF6⟩ dX6_paste_90
              · obtain ⟨p', rfl, p1, p2⟩ := wi_nat (by decide) (by decide) h446
                have tx447 : tn (nI p') = p' := tn_nI (by omega)
                refine lv_iload hx hb dX6_paste_77 (lv_at hl 7 rfl) ?_
                refine n_iconst hx hb 1 dX6_paste_79 (by decide) ?_
                refine n_bipush hx hb 99 dX6_paste_80 (by decide) ?_
                refine z_callS (rest := []) (st2 := [.int (zb (wi q (nI 1) (nI 99)))]) hE hH hS hB0 hl ca_X6_in mkX6_42 (c_X6_in l G B0 M3 q (nI 1) (nI 99)) rfl rfl rfl ⟨Nat.le_of_ble_eq_true rfl, Nat.le_of_ble_eq_true rfl⟩ (Nat.le_of_ble_eq_true rfl) ⟨Nat.le_refl _, Nat.le_refl _⟩ dX6_paste_82 (fun H locs M1 hH hp hS => ?_)
                subst hp
                refine b_if_ne (tgt := 91) hx hb dX6_paste_85 (by decide) (fun h449 => ?_) (fun h449 => ?_)
                · obtain ⟨q', rfl, q1, q2⟩ := wi_nat (by decide) (by decide) h449
                  have tx450 : tn (nI q') = q' := tn_nI (by omega)
                  refine lv_aload_n hx hb dX6_paste_91 rfl (lv_at hl 1 rfl) ?_
                  refine z_get (T := TX6) (v := .ref (d + 1)) hE hH hM4.1 rfl uw_X6 1 (by decide) fkX6_7 rfl dX6_paste_92 ?_
                  refine n_iconst hx hb 0 dX6_paste_95 (by decide) ?_
                  refine z_iald hE hH hA5 (k := 0) (by omega) (by decide) dX6_paste_96 ?_
                  refine n_bipush hx hb 12 dX6_paste_97 (by decide) ?_
                  refine n_cmp_ne (tgt := 105) hx hb (by omega) (by decide) dX6_paste_99 (by decide) (fun h451 => ?_) (fun h451 => ?_)
                  · refine lv_aload_n hx hb dX6_paste_105 rfl (lv_at hl 1 rfl) ?_
                    refine z_callV (rest := []) (st2 := []) hE hH hS hB0 hl ca_X6_records mkX6_81 (c_X6_records l G B0 M3 d (nI 0) (nI σ.2.2.2.2.2.1) at' w bm σ.2.1 σ.2.2.1 σ.1 A U L K (fun i => nI (σ.2.2.2.2.2.2 i)) SE SH BU hM4 hv (by omega) hn6 hU) hM4.1 rfl rfl rfl rfl rfl ⟨Nat.le_of_ble_eq_true rfl, Nat.le_of_ble_eq_true rfl⟩ (Nat.le_of_ble_eq_true rfl) ⟨Nat.le_refl _, Nat.le_refl _⟩ dX6_paste_106 (fun H locs M452 hH hp hS => ?_)
                    obtain ⟨U453, hM454, hU457, hG455⟩ := hp
                    have hA458 := hM454.s (fun _ _ => rfl)
                    have hF456 := fun q hq => (hG455 q hq).trans (hF6 q hq)
                    refine lv_aload_n hx hb dX6_paste_109 rfl (lv_at hl 1 rfl) ?_
                    refine z_get (T := TX6) (v := .ref (d + 1)) hE hH hM454.1 rfl uw_X6 1 (by decide) fkX6_7 rfl dX6_paste_110 ?_
                    refine n_iconst hx hb 0 dX6_paste_113 (by decide) ?_
                    refine z_iald hE hH hA458 (k := 0) (by omega) (by decide) dX6_paste_114 ?_
                    refine lv_istore (lv' := [(8, .int (nI (σ.1 (0)))), (7, .int (nI 1)), (0, .ref d), (1, .int (nI x')), (2, .int (nI y')), (3, .int (nI wd')), (4, .int (nI ht')), (5, .int (nI p')), (6, .int (nI q'))]) hx hb dX6_paste_115 hl (by decide) rfl (fun ls hl => ?_)
                    refine lv_aload_n hx hb dX6_paste_117 rfl (lv_at hl 2 rfl) ?_
                    refine z_get (T := TX6) (v := .ref (d + 1)) hE hH hM454.1 rfl uw_X6 1 (by decide) fkX6_7 rfl dX6_paste_118 ?_
                    refine n_iconst hx hb 0 dX6_paste_121 (by decide) ?_
                    refine lv_dup2_11 hx hb dX6_paste_122 rfl rfl ?_
                    refine z_iald hE hH hA458 (k := 0) (by omega) (by decide) dX6_paste_123 ?_
                    refine n_iconst hx hb 1 dX6_paste_124 (by decide) ?_
                    refine n_iadd hx hb dX6_paste_125 ?_
                    refine z_iast hE hH hS hA458 (k := 0) (by omega) (by decide) (by omega) dX6_paste_126 (fun H locs M461 hH hS e459 o460 => ?_)
                    have hM462 : Md G d (sg (nI 0) (nI (keepN σ.2.1)) (nI σ.2.2.2.2.2.1) at' w bm) (xs (vset σ.1 (0) ((σ.1 (0)) + 1)) A U453 L K (fun i => nI (σ.2.2.2.2.2.2 i)) SE SH BU) M461 := Md.setJ (j := 1) hM454 (by decide) (zArr.to e459 (fun q _ => by show (if q = _ then nI _ else nI _) = nI (fset _ _ _ q); unfold fset; by_cases hq : q = 0 <;> (first | (simp [hq]; done) | (rw [if_pos hq, if_pos hq]; rfl) | (rw [if_neg hq, if_neg hq]; rfl)))) (fun i hi => by unfold xs; split <;> first | rfl | exact absurd rfl hi) o460
                    have hA464 := hM462.s (fun _ _ => rfl)
                    have hF465 := fun q hq => (o460 q (by omega)).trans (hF456 q hq)
                    refine n_bipush hx hb 14 dX6_paste_127 (by decide) ?_
                    refine n_bipush hx hb 7 dX6_paste_129 (by decide) ?_
                    refine lv_iload hx hb dX6_paste_131 (lv_at hl 0 rfl) ?_
                    refine n_imul hx hb dX6_paste_133 ?_
                    refine n_iadd hx hb dX6_paste_134 ?_
                    refine lv_istore (lv' := [(9, .int (nI (14 + (7 * (σ.1 (0)))))), (8, .int (nI (σ.1 (0)))), (7, .int (nI 1)), (0, .ref d), (1, .int (nI x')), (2, .int (nI y')), (3, .int (nI wd')), (4, .int (nI ht')), (5, .int (nI p')), (6, .int (nI q'))]) hx hb dX6_paste_135 hl (by decide) rfl (fun ls hl => ?_)
                    refine lv_aload_n hx hb dX6_paste_137 rfl (lv_at hl 3 rfl) ?_
                    refine z_get (T := TX6) (v := .ref (d + 1)) hE hH hM462.1 rfl uw_X6 1 (by decide) fkX6_7 rfl dX6_paste_138 ?_
                    refine lv_iload hx hb dX6_paste_141 (lv_at hl 0 rfl) ?_
                    refine n_iconst hx hb 0 dX6_paste_143 (by decide) ?_
                    refine n_iadd hx hb dX6_paste_144 ?_
                    refine lv_iload_n hx hb dX6_paste_145 rfl (lv_at hl 4 rfl) ?_
                    refine z_iast hE hH hS hA464 (k := (14 + (7 * (σ.1 (0)))) + 0) (by omega) (by decide) (by omega) dX6_paste_146 (fun H locs M468 hH hS e466 o467 => ?_)
                    have hM469 : Md G d (sg (nI 0) (nI (keepN σ.2.1)) (nI σ.2.2.2.2.2.1) at' w bm) (xs (vset (vset σ.1 (0) ((σ.1 (0)) + 1)) ((14 + (7 * (σ.1 (0)))) + 0) x') A U453 L K (fun i => nI (σ.2.2.2.2.2.2 i)) SE SH BU) M468 := Md.setJ (j := 1) hM462 (by decide) (zArr.to e466 (fun q _ => by show (if q = _ then nI _ else nI _) = nI (fset _ _ _ q); unfold fset; by_cases hq : q = (14 + (7 * (σ.1 (0)))) + 0 <;> (first | (simp [hq]; done) | (rw [if_pos hq, if_pos hq]; rfl) | (rw [if_neg hq, if_neg hq]; rfl)))) (fun i hi => by unfold xs; split <;> first | rfl | exact absurd rfl hi) o467
                    have hA471 := hM469.s (fun _ _ => rfl)
                    have hF472 := fun q hq => (o467 q (by omega)).trans (hF465 q hq)
                    refine lv_aload_n hx hb dX6_paste_147 rfl (lv_at hl 3 rfl) ?_
                    refine z_get (T := TX6) (v := .ref (d + 1)) hE hH hM469.1 rfl uw_X6 1 (by decide) fkX6_7 rfl dX6_paste_148 ?_
                    refine lv_iload hx hb dX6_paste_151 (lv_at hl 0 rfl) ?_
                    refine n_iconst hx hb 1 dX6_paste_153 (by decide) ?_
                    refine n_iadd hx hb dX6_paste_154 ?_
                    refine lv_iload_n hx hb dX6_paste_155 rfl (lv_at hl 5 rfl) ?_
                    refine z_iast hE hH hS hA471 (k := (14 + (7 * (σ.1 (0)))) + 1) (by omega) (by decide) (by omega) dX6_paste_156 (fun H locs M475 hH hS e473 o474 => ?_)
                    have hM476 : Md G d (sg (nI 0) (nI (keepN σ.2.1)) (nI σ.2.2.2.2.2.1) at' w bm) (xs (vset (vset (vset σ.1 (0) ((σ.1 (0)) + 1)) ((14 + (7 * (σ.1 (0)))) + 0) x') ((14 + (7 * (σ.1 (0)))) + 1) y') A U453 L K (fun i => nI (σ.2.2.2.2.2.2 i)) SE SH BU) M475 := Md.setJ (j := 1) hM469 (by decide) (zArr.to e473 (fun q _ => by show (if q = _ then nI _ else nI _) = nI (fset _ _ _ q); unfold fset; by_cases hq : q = (14 + (7 * (σ.1 (0)))) + 1 <;> (first | (simp [hq]; done) | (rw [if_pos hq, if_pos hq]; rfl) | (rw [if_neg hq, if_neg hq]; rfl)))) (fun i hi => by unfold xs; split <;> first | rfl | exact absurd rfl hi) o474
                    have hA478 := hM476.s (fun _ _ => rfl)
                    have hF479 := fun q hq => (o474 q (by omega)).trans (hF472 q hq)
                    refine lv_aload_n hx hb dX6_paste_157 rfl (lv_at hl 3 rfl) ?_
                    refine z_get (T := TX6) (v := .ref (d + 1)) hE hH hM476.1 rfl uw_X6 1 (by decide) fkX6_7 rfl dX6_paste_158 ?_
                    refine lv_iload hx hb dX6_paste_161 (lv_at hl 0 rfl) ?_
                    refine n_iconst hx hb 2 dX6_paste_163 (by decide) ?_
                    refine n_iadd hx hb dX6_paste_164 ?_
                    refine lv_iload_n hx hb dX6_paste_165 rfl (lv_at hl 6 rfl) ?_
                    refine z_iast hE hH hS hA478 (k := (14 + (7 * (σ.1 (0)))) + 2) (by omega) (by decide) (by omega) dX6_paste_166 (fun H locs M482 hH hS e480 o481 => ?_)
                    have hM483 : Md G d (sg (nI 0) (nI (keepN σ.2.1)) (nI σ.2.2.2.2.2.1) at' w bm) (xs (vset (vset (vset (vset σ.1 (0) ((σ.1 (0)) + 1)) ((14 + (7 * (σ.1 (0)))) + 0) x') ((14 + (7 * (σ.1 (0)))) + 1) y') ((14 + (7 * (σ.1 (0)))) + 2) wd') A U453 L K (fun i => nI (σ.2.2.2.2.2.2 i)) SE SH BU) M482 := Md.setJ (j := 1) hM476 (by decide) (zArr.to e480 (fun q _ => by show (if q = _ then nI _ else nI _) = nI (fset _ _ _ q); unfold fset; by_cases hq : q = (14 + (7 * (σ.1 (0)))) + 2 <;> (first | (simp [hq]; done) | (rw [if_pos hq, if_pos hq]; rfl) | (rw [if_neg hq, if_neg hq]; rfl)))) (fun i hi => by unfold xs; split <;> first | rfl | exact absurd rfl hi) o481
                    have hA485 := hM483.s (fun _ _ => rfl)
                    have hF486 := fun q hq => (o481 q (by omega)).trans (hF479 q hq)
                    refine lv_aload_n hx hb dX6_paste_167 rfl (lv_at hl 3 rfl) ?_
                    refine z_get (T := TX6) (v := .ref (d + 1)) hE hH hM483.1 rfl uw_X6 1 (by decide) fkX6_7 rfl dX6_paste_168 ?_
                    refine lv_iload hx hb dX6_paste_171 (lv_at hl 0 rfl) ?_
                    refine n_iconst hx hb 3 dX6_paste_173 (by decide) ?_
                    refine n_iadd hx hb dX6_paste_174 ?_
                    refine lv_iload hx hb dX6_paste_175 (lv_at hl 7 rfl) ?_
                    refine z_iast hE hH hS hA485 (k := (14 + (7 * (σ.1 (0)))) + 3) (by omega) (by decide) (by omega) dX6_paste_177 (fun H locs M489 hH hS e487 o488 => ?_)
                    have hM490 : Md G d (sg (nI 0) (nI (keepN σ.2.1)) (nI σ.2.2.2.2.2.1) at' w bm) (xs (vset (vset (vset (vset (vset σ.1 (0) ((σ.1 (0)) + 1)) ((14 + (7 * (σ.1 (0)))) + 0) x') ((14 + (7 * (σ.1 (0)))) + 1) y') ((14 + (7 * (σ.1 (0)))) + 2) wd') ((14 + (7 * (σ.1 (0)))) + 3) ht') A U453 L K (fun i => nI (σ.2.2.2.2.2.2 i)) SE SH BU) M489 := Md.setJ (j := 1) hM483 (by decide) (zArr.to e487 (fun q _ => by show (if q = _ then nI _ else nI _) = nI (fset _ _ _ q); unfold fset; by_cases hq : q = (14 + (7 * (σ.1 (0)))) + 3 <;> (first | (simp [hq]; done) | (rw [if_pos hq, if_pos hq]; rfl) | (rw [if_neg hq, if_neg hq]; rfl)))) (fun i hi => by unfold xs; split <;> first | rfl | exact absurd rfl hi) o488
                    have hA492 := hM490.s (fun _ _ => rfl)
                    have hF493 := fun q hq => (o488 q (by omega)).trans (hF486 q hq)
                    refine lv_aload_n hx hb dX6_paste_178 rfl (lv_at hl 3 rfl) ?_
                    refine z_get (T := TX6) (v := .ref (d + 1)) hE hH hM490.1 rfl uw_X6 1 (by decide) fkX6_7 rfl dX6_paste_179 ?_
                    refine lv_iload hx hb dX6_paste_182 (lv_at hl 0 rfl) ?_
                    refine n_iconst hx hb 4 dX6_paste_184 (by decide) ?_
                    refine n_iadd hx hb dX6_paste_185 ?_
                    refine lv_iload hx hb dX6_paste_186 (lv_at hl 8 rfl) ?_
                    refine z_iast hE hH hS hA492 (k := (14 + (7 * (σ.1 (0)))) + 4) (by omega) (by decide) (by omega) dX6_paste_188 (fun H locs M496 hH hS e494 o495 => ?_)
                    have hM497 : Md G d (sg (nI 0) (nI (keepN σ.2.1)) (nI σ.2.2.2.2.2.1) at' w bm) (xs (vset (vset (vset (vset (vset (vset σ.1 (0) ((σ.1 (0)) + 1)) ((14 + (7 * (σ.1 (0)))) + 0) x') ((14 + (7 * (σ.1 (0)))) + 1) y') ((14 + (7 * (σ.1 (0)))) + 2) wd') ((14 + (7 * (σ.1 (0)))) + 3) ht') ((14 + (7 * (σ.1 (0)))) + 4) p') A U453 L K (fun i => nI (σ.2.2.2.2.2.2 i)) SE SH BU) M496 := Md.setJ (j := 1) hM490 (by decide) (zArr.to e494 (fun q _ => by show (if q = _ then nI _ else nI _) = nI (fset _ _ _ q); unfold fset; by_cases hq : q = (14 + (7 * (σ.1 (0)))) + 4 <;> (first | (simp [hq]; done) | (rw [if_pos hq, if_pos hq]; rfl) | (rw [if_neg hq, if_neg hq]; rfl)))) (fun i hi => by unfold xs; split <;> first | rfl | exact absurd rfl hi) o495
                    have hA499 := hM497.s (fun _ _ => rfl)
                    have hF500 := fun q hq => (o495 q (by omega)).trans (hF493 q hq)
                    refine lv_aload_n hx hb dX6_paste_189 rfl (lv_at hl 3 rfl) ?_
                    refine z_get (T := TX6) (v := .ref (d + 1)) hE hH hM497.1 rfl uw_X6 1 (by decide) fkX6_7 rfl dX6_paste_190 ?_
                    refine lv_iload hx hb dX6_paste_193 (lv_at hl 0 rfl) ?_
                    refine n_iconst hx hb 5 dX6_paste_195 (by decide) ?_
                    refine n_iadd hx hb dX6_paste_196 ?_
                    refine n_iconst hx hb 0 dX6_paste_197 (by decide) ?_
                    refine z_iast hE hH hS hA499 (k := (14 + (7 * (σ.1 (0)))) + 5) (by omega) (by decide) (by omega) dX6_paste_198 (fun H locs M503 hH hS e501 o502 => ?_)
                    have hM504 : Md G d (sg (nI 0) (nI (keepN σ.2.1)) (nI σ.2.2.2.2.2.1) at' w bm) (xs (vset (vset (vset (vset (vset (vset (vset σ.1 (0) ((σ.1 (0)) + 1)) ((14 + (7 * (σ.1 (0)))) + 0) x') ((14 + (7 * (σ.1 (0)))) + 1) y') ((14 + (7 * (σ.1 (0)))) + 2) wd') ((14 + (7 * (σ.1 (0)))) + 3) ht') ((14 + (7 * (σ.1 (0)))) + 4) p') ((14 + (7 * (σ.1 (0)))) + 5) 0) A U453 L K (fun i => nI (σ.2.2.2.2.2.2 i)) SE SH BU) M503 := Md.setJ (j := 1) hM497 (by decide) (zArr.to e501 (fun q _ => by show (if q = _ then nI _ else nI _) = nI (fset _ _ _ q); unfold fset; by_cases hq : q = (14 + (7 * (σ.1 (0)))) + 5 <;> (first | (simp [hq]; done) | (rw [if_pos hq, if_pos hq]; rfl) | (rw [if_neg hq, if_neg hq]; rfl)))) (fun i hi => by unfold xs; split <;> first | rfl | exact absurd rfl hi) o502
                    have hA506 := hM504.s (fun _ _ => rfl)
                    have hF507 := fun q hq => (o502 q (by omega)).trans (hF500 q hq)
                    refine lv_aload_n hx hb dX6_paste_199 rfl (lv_at hl 3 rfl) ?_
                    refine z_get (T := TX6) (v := .ref (d + 1)) hE hH hM504.1 rfl uw_X6 1 (by decide) fkX6_7 rfl dX6_paste_200 ?_
                    refine lv_iload hx hb dX6_paste_203 (lv_at hl 0 rfl) ?_
                    refine n_bipush hx hb 6 dX6_paste_205 (by decide) ?_
                    refine n_iadd hx hb dX6_paste_207 ?_
                    refine n_iconst hx hb 0 dX6_paste_208 (by decide) ?_
                    refine z_iast hE hH hS hA506 (k := (14 + (7 * (σ.1 (0)))) + 6) (by omega) (by decide) (by omega) dX6_paste_209 (fun H locs M510 hH hS e508 o509 => ?_)
                    have hM511 : Md G d (sg (nI 0) (nI (keepN σ.2.1)) (nI σ.2.2.2.2.2.1) at' w bm) (xs (vset (vset (vset (vset (vset (vset (vset (vset σ.1 (0) ((σ.1 (0)) + 1)) ((14 + (7 * (σ.1 (0)))) + 0) x') ((14 + (7 * (σ.1 (0)))) + 1) y') ((14 + (7 * (σ.1 (0)))) + 2) wd') ((14 + (7 * (σ.1 (0)))) + 3) ht') ((14 + (7 * (σ.1 (0)))) + 4) p') ((14 + (7 * (σ.1 (0)))) + 5) 0) ((14 + (7 * (σ.1 (0)))) + 6) 0) A U453 L K (fun i => nI (σ.2.2.2.2.2.2 i)) SE SH BU) M510 := Md.setJ (j := 1) hM504 (by decide) (zArr.to e508 (fun q _ => by show (if q = _ then nI _ else nI _) = nI (fset _ _ _ q); unfold fset; by_cases hq : q = (14 + (7 * (σ.1 (0)))) + 6 <;> (first | (simp [hq]; done) | (rw [if_pos hq, if_pos hq]; rfl) | (rw [if_neg hq, if_neg hq]; rfl)))) (fun i hi => by unfold xs; split <;> first | rfl | exact absurd rfl hi) o509
                    have hA513 := hM511.s (fun _ _ => rfl)
                    have hF514 := fun q hq => (o509 q (by omega)).trans (hF507 q hq)
                    refine n_iconst hx hb 0 dX6_paste_210 (by decide) ?_
                    refine lv_istore (lv' := [(10, .int (nI 0)), (9, .int (nI (14 + (7 * (σ.1 (0)))))), (8, .int (nI (σ.1 (0)))), (7, .int (nI 1)), (0, .ref d), (1, .int (nI x')), (2, .int (nI y')), (3, .int (nI wd')), (4, .int (nI ht')), (5, .int (nI p')), (6, .int (nI q'))]) hx hb dX6_paste_211 hl (by decide) rfl (fun ls hl => ?_)
                    have L213 : ∀ (dd : Nat) (k : Nat) (u : Wv) (M1 : Mm), 60 < k + dd → (k ≤ 60) → (Md G d (sg (nI 0) (nI (keepN σ.2.1)) (nI σ.2.2.2.2.2.1) at' w bm) (xs u A U18 L K (fun i => nI (σ.2.2.2.2.2.2 i)) SE SH BU) M1) → (∀ q, (q < d ∨ d + 10 ≤ q) → M1 q = M q) → (∀ i, u i = pstV σ.1 x' y' wd' ht' p' q' k i) → ∀ (H : Heap) (locs : List Loc), zH G M1 H → zS 0 B0 s.heap H locs → ∀ (ls : Array Slot), lv_has ls 11 [(0, .ref d), (6, .int (nI q')), (8, .int (nI (σ.1 0))), (10, .int (nI k))] → zW pg l ev 5 0 0 s m [.ref d, .int (nI x'), .int (nI y'), .int (nI wd'), .int (nI ht'), .int (nI p'), .int (nI q')] below meth cd H locs 0 0 G B0 (some (.int ((fPaste σ (nI x') (nI y') (nI wd') (nI ht') (nI p') (nI q')).1))) (fun M1 => Mo G d (fPaste σ (nI x') (nI y') (nI wd') (nI ht') (nI p') (nI q')).2 M1 ∧ ∀ (nI q'), ((nI q') < d ∨ d + 10 ≤ (nI q')) → M1 (nI q') = M (nI q')) (F0 m 213 ls []) := by
                      intro dd
                      induction dd with
                      | zero =>
                        intro k u M1 hdd hk hM1 hF1 hu
                        exact absurd hdd (by omega)
                      | succ dd ih =>
                        intro k u M1 hdd hk hM1 hF1 hu H locs hH hS ls hl
                        have hA1 : zArr G 0 M1 (d + 1) 818 (fun i => nI (u i)) := hM1.s (fun _ _ => rfl)
                        obtain ⟨hu0, r0, r1, r2, r3⟩ := pst_at hu
                        have hqr : 1 ≤ pv u (σ.1 0) 2 ∧ pv u (σ.1 0) 0 + pv u (σ.1 0) 2 ≤ 10 ∧ 1 ≤ pv u (σ.1 0) 3 ∧ pv u (σ.1 0) 1 + pv u (σ.1 0) 3 ≤ 6 := by rw [r0, r1, r2, r3]; omega
                        refine lv_iload hx hb dX6_paste_213 (lv_at hl 3 rfl) ?_
                        refine n_bipush hx hb 60 dX6_paste_215 (by decide) ?_
                        refine n_cmp_ge (tgt := 251) hx hb (by omega) (by decide) dX6_paste_217 (by decide) (fun h515 => ?_) (fun h515 => ?_)
                        · refine lv_iload hx hb dX6_paste_251 (lv_at hl 2 rfl) ?_
                          have hf : (fPaste σ (nI x') (nI y') (nI wd') (nI ht') (nI p') (nI q')).1 = ((nI (σ.1 0)), (pasteV σ.1 x' y' wd' ht' p' q', keepN σ.2.1, keepH σ.2.2.1 σ.2.1 σ.1, σ.2.2.2.1, σ.2.2.2.2.1, σ.2.2.2.2.2.1, σ.2.2.2.2.2.2)) := by
                            simp [fPaste, chg, sV, sN, sH, sS, sD, sL, sP, h8, tx94, tx95, h97, tx183, h185, tx271, h272, h358, hwd, hht, h444, h446, tx447, h449, tx450, h451, h515]
                            try omega
                          rw [hf]
                          have hkk : k = 60 := by omega
                          subst hkk
                          exact z_iret hE hH hS rfl ⟨⟨_, _, _, _, _, _, _, _, _, _, _, hM1.to (j := 1) (fun i hi => congrArg nI ((hu i).trans (pst_e i))) (fun i hi => by unfold xs; split <;> first | rfl | exact absurd rfl hi), hU457, hL, hK⟩, hF1⟩ dX6_paste_253
                        · refine lv_aload_n hx hb dX6_paste_220 rfl (lv_at hl 0 rfl) ?_
                          refine lv_iload hx hb dX6_paste_221 (lv_at hl 2 rfl) ?_
                          refine lv_iload hx hb dX6_paste_223 (lv_at hl 3 rfl) ?_
                          refine lv_aload_n hx hb dX6_paste_225 rfl (lv_at hl 0 rfl) ?_
                          refine lv_iload hx hb dX6_paste_226 (lv_at hl 2 rfl) ?_
                          refine lv_iload hx hb dX6_paste_228 (lv_at hl 3 rfl) ?_
                          refine z_callV (rest := [.int (nI k), .int (nI (σ.1 0)), .ref d]) (st2 := [.int (zb (liesN (pv u (σ.1 0)) (k % 10) (k / 10))), .int (nI k), .int (nI (σ.1 0)), .ref d]) hE hH hS hB0 hl ca_X6_lies mkX6_53 (c_X6_lies0 l G B0 M1 d (sg (nI 0) (nI (keepN σ.2.1)) (nI σ.2.2.2.2.2.1) at' w bm) (xs u A U453 L K (fun i => nI (σ.2.2.2.2.2.2 i)) SE SH BU) hM1 u (fun _ _ => rfl) (σ.1 0) k (by omega) hqr (by omega)) hM1.1 rfl rfl rfl rfl rfl ⟨Nat.le_of_ble_eq_true rfl, Nat.le_of_ble_eq_true rfl⟩ (Nat.le_of_ble_eq_true rfl) ⟨Nat.le_refl _, Nat.le_refl _⟩ dX6_paste_230 (fun H locs M1 hH hp hS => ?_)
                          subst hp
                          refine b_if_eq (tgt := 241) hx hb dX6_paste_233 (by decide) (fun h518 => ?_) (fun h518 => ?_)
                          · refine n_iconst hx hb 0 dX6_paste_241 (by decide) ?_
                            refine z_callV (rest := []) (st2 := []) hE hH hS hB0 hl ca_X6_lays mkX6_63 (c_X6_lays0 l G B0 M1 d (sg (nI 0) (nI (keepN σ.2.1)) (nI σ.2.2.2.2.2.1) at' w bm) u A U453 L K (fun i => nI (σ.2.2.2.2.2.2 i)) SE SH BU hM1 (by omega) (σ.1 0) k 0 (by omega) (by omega)) hM1.1 rfl rfl rfl rfl rfl ⟨Nat.le_of_ble_eq_true rfl, Nat.le_of_ble_eq_true rfl⟩ (Nat.le_of_ble_eq_true rfl) ⟨Nat.le_refl _, Nat.le_refl _⟩ dX6_paste_242 (fun H locs M519 hH hp hS => ?_)
                            obtain ⟨hM520, hG521⟩ := hp
                            have hA523 := hM520.s (fun _ _ => rfl)
                            have hF522 := fun q hq => (hG521 q hq).trans (hF1 q hq)
                            refine lv_iinc (v := (nI (k + 1))) (lv' := [(10, .int (nI (k + 1))), (0, .ref d), (6, .int (nI q')), (8, .int (nI (σ.1 0)))]) hx hb dX6_paste_245 hl (k := 3) rfl (nI_inc _) (by decide) rfl (fun ls hl => ?_)
                            refine lv_goto (tgt := 213) hx hb dX6_paste_248 (by decide) ?_
                            exact ih  (k + 1) (vset u (98 + 60 * (σ.1 0) + k) 0) M519 (by omega) (by omega) hM520 hF522 (pst_s hu (by rw [if_neg (by rw [h518]; decide)])) _ _ hH hS _ (lv_sub hl [1, 2, 3, 0] rfl)
                          · refine lv_iload hx hb dX6_paste_236 (lv_at hl 1 rfl) ?_
                            refine lv_goto (tgt := 242) hx hb dX6_paste_238 (by decide) ?_
                            refine z_callV (rest := []) (st2 := []) hE hH hS hB0 hl ca_X6_lays mkX6_63 (c_X6_lays0 l G B0 M1 d (sg (nI 0) (nI (keepN σ.2.1)) (nI σ.2.2.2.2.2.1) at' w bm) u A U453 L K (fun i => nI (σ.2.2.2.2.2.2 i)) SE SH BU hM1 (by omega) (σ.1 0) k q' (by omega) (by omega)) hM1.1 rfl rfl rfl rfl rfl ⟨Nat.le_of_ble_eq_true rfl, Nat.le_of_ble_eq_true rfl⟩ (Nat.le_of_ble_eq_true rfl) ⟨Nat.le_refl _, Nat.le_refl _⟩ dX6_paste_242 (fun H locs M524 hH hp hS => ?_)
                            obtain ⟨hM525, hG526⟩ := hp
                            have hA528 := hM525.s (fun _ _ => rfl)
                            have hF527 := fun q hq => (hG526 q hq).trans (hF1 q hq)
                            refine lv_iinc (v := (nI (k + 1))) (lv' := [(10, .int (nI (k + 1))), (0, .ref d), (6, .int (nI q')), (8, .int (nI (σ.1 0)))]) hx hb dX6_paste_245 hl (k := 3) rfl (nI_inc _) (by decide) rfl (fun ls hl => ?_)
                            refine lv_goto (tgt := 213) hx hb dX6_paste_248 (by decide) ?_
                            exact ih  (k + 1) (vset u (98 + 60 * (σ.1 0) + k) q') M524 (by omega) (by omega) hM525 hF527 (pst_s hu (by rw [if_pos h518])) _ _ hH hS _ (lv_sub hl [1, 2, 3, 0] rfl)
                    exact L213 61 0 (vset (vset (vset (vset (vset (vset (vset (vset σ.1 (0) ((σ.1 (0)) + 1)) ((14 + (7 * (σ.1 (0)))) + 0) x') ((14 + (7 * (σ.1 (0)))) + 1) y') ((14 + (7 * (σ.1 (0)))) + 2) wd') ((14 + (7 * (σ.1 (0)))) + 3) ht') ((14 + (7 * (σ.1 (0)))) + 4) p') ((14 + (7 * (σ.1 (0)))) + 5) 0) ((14 + (7 * (σ.1 (0)))) + 6) 0) M510 (by omega) (by omega) hM511 hF514 (fun i => pst_0 i) _ _ hH hS _ (lv_sub hl [4, 10, 2, 0] rfl)
                  · refine lv_bipush (v := (-4)) hx hb dX6_paste_102 (by decide) ?_
                    have hf : (fPaste σ (nI x') (nI y') (nI wd') (nI ht') (nI p') (nI q')).1 = ((-4), (σ.1, σ.2.1, σ.2.2.1, σ.2.2.2.1, σ.2.2.2.2.1, σ.2.2.2.2.2.1, σ.2.2.2.2.2.2)) := by
                      simp [fPaste, chg, sV, sN, sH, sS, sD, sL, sP, h8, tx94, tx95, h97, tx183, h185, tx271, h272, h358, hwd, hht, h444, h446, tx447, h449, tx450, h451]
                      try omega
                    rw [hf]
                    exact z_iret hE hH hS rfl ⟨⟨_, _, _, _, _, _, _, _, _, _, _, hM4, hU, hL, hK⟩, hF6⟩ dX6_paste_104
                · refine lv_bipush (v := (-2)) hx hb dX6_paste_88 (by decide) ?_
                  have hf : (fPaste σ (nI x') (nI y') (nI wd') (nI ht') (nI p') q).1 = ((-2), (σ.1, σ.2.1, σ.2.2.1, σ.2.2.2.1, σ.2.2.2.2.1, σ.2.2.2.2.2.1, σ.2.2.2.2.2.2)) := by
                    simp [fPaste, chg, sV, sN, sH, sS, sD, sL, sP, h8, tx94, tx95, h97, tx183, h185, tx271, h272, h358, hwd, hht, h444, h446, tx447, h449]
                    try omega
                  rw [hf]
                  exact z_iret hE hH hS rfl ⟨⟨_, _, _, _, _, _, _, _, _, _, _, hM4, hU, hL, hK⟩, hF6⟩ dX6_paste_90
            · refine lv_iconst (v := (-1)) hx hb dX6_paste_63 (by decide) ?_
              have hf : (fPaste σ (nI x') (nI y') (nI wd') (nI ht') p q).1 = ((-1), (σ.1, σ.2.1, σ.2.2.1, σ.2.2.2.1, σ.2.2.2.2.1, σ.2.2.2.2.2.1, σ.2.2.2.2.2.2)) := by
                refine fPaste_no (fun q1 q2 q3 => ?_)
                first
                  | exact absurd (q1.symm.trans h444) (by decide)
                  | exact absurd ((wi_mono (by decide) (by decide) (by omega) q2).symm.trans h444) (by decide)
                  | exact absurd ((wi_mono (by decide) (by decide) (by omega) q3).symm.trans h444) (by decide)
                  | exact wi_not (by omega) (by decide) (by omega) q2
                  | exact wi_not (by omega) (by decide) (by omega) q3
              rw [hf]
              exact z_iret hE hH hS rfl ⟨⟨_, _, _, _, _, _, _, _, _, _, _, hM4, hU, hL, hK⟩, hF6⟩ dX6_paste_64
