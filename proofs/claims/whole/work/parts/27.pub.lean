/-- the check's object tells the state σ -/
def Mo (G : zG) (d : Nat) (σ : Sg) (M : Mm) : Prop := ∃ (t at' w bm : Int32) (A U L K SE SH BU : Nat → Int32), Md G d (sg t (nI σ.2.1) (nI σ.2.2.2.2.2.1) at' w bm) (xs σ.1 A U L K (fun i => nI (σ.2.2.2.2.2.2 i)) SE SH BU) M ∧ (∀ k, k < σ.2.1 → ∀ i, i < 818 → U (818 * k + i) = nI (σ.2.2.1 k i)) ∧ (∀ k, k < 2 → σ.2.2.2.2.1 k = true → ∀ i, i < 818 → L (818 * k + i) = nI (σ.2.2.2.1 k i)) ∧ ∀ k, k < 2 → K k = zb (σ.2.2.2.2.1 k)
theorem wi_mono {x : Int32} {a b b' : Nat} (ha : a < 2 ^ 31) (hb : b' < 2 ^ 31) (hbb : b ≤ b') (h : wi x (nI a) (nI b) = true) : wi x (nI a) (nI b') = true := by
  obtain ⟨k, rfl, h1, h2⟩ := wi_nat ha (by omega) h
  rw [wi_N (by omega) ha hb, decide_eq_true h1, decide_eq_true (show k ≤ b' by omega)]; rfl
theorem fPaste_no {σ : Sg} {x y wd ht p q : Int32} (h : isC x y = true → wi wd (nI 1) (nI (10 - tn x)) = true → wi ht (nI 1) (nI (6 - tn y)) = true → False) : fPaste σ x y wd ht p q = (-1, σ) := by
  unfold fPaste
  cases h1 : isC x y with
  | false => rfl
  | true =>
    cases h2 : wi wd (nI 1) (nI (10 - tn x)) with
    | false => rfl
    | true =>
      cases h3 : wi ht (nI 1) (nI (6 - tn y)) with
      | false => rfl
      | true => exact (h h1 h2 h3).elim
theorem wi_yes {k a b : Nat} (hb : b < 2 ^ 31) (h1 : a ≤ k) (h2 : k ≤ b) : wi (nI k) (nI a) (nI b) = true := by
  rw [wi_N (by omega) (by omega) hb, decide_eq_true h1, decide_eq_true h2]; rfl
theorem wi_not {k a b : Nat} (hk : k < 2 ^ 31) (ha : a < 2 ^ 31) (hb : b < k) (h : wi (nI k) (nI a) (nI b) = true) : False := by
  rw [wi_N hk ha (by omega), Bool.and_eq_true, decide_eq_true_eq, decide_eq_true_eq] at h
  omega
/-- a poster's row while its varnish is laid: k cells are through -/
def pstV (v : Wv) (x y wd ht p q k : Nat) : Wv := fun i =>
  if i = 0 then v 0 + 1 else if 14 + 7 * v 0 ≤ i ∧ i < 21 + 7 * v 0 then pasteF x y wd ht p (i - (14 + 7 * v 0)) else if 98 + 60 * v 0 ≤ i ∧ i < 98 + 60 * v 0 + k then (if liesN (pasteF x y wd ht p) ((i - (98 + 60 * v 0)) % 10) ((i - (98 + 60 * v 0)) / 10) = true then q else 0) else v i
theorem pst_e {v : Wv} {x y wd ht p q : Nat} (i : Nat) : pstV v x y wd ht p q 60 i = pasteV v x y wd ht p q i := by
  unfold pstV pasteV
  by_cases h0 : i = 0
  · rw [if_pos h0, if_pos h0]
  · rw [if_neg h0, if_neg h0]
    by_cases h1 : 14 + 7 * v 0 ≤ i ∧ i < 21 + 7 * v 0
    · rw [if_pos h1, if_pos h1]
    · rw [if_neg h1, if_neg h1]
      by_cases h2 : 98 + 60 * v 0 ≤ i ∧ i < 98 + 60 * v 0 + 60
      · rw [if_pos h2, if_pos (show 98 + 60 * v 0 ≤ i ∧ i < 158 + 60 * v 0 by omega)]
      · rw [if_neg h2, if_neg (show ¬(98 + 60 * v 0 ≤ i ∧ i < 158 + 60 * v 0) by omega)]
theorem pst_0 {v : Wv} {x y wd ht p q : Nat} (i : Nat) : (vset (vset (vset (vset (vset (vset (vset (vset v 0 (v 0 + 1)) (14 + 7 * v 0 + 0) x) (14 + 7 * v 0 + 1) y) (14 + 7 * v 0 + 2) wd) (14 + 7 * v 0 + 3) ht) (14 + 7 * v 0 + 4) p) (14 + 7 * v 0 + 5) 0) (14 + 7 * v 0 + 6) 0) i = pstV v x y wd ht p q 0 i := by
  unfold pstV
  simp only [vset]
  have hh : i = 0 ∨ (i = 14 + 7 * v 0 + 0 ∨ i = 14 + 7 * v 0 + 1 ∨ i = 14 + 7 * v 0 + 2 ∨ i = 14 + 7 * v 0 + 3 ∨ i = 14 + 7 * v 0 + 4 ∨ i = 14 + 7 * v 0 + 5 ∨ i = 14 + 7 * v 0 + 6) ∨ (i ≠ 0 ∧ ¬(14 + 7 * v 0 ≤ i ∧ i < 21 + 7 * v 0)) := by omega
  rcases hh with h | h | ⟨h0, h⟩
  · subst h
    rw [if_pos rfl]
    iterate 7 rw [fset_ne _ _ (by omega)]
    exact fset_self _ _ _
  · rw [if_neg (by omega), if_pos (by omega)]
    rcases h with h | h | h | h | h | h | h <;> subst h
    · rw [show 14 + 7 * v 0 + 0 - (14 + 7 * v 0) = 0 by omega]
      iterate 6 rw [fset_ne _ _ (by omega)]
      exact fset_self _ _ _
    · rw [show 14 + 7 * v 0 + 1 - (14 + 7 * v 0) = 1 by omega]
      iterate 5 rw [fset_ne _ _ (by omega)]
      exact fset_self _ _ _
    · rw [show 14 + 7 * v 0 + 2 - (14 + 7 * v 0) = 2 by omega]
      iterate 4 rw [fset_ne _ _ (by omega)]
      exact fset_self _ _ _
    · rw [show 14 + 7 * v 0 + 3 - (14 + 7 * v 0) = 3 by omega]
      iterate 3 rw [fset_ne _ _ (by omega)]
      exact fset_self _ _ _
    · rw [show 14 + 7 * v 0 + 4 - (14 + 7 * v 0) = 4 by omega]
      iterate 2 rw [fset_ne _ _ (by omega)]
      exact fset_self _ _ _
    · rw [show 14 + 7 * v 0 + 5 - (14 + 7 * v 0) = 5 by omega]
      iterate 1 rw [fset_ne _ _ (by omega)]
      exact fset_self _ _ _
    · rw [show 14 + 7 * v 0 + 6 - (14 + 7 * v 0) = 6 by omega]
      exact fset_self _ _ _
  · rw [if_neg h0, if_neg h, if_neg (by omega)]
    iterate 8 rw [fset_ne _ _ (by omega)]
theorem pst_at {v u : Wv} {x y wd ht p q k : Nat} (hu : ∀ i, u i = pstV v x y wd ht p q k i) : u 0 = v 0 + 1 ∧ pv u (v 0) 0 = x ∧ pv u (v 0) 1 = y ∧ pv u (v 0) 2 = wd ∧ pv u (v 0) 3 = ht := by
  have h : ∀ j, j < 7 → pv u (v 0) j = pasteF x y wd ht p j := fun j hj => by
    show u (14 + 7 * v 0 + j) = _
    rw [hu]
    unfold pstV
    rw [if_neg (by omega), if_pos (by omega), show 14 + 7 * v 0 + j - (14 + 7 * v 0) = j by omega]
  exact ⟨by rw [hu]; exact if_pos rfl, h 0 (by decide), h 1 (by decide), h 2 (by decide), h 3 (by decide)⟩
theorem pst_s {v u : Wv} {x y wd ht p q k z : Nat} (hu : ∀ i, u i = pstV v x y wd ht p q k i) (hz : z = if liesN (pv u (v 0)) (k % 10) (k / 10) = true then q else 0) (i : Nat) : (vset u (98 + 60 * v 0 + k) z) i = pstV v x y wd ht p q (k + 1) i := by
  have hl : liesN (pv u (v 0)) (k % 10) (k / 10) = liesN (pasteF x y wd ht p) (k % 10) (k / 10) := by
    obtain ⟨-, h0, h1, h2, h3⟩ := pst_at hu
    unfold liesN
    rw [h0, h1, h2, h3]; rfl
  rw [hl] at hz
  show fset _ _ _ _ = _
  by_cases hi : i = 98 + 60 * v 0 + k
  · subst hi
    rw [fset_self, hz]
    unfold pstV
    rw [if_neg (show ¬ 98 + 60 * v 0 + k = 0 by omega), if_neg (show ¬ (14 + 7 * v 0 ≤ 98 + 60 * v 0 + k ∧ 98 + 60 * v 0 + k < 21 + 7 * v 0) by omega), if_pos (show 98 + 60 * v 0 ≤ 98 + 60 * v 0 + k ∧ 98 + 60 * v 0 + k < 98 + 60 * v 0 + (k + 1) by omega), show 98 + 60 * v 0 + k - (98 + 60 * v 0) = k by omega]
  · rw [fset_ne _ _ hi, hu]
    unfold pstV
    by_cases h0 : i = 0
    · rw [if_pos h0, if_pos h0]
    · rw [if_neg h0, if_neg h0]
      by_cases h1 : 14 + 7 * v 0 ≤ i ∧ i < 21 + 7 * v 0
      · rw [if_pos h1, if_pos h1]
      · rw [if_neg h1, if_neg h1]
        by_cases h2 : 98 + 60 * v 0 ≤ i ∧ i < 98 + 60 * v 0 + k
        · rw [if_pos h2, if_pos (show 98 + 60 * v 0 ≤ i ∧ i < 98 + 60 * v 0 + (k + 1) by omega)]
        · rw [if_neg h2, if_neg (show ¬(98 + 60 * v 0 ≤ i ∧ i < 98 + 60 * v 0 + (k + 1)) by omega)]

set_option maxHeartbeats 4000000 in
set_option maxRecDepth 100000 in
theorem c_X6_sun (l : Launch) (G : zG) (B0 : Nat) (M : Mm) (d : Nat) (σ : Sg) (hC : Mo G d σ M) (hok : sOk σ) (hBd : B0 ≤ d) (x c : Int32) : zMet l yX6_sun cX6_sun 4 (some .int) 5 0 0 G B0 M [.ref d, .int x, .int c] (some (.int (fSun σ x c).1)) (fun M1 => Mo G d (fSun σ x c).2 M1 ∧ ∀ q, (q < d ∨ d + 10 ≤ q) → M1 q = M q) := by
  refine z_met RX6 [(0, .ref d), (1, .int x), (2, .int c)] (by decide) rfl (Nat.le_of_ble_eq_true rfl) rfl ?_
  intro pg ev s m below meth cd ls hE hin hB0 hH hl
  have hx := hE.1
  have hb := hE.2.1
  have hv : wOk σ.1 := hok.hw
  have hn : σ.1 0 ≤ 12 := hv.1
  have hdy : σ.1 1 ≤ 9999 := hok.1.2
  have hn6 : σ.2.1 ≤ 6 := hok.2.1
  have hhv : ∀ k, k < σ.2.1 → wOk (σ.2.2.1 k) := hok.hh
  have hsv : ∀ k, k < 2 → σ.2.2.2.2.1 k = true → wOk (σ.2.2.2.1 k) := hok.hs
  have hln : σ.2.2.2.2.2.1 ≤ 60 := hok.2.2.2.2.1
  have hpc : ∀ i, i < σ.2.2.2.2.2.1 → σ.2.2.2.2.2.2 i < 128 := fun i hi => by have h7 := (hok.2.2.2.2.2 i hi).2; exact Nat.lt_of_le_of_lt h7 (by decide)
  obtain ⟨t, at', w, bm, A, U, L, K, SE, SH, BU, hM, hU, hL, hK⟩ := hC
  have hA : zArr G 0 M (d + 1) 818 (fun i => nI (σ.1 i)) := hM.s (fun _ _ => rfl)
  have hF : ∀ q, (q < d ∨ d + 10 ≤ q) → M q = M q := fun _ _ => rfl
  refine z_gen B0 (fun H locs hH hS => ?_) hH
  refine lv_aload_n hx hb dX6_sun_0 rfl (lv_at hl 0 rfl) ?_
  refine n_iconst hx hb 0 dX6_sun_1 (by decide) ?_
  refine z_put (T := TX6) hE hH hS hM.1 rfl uw_X6 tyX6 tyX6_ok nmX6 0 (by decide) fkX6_38 rfl rfl rfl (Nat.le_of_ble_eq_true rfl) (by omega) dX6_sun_2 (fun H locs M3 hH hS e1 o2 => ?_)
  have hM4 : Md G d (sg (nI 0) (nI σ.2.1) (nI σ.2.2.2.2.2.1) at' w bm) (xs σ.1 A U L K (fun i => nI (σ.2.2.2.2.2.2 i)) SE SH BU) M3 := Md.setC hM e1 o2
  have hA5 := hM4.s (fun _ _ => rfl)
  have hF6 := fun q hq => (o2 q (by omega)).trans (hF q hq)
  refine lv_iload_n hx hb dX6_sun_5 rfl (lv_at hl 1 rfl) ?_
  refine n_iconst hx hb 0 dX6_sun_6 (by decide) ?_
  refine n_bipush hx hb 9 dX6_sun_7 (by decide) ?_
  refine z_callS (rest := []) (st2 := [.int (zb (wi x (nI 0) (nI 9)))]) hE hH hS hB0 hl ca_X6_in mkX6_42 (c_X6_in l G B0 M3 x (nI 0) (nI 9)) rfl rfl rfl ⟨Nat.le_of_ble_eq_true rfl, Nat.le_of_ble_eq_true rfl⟩ (Nat.le_of_ble_eq_true rfl) ⟨Nat.le_refl _, Nat.le_refl _⟩ dX6_sun_9 (fun H locs M1 hH hp hS => ?_)
  subst hp
  refine b_if_ne (tgt := 17) hx hb dX6_sun_12 (by decide) (fun h8 => ?_) (fun h8 => ?_)
  · obtain ⟨x', rfl, x1, x2⟩ := wi_nat (by decide) (by decide) h8
    have tx9 : tn (nI x') = x' := tn_nI (by omega)
    refine lv_iload_n hx hb dX6_sun_17 rfl (lv_at hl 2 rfl) ?_
    refine n_iconst hx hb 0 dX6_sun_18 (by decide) ?_
    refine n_bipush hx hb 9 dX6_sun_19 (by decide) ?_
    refine z_callS (rest := []) (st2 := [.int (zb (wi c (nI 0) (nI 9)))]) hE hH hS hB0 hl ca_X6_in mkX6_42 (c_X6_in l G B0 M3 c (nI 0) (nI 9)) rfl rfl rfl ⟨Nat.le_of_ble_eq_true rfl, Nat.le_of_ble_eq_true rfl⟩ (Nat.le_of_ble_eq_true rfl) ⟨Nat.le_refl _, Nat.le_refl _⟩ dX6_sun_21 (fun H locs M1 hH hp hS => ?_)
    subst hp
    refine b_if_ne (tgt := 30) hx hb dX6_sun_24 (by decide) (fun h11 => ?_) (fun h11 => ?_)
    · obtain ⟨c', rfl, c1, c2⟩ := wi_nat (by decide) (by decide) h11
      have tx12 : tn (nI c') = c' := tn_nI (by omega)
      refine lv_aload_n hx hb dX6_sun_30 rfl (lv_at hl 0 rfl) ?_
      refine z_callV (rest := []) (st2 := []) hE hH hS hB0 hl ca_X6_records mkX6_81 (c_X6_records l G B0 M3 d (nI 0) (nI σ.2.2.2.2.2.1) at' w bm σ.2.1 σ.2.2.1 σ.1 A U L K (fun i => nI (σ.2.2.2.2.2.2 i)) SE SH BU hM4 hv (by omega) hn6 hU) hM4.1 rfl rfl rfl rfl rfl ⟨Nat.le_of_ble_eq_true rfl, Nat.le_of_ble_eq_true rfl⟩ (Nat.le_of_ble_eq_true rfl) ⟨Nat.le_refl _, Nat.le_refl _⟩ dX6_sun_31 (fun H locs M13 hH hp hS => ?_)
      obtain ⟨U14, hM15, hU18, hG16⟩ := hp
      have hA19 := hM15.s (fun _ _ => rfl)
      have hF17 := fun q hq => (hG16 q hq).trans (hF6 q hq)
      refine lv_aload_n hx hb dX6_sun_34 rfl (lv_at hl 0 rfl) ?_
      refine z_get (T := TX6) (v := .ref (d + 1)) hE hH hM15.1 rfl uw_X6 1 (by decide) fkX6_7 rfl dX6_sun_35 ?_
      refine n_iconst hx hb 4 dX6_sun_38 (by decide) ?_
      refine lv_iload_n hx hb dX6_sun_39 rfl (lv_at hl 1 rfl) ?_
      refine n_iadd hx hb dX6_sun_40 ?_
      refine z_iald hE hH hA19 (k := 4 + x') (by omega) (by decide) dX6_sun_41 ?_
      refine lv_istore_n (lv' := [(3, .int (nI (σ.1 (4 + x')))), (0, .ref d), (1, .int (nI x')), (2, .int (nI c'))]) hx hb dX6_sun_42 rfl hl (by decide) rfl (fun ls hl => ?_)
      refine lv_aload_n hx hb dX6_sun_43 rfl (lv_at hl 1 rfl) ?_
      refine z_get (T := TX6) (v := .ref (d + 1)) hE hH hM15.1 rfl uw_X6 1 (by decide) fkX6_7 rfl dX6_sun_44 ?_
      refine n_iconst hx hb 4 dX6_sun_47 (by decide) ?_
      refine lv_iload_n hx hb dX6_sun_48 rfl (lv_at hl 2 rfl) ?_
      refine n_iadd hx hb dX6_sun_49 ?_
      refine lv_iload_n hx hb dX6_sun_50 rfl (lv_at hl 3 rfl) ?_
      refine z_iast hE hH hS hA19 (k := 4 + x') (by omega) (by decide) (by omega) dX6_sun_51 (fun H locs M22 hH hS e20 o21 => ?_)
      have hM23 : Md G d (sg (nI 0) (nI (keepN σ.2.1)) (nI σ.2.2.2.2.2.1) at' w bm) (xs (vset σ.1 (4 + x') c') A U14 L K (fun i => nI (σ.2.2.2.2.2.2 i)) SE SH BU) M22 := Md.setJ (j := 1) hM15 (by decide) (zArr.to e20 (fun q _ => by show (if q = _ then nI _ else nI _) = nI (fset _ _ _ q); unfold fset; by_cases hq : q = 4 + x' <;> (first | (simp [hq]; done) | (rw [if_pos hq, if_pos hq]; done) | (rw [if_neg hq, if_neg hq]; done) | (rw [if_pos hq, if_pos hq]; rfl) | (rw [if_neg hq, if_neg hq]; rfl)))) (fun i hi => by unfold xs; split <;> first | rfl | exact absurd rfl hi) o21
      have hA25 := hM23.s (fun _ _ => rfl)
      have hF26 := fun q hq => (o21 q (by omega)).trans (hF17 q hq)
      refine lv_iload_n hx hb dX6_sun_52 rfl (lv_at hl 0 rfl) ?_
      have hf : fSun σ (nI x') (nI c') = ((nI (σ.1 (4 + x'))), (vset σ.1 (4 + x') c', keepN σ.2.1, keepH σ.2.2.1 σ.2.1 σ.1, σ.2.2.2.1, σ.2.2.2.2.1, σ.2.2.2.2.2.1, σ.2.2.2.2.2.2)) := by
        simp [fSun, chg, sV, sN, sH, sS, sD, sL, sP, sv, h8, tx9, h11, tx12]
        try omega
      rw [hf]
      exact z_iret hE hH hS rfl ⟨⟨_, _, _, _, _, _, _, _, _, _, _, hM23, hU18, hL, hK⟩, hF26⟩ dX6_sun_53
    · refine lv_bipush (v := (-2)) hx hb dX6_sun_27 (by decide) ?_
      have hf : fSun σ (nI x') c = ((-2), (σ.1, σ.2.1, σ.2.2.1, σ.2.2.2.1, σ.2.2.2.2.1, σ.2.2.2.2.2.1, σ.2.2.2.2.2.2)) := by
        simp [fSun, chg, sV, sN, sH, sS, sD, sL, sP, sv, h8, tx9, h11]
        try omega
      rw [hf]
      exact z_iret hE hH hS rfl ⟨⟨_, _, _, _, _, _, _, _, _, _, _, hM4, hU, hL, hK⟩, hF6⟩ dX6_sun_29
  · refine lv_iconst (v := (-1)) hx hb dX6_sun_15 (by decide) ?_
    have hf : fSun σ x c = ((-1), (σ.1, σ.2.1, σ.2.2.1, σ.2.2.2.1, σ.2.2.2.2.1, σ.2.2.2.2.2.1, σ.2.2.2.2.2.2)) := by
      simp [fSun, chg, sV, sN, sH, sS, sD, sL, sP, sv, h8]
      try omega
    rw [hf]
    exact z_iret hE hH hS rfl ⟨⟨_, _, _, _, _, _, _, _, _, _, _, hM4, hU, hL, hK⟩, hF6⟩ dX6_sun_16

set_option maxHeartbeats 4000000 in
set_option maxRecDepth 100000 in
theorem c_X6_tear (l : Launch) (G : zG) (B0 : Nat) (M : Mm) (d : Nat) (σ : Sg) (hC : Mo G d σ M) (hok : sOk σ) (hBd : B0 ≤ d) (p : Int32) : zMet l yX6_tear cX6_tear 3 (some .int) 5 0 0 G B0 M [.ref d, .int p] (some (.int (fTear σ p).1)) (fun M1 => Mo G d (fTear σ p).2 M1 ∧ ∀ q, (q < d ∨ d + 10 ≤ q) → M1 q = M q) := by
  refine z_met RX6 [(0, .ref d), (1, .int p)] (by decide) rfl (Nat.le_of_ble_eq_true rfl) rfl ?_
  intro pg ev s m below meth cd ls hE hin hB0 hH hl
  have hx := hE.1
  have hb := hE.2.1
  have hv : wOk σ.1 := hok.hw
  have hn : σ.1 0 ≤ 12 := hv.1
  have hdy : σ.1 1 ≤ 9999 := hok.1.2
  have hn6 : σ.2.1 ≤ 6 := hok.2.1
  have hhv : ∀ k, k < σ.2.1 → wOk (σ.2.2.1 k) := hok.hh
  have hsv : ∀ k, k < 2 → σ.2.2.2.2.1 k = true → wOk (σ.2.2.2.1 k) := hok.hs
  have hln : σ.2.2.2.2.2.1 ≤ 60 := hok.2.2.2.2.1
  have hpc : ∀ i, i < σ.2.2.2.2.2.1 → σ.2.2.2.2.2.2 i < 128 := fun i hi => by have h7 := (hok.2.2.2.2.2 i hi).2; exact Nat.lt_of_le_of_lt h7 (by decide)
  obtain ⟨t, at', w, bm, A, U, L, K, SE, SH, BU, hM, hU, hL, hK⟩ := hC
  have hA : zArr G 0 M (d + 1) 818 (fun i => nI (σ.1 i)) := hM.s (fun _ _ => rfl)
  have hF : ∀ q, (q < d ∨ d + 10 ≤ q) → M q = M q := fun _ _ => rfl
  refine z_gen B0 (fun H locs hH hS => ?_) hH
  refine lv_aload_n hx hb dX6_tear_0 rfl (lv_at hl 0 rfl) ?_
  refine n_iconst hx hb 0 dX6_tear_1 (by decide) ?_
  refine z_put (T := TX6) hE hH hS hM.1 rfl uw_X6 tyX6 tyX6_ok nmX6 0 (by decide) fkX6_38 rfl rfl rfl (Nat.le_of_ble_eq_true rfl) (by omega) dX6_tear_2 (fun H locs M3 hH hS e1 o2 => ?_)
  have hM4 : Md G d (sg (nI 0) (nI σ.2.1) (nI σ.2.2.2.2.2.1) at' w bm) (xs σ.1 A U L K (fun i => nI (σ.2.2.2.2.2.2 i)) SE SH BU) M3 := Md.setC hM e1 o2
  have hA5 := hM4.s (fun _ _ => rfl)
  have hF6 := fun q hq => (o2 q (by omega)).trans (hF q hq)
  refine lv_aload_n hx hb dX6_tear_5 rfl (lv_at hl 0 rfl) ?_
  refine lv_iload_n hx hb dX6_tear_6 rfl (lv_at hl 1 rfl) ?_
  refine z_callV (rest := []) (st2 := [.int (zb (isP σ.1 p))]) hE hH hS hB0 hl ca_X6_isPoster mkX6_84 (c_X6_isPoster l G B0 M3 d (sg (nI 0) (nI σ.2.1) (nI σ.2.2.2.2.2.1) at' w bm) (xs σ.1 A U L K (fun i => nI (σ.2.2.2.2.2.2 i)) SE SH BU) hM4 σ.1 (fun _ _ => rfl) hv p) hM4.1 rfl rfl rfl rfl rfl ⟨Nat.le_of_ble_eq_true rfl, Nat.le_of_ble_eq_true rfl⟩ (Nat.le_of_ble_eq_true rfl) ⟨Nat.le_refl _, Nat.le_refl _⟩ dX6_tear_7 (fun H locs M1 hH hp hS => ?_)
  subst hp
  refine b_if_ne (tgt := 15) hx hb dX6_tear_10 (by decide) (fun h8 => ?_) (fun h8 => ?_)
  · obtain ⟨p', rfl, p2⟩ := isP_nat hn h8
    have tx9 : tn (nI p') = p' := tn_nI (by omega)
    refine lv_aload_n hx hb dX6_tear_15 rfl (lv_at hl 0 rfl) ?_
    refine z_callV (rest := []) (st2 := []) hE hH hS hB0 hl ca_X6_records mkX6_81 (c_X6_records l G B0 M3 d (nI 0) (nI σ.2.2.2.2.2.1) at' w bm σ.2.1 σ.2.2.1 σ.1 A U L K (fun i => nI (σ.2.2.2.2.2.2 i)) SE SH BU hM4 hv (by omega) hn6 hU) hM4.1 rfl rfl rfl rfl rfl ⟨Nat.le_of_ble_eq_true rfl, Nat.le_of_ble_eq_true rfl⟩ (Nat.le_of_ble_eq_true rfl) ⟨Nat.le_refl _, Nat.le_refl _⟩ dX6_tear_16 (fun H locs M10 hH hp hS => ?_)
    obtain ⟨U11, hM12, hU15, hG13⟩ := hp
    have hA16 := hM12.s (fun _ _ => rfl)
    have hF14 := fun q hq => (hG13 q hq).trans (hF6 q hq)
    refine lv_aload_n hx hb dX6_tear_19 rfl (lv_at hl 0 rfl) ?_
    refine lv_iload_n hx hb dX6_tear_20 rfl (lv_at hl 1 rfl) ?_
    refine n_iconst hx hb 5 dX6_tear_21 (by decide) ?_
    refine z_callV (rest := []) (st2 := [.int (nI (seenCnt σ.1 p'))]) hE hH hS hB0 hl ca_X6_overCells mkX6_88 (c_X6_overCells_5 l G B0 M10 d (sg (nI 0) (nI (keepN σ.2.1)) (nI σ.2.2.2.2.2.1) at' w bm) (xs σ.1 A U11 L K (fun i => nI (σ.2.2.2.2.2.2 i)) SE SH BU) hM12 σ.1 (fun _ _ => rfl) hv p' (by omega)) hM12.1 rfl rfl rfl rfl rfl ⟨Nat.le_of_ble_eq_true rfl, Nat.le_of_ble_eq_true rfl⟩ (Nat.le_of_ble_eq_true rfl) ⟨Nat.le_refl _, Nat.le_refl _⟩ dX6_tear_22 (fun H locs M1 hH hp hS => ?_)
    subst hp
    have q17 := seenCnt_le σ.1 p'
    refine lv_istore_n (lv' := [(2, .int (nI (seenCnt σ.1 p'))), (0, .ref d), (1, .int (nI p'))]) hx hb dX6_tear_25 rfl hl (by decide) rfl (fun ls hl => ?_)
    refine lv_aload_n hx hb dX6_tear_26 rfl (lv_at hl 1 rfl) ?_
    refine lv_iload_n hx hb dX6_tear_27 rfl (lv_at hl 2 rfl) ?_
    refine z_callV (rest := []) (st2 := []) hE hH hS hB0 hl ca_X6_drops mkX6_91 (c_X6_drops l G B0 M10 d (sg (nI 0) (nI (keepN σ.2.1)) (nI σ.2.2.2.2.2.1) at' w bm) σ.1 A U11 L K (fun i => nI (σ.2.2.2.2.2.2 i)) SE SH BU hM12 hv (by omega) p' (by omega)) hM12.1 rfl rfl rfl rfl rfl ⟨Nat.le_of_ble_eq_true rfl, Nat.le_of_ble_eq_true rfl⟩ (Nat.le_of_ble_eq_true rfl) ⟨Nat.le_refl _, Nat.le_refl _⟩ dX6_tear_28 (fun H locs M18 hH hp hS => ?_)
    obtain ⟨hM19, hG20⟩ := hp
    have hA22 := hM19.s (fun _ _ => rfl)
    have hF21 := fun q hq => (hG20 q hq).trans (hF14 q hq)
    refine lv_iload_n hx hb dX6_tear_31 rfl (lv_at hl 0 rfl) ?_
    have hf : fTear σ (nI p') = ((nI (seenCnt σ.1 p')), (tearV σ.1 p', keepN σ.2.1, keepH σ.2.2.1 σ.2.1 σ.1, σ.2.2.2.1, σ.2.2.2.2.1, σ.2.2.2.2.2.1, σ.2.2.2.2.2.2)) := by
      simp [fTear, chg, sV, sN, sH, sS, sD, sL, sP, h8, tx9]
      try omega
    rw [hf]
    exact z_iret hE hH hS rfl ⟨⟨_, _, _, _, _, _, _, _, _, _, _, hM19, hU15, hL, hK⟩, hF21⟩ dX6_tear_32
  · refine lv_iconst (v := (-1)) hx hb dX6_tear_13 (by decide) ?_
    have hf : fTear σ p = ((-1), (σ.1, σ.2.1, σ.2.2.1, σ.2.2.2.1, σ.2.2.2.2.1, σ.2.2.2.2.2.1, σ.2.2.2.2.2.2)) := by
      simp [fTear, chg, sV, sN, sH, sS, sD, sL, sP, h8]
      try omega
    rw [hf]
    exact z_iret hE hH hS rfl ⟨⟨_, _, _, _, _, _, _, _, _, _, _, hM4, hU, hL, hK⟩, hF6⟩ dX6_tear_14

set_option maxHeartbeats 4000000 in
set_option maxRecDepth 100000 in
theorem c_X6_of0 (l : Launch) (G : zG) (B0 : Nat) (M : Mm) (d : Nat) (sc : Nat → Int32) (X : Nat → Nat → Int32) (hM : Md G d sc X M) (v : Wv) (hms : MS v X) (j k : Nat) (hj : j < 12) (hk : k < 7) : zMet l yX6_of cX6_of 3 (some .int) 0 0 0 G B0 M [.ref d, .int (nI j), .int (nI k)] (some (.int (nI (pv v j k)))) (fun M1 => M = M1) := by
  refine z_met RX6 [(0, .ref d), (1, .int (nI j)), (2, .int (nI k))] (by decide) rfl (Nat.le_of_ble_eq_true rfl) rfl ?_
  intro pg ev s m below meth cd ls hE hin hB0 hH hl
  have hx := hE.1
  have hb := hE.2.1
  have hA := hM.s hms
  refine z_gen B0 (fun H locs hH hS => ?_) hH
  refine lv_aload_n hx hb dX6_of_0 rfl (lv_at hl 0 rfl) ?_
  refine z_get (T := TX6) (v := .ref (d + 1)) hE hH hM.1 rfl uw_X6 1 (by decide) fkX6_7 rfl dX6_of_1 ?_
  refine n_bipush hx hb 14 dX6_of_4 (by decide) ?_
  refine n_bipush hx hb 7 dX6_of_6 (by decide) ?_
  refine lv_iload_n hx hb dX6_of_8 rfl (lv_at hl 1 rfl) ?_
  refine n_imul hx hb dX6_of_9 ?_
  refine n_iadd hx hb dX6_of_10 ?_
  refine lv_iload_n hx hb dX6_of_11 rfl (lv_at hl 2 rfl) ?_
  refine n_iadd hx hb dX6_of_12 ?_
  refine z_iald hE hH hA (k := (14 + (7 * j)) + k) (by omega) (by decide) dX6_of_13 ?_
  exact z_iret hE hH hS rfl rfl dX6_of_14

set_option maxHeartbeats 4000000 in
set_option maxRecDepth 100000 in
theorem c_X6_lies0 (l : Launch) (G : zG) (B0 : Nat) (M : Mm) (d : Nat) (sc : Nat → Int32) (X : Nat → Nat → Int32) (hM : Md G d sc X M) (v : Wv) (hms : MS v X) (j c : Nat) (hj : j < 12) (qr : 1 ≤ pv v j 2 ∧ pv v j 0 + pv v j 2 ≤ 10 ∧ 1 ≤ pv v j 3 ∧ pv v j 1 + pv v j 3 ≤ 6) (hc : c < 60) : zMet l yX6_lies cX6_lies 5 (some .boolean) 1 0 0 G B0 M [.ref d, .int (nI j), .int (nI c)] (some (.int (zb (liesN (pv v j) (c % 10) (c / 10))))) (fun M1 => M = M1) := by
  refine z_met RX6 [(0, .ref d), (1, .int (nI j)), (2, .int (nI c))] (by decide) rfl (Nat.le_of_ble_eq_true rfl) rfl ?_
  intro pg ev s m below meth cd ls hE hin hB0 hH hl
  have hx := hE.1
  have hb := hE.2.1
  have hA := hM.s hms
  refine z_gen B0 (fun H locs hH hS => ?_) hH
  refine lv_iload_n hx hb dX6_lies_0 rfl (lv_at hl 2 rfl) ?_
  refine n_bipush hx hb 10 dX6_lies_1 (by decide) ?_
  refine n_irem hx hb (by omega) (by decide) (by decide) dX6_lies_3 ?_
  refine lv_aload_n hx hb dX6_lies_4 rfl (lv_at hl 0 rfl) ?_
  refine lv_iload_n hx hb dX6_lies_5 rfl (lv_at hl 1 rfl) ?_
  refine n_iconst hx hb 0 dX6_lies_6 (by decide) ?_
  refine z_callV (rest := [.int (nI (c % 10))]) (st2 := [.int (nI (pv v j 0)), .int (nI (c % 10))]) hE hH hS hB0 hl ca_X6_of mkX6_46 (c_X6_of0 l G B0 M d sc X hM v hms j 0 (by omega) (by omega)) hM.1 rfl rfl rfl rfl rfl ⟨Nat.le_of_ble_eq_true rfl, Nat.le_of_ble_eq_true rfl⟩ (Nat.le_of_ble_eq_true rfl) ⟨Nat.le_refl _, Nat.le_refl _⟩ dX6_lies_7 (fun H locs M1 hH hp hS => ?_)
  subst hp
  refine lv_isub hx hb dX6_lies_10 ?_
  refine lv_istore_n (lv' := [(3, .int (nI (c % 10) - nI (pv v j 0))), (0, .ref d), (1, .int (nI j)), (2, .int (nI c))]) hx hb dX6_lies_11 rfl hl (by decide) rfl (fun ls hl => ?_)
  refine lv_iload_n hx hb dX6_lies_12 rfl (lv_at hl 3 rfl) ?_
  refine n_bipush hx hb 10 dX6_lies_13 (by decide) ?_
  refine n_idiv hx hb (by omega) (by decide) (by decide) dX6_lies_15 ?_
  refine lv_aload_n hx hb dX6_lies_16 rfl (lv_at hl 1 rfl) ?_
  refine lv_iload_n hx hb dX6_lies_17 rfl (lv_at hl 2 rfl) ?_
  refine n_iconst hx hb 1 dX6_lies_18 (by decide) ?_
  refine z_callV (rest := [.int (nI (c / 10))]) (st2 := [.int (nI (pv v j 1)), .int (nI (c / 10))]) hE hH hS hB0 hl ca_X6_of mkX6_46 (c_X6_of0 l G B0 M d sc X hM v hms j 1 (by omega) (by omega)) hM.1 rfl rfl rfl rfl rfl ⟨Nat.le_of_ble_eq_true rfl, Nat.le_of_ble_eq_true rfl⟩ (Nat.le_of_ble_eq_true rfl) ⟨Nat.le_refl _, Nat.le_refl _⟩ dX6_lies_19 (fun H locs M1 hH hp hS => ?_)
  subst hp
  refine lv_isub hx hb dX6_lies_22 ?_
  refine lv_istore (lv' := [(4, .int (nI (c / 10) - nI (pv v j 1))), (3, .int (nI (c % 10) - nI (pv v j 0))), (0, .ref d), (1, .int (nI j)), (2, .int (nI c))]) hx hb dX6_lies_23 hl (by decide) rfl (fun ls hl => ?_)
  refine lv_iload_n hx hb dX6_lies_25 rfl (lv_at hl 1 rfl) ?_
  refine n_iconst hx hb 0 dX6_lies_26 (by decide) ?_
  refine lv_aload_n hx hb dX6_lies_27 rfl (lv_at hl 2 rfl) ?_
  refine lv_iload_n hx hb dX6_lies_28 rfl (lv_at hl 3 rfl) ?_
  refine n_iconst hx hb 2 dX6_lies_29 (by decide) ?_
  refine z_callV (rest := [.int (nI 0), .int (nI (c % 10) - nI (pv v j 0))]) (st2 := [.int (nI (pv v j 2)), .int (nI 0), .int (nI (c % 10) - nI (pv v j 0))]) hE hH hS hB0 hl ca_X6_of mkX6_46 (c_X6_of0 l G B0 M d sc X hM v hms j 2 (by omega) (by omega)) hM.1 rfl rfl rfl rfl rfl ⟨Nat.le_of_ble_eq_true rfl, Nat.le_of_ble_eq_true rfl⟩ (Nat.le_of_ble_eq_true rfl) ⟨Nat.le_refl _, Nat.le_refl _⟩ dX6_lies_30 (fun H locs M1 hH hp hS => ?_)
  subst hp
  refine n_iconst hx hb 1 dX6_lies_33 (by decide) ?_
  refine n_isub hx hb (by omega) dX6_lies_34 ?_
  refine z_callS (rest := []) (st2 := [.int (zb (wi (nI (c % 10) - nI (pv v j 0)) (nI 0) (nI ((pv v j 2) - 1))))]) hE hH hS hB0 hl ca_X6_in mkX6_42 (c_X6_in l G B0 M (nI (c % 10) - nI (pv v j 0)) (nI 0) (nI ((pv v j 2) - 1))) rfl rfl rfl ⟨Nat.le_of_ble_eq_true rfl, Nat.le_of_ble_eq_true rfl⟩ (Nat.le_of_ble_eq_true rfl) ⟨Nat.le_refl _, Nat.le_refl _⟩ dX6_lies_35 (fun H locs M1 hH hp hS => ?_)
  subst hp
  refine b_if_eq (tgt := 62) hx hb dX6_lies_38 (by decide) (fun h2 => ?_) (fun h2 => ?_)
  · refine n_iconst hx hb 0 dX6_lies_62 (by decide) ?_
    rw [wi_sub (by omega) (by omega) (by omega) (by omega)] at h2
    exact z_zret hE hH hS (by rw [show liesN (pv v j) (c % 10) (c / 10) = false from by unfold liesN; simp only [Bool.and_eq_false_iff, Bool.and_eq_true, decide_eq_false_iff_not, decide_eq_true_eq] at *; omega]; rfl) rfl dX6_lies_63
  · refine lv_iload hx hb dX6_lies_41 (lv_at hl 0 rfl) ?_
    refine n_iconst hx hb 0 dX6_lies_43 (by decide) ?_
    refine lv_aload_n hx hb dX6_lies_44 rfl (lv_at hl 2 rfl) ?_
    refine lv_iload_n hx hb dX6_lies_45 rfl (lv_at hl 3 rfl) ?_
    refine n_iconst hx hb 3 dX6_lies_46 (by decide) ?_
    refine z_callV (rest := [.int (nI 0), .int (nI (c / 10) - nI (pv v j 1))]) (st2 := [.int (nI (pv v j 3)), .int (nI 0), .int (nI (c / 10) - nI (pv v j 1))]) hE hH hS hB0 hl ca_X6_of mkX6_46 (c_X6_of0 l G B0 M d sc X hM v hms j 3 (by omega) (by omega)) hM.1 rfl rfl rfl rfl rfl ⟨Nat.le_of_ble_eq_true rfl, Nat.le_of_ble_eq_true rfl⟩ (Nat.le_of_ble_eq_true rfl) ⟨Nat.le_refl _, Nat.le_refl _⟩ dX6_lies_47 (fun H locs M1 hH hp hS => ?_)
    subst hp
    refine n_iconst hx hb 1 dX6_lies_50 (by decide) ?_
    refine n_isub hx hb (by omega) dX6_lies_51 ?_
    refine z_callS (rest := []) (st2 := [.int (zb (wi (nI (c / 10) - nI (pv v j 1)) (nI 0) (nI ((pv v j 3) - 1))))]) hE hH hS hB0 hl ca_X6_in mkX6_42 (c_X6_in l G B0 M (nI (c / 10) - nI (pv v j 1)) (nI 0) (nI ((pv v j 3) - 1))) rfl rfl rfl ⟨Nat.le_of_ble_eq_true rfl, Nat.le_of_ble_eq_true rfl⟩ (Nat.le_of_ble_eq_true rfl) ⟨Nat.le_refl _, Nat.le_refl _⟩ dX6_lies_52 (fun H locs M1 hH hp hS => ?_)
    subst hp
    refine b_if_eq (tgt := 62) hx hb dX6_lies_55 (by decide) (fun h4 => ?_) (fun h4 => ?_)
    · refine n_iconst hx hb 0 dX6_lies_62 (by decide) ?_
      rw [wi_sub (by omega) (by omega) (by omega) (by omega)] at h2
      rw [wi_sub (by omega) (by omega) (by omega) (by omega)] at h4
      exact z_zret hE hH hS (by rw [show liesN (pv v j) (c % 10) (c / 10) = false from by unfold liesN; simp only [Bool.and_eq_false_iff, Bool.and_eq_true, decide_eq_false_iff_not, decide_eq_true_eq] at *; omega]; rfl) rfl dX6_lies_63
    · refine n_iconst hx hb 1 dX6_lies_58 (by decide) ?_
      refine lv_goto (tgt := 63) hx hb dX6_lies_59 (by decide) ?_
      rw [wi_sub (by omega) (by omega) (by omega) (by omega)] at h2
      rw [wi_sub (by omega) (by omega) (by omega) (by omega)] at h4
      exact z_zret hE hH hS (by rw [show liesN (pv v j) (c % 10) (c / 10) = true from by unfold liesN; simp only [Bool.and_eq_true, decide_eq_true_eq] at *; omega]; rfl) rfl dX6_lies_63

set_option maxHeartbeats 4000000 in
set_option maxRecDepth 100000 in
theorem c_X6_paste (l : Launch) (G : zG) (B0 : Nat) (M : Mm) (d : Nat) (σ : Sg) (hC : Mo G d σ M) (hok : sOk σ) (hBd : B0 ≤ d) (x y wd ht p vn : Int32) : zMet l yX6_paste cX6_paste 11 (some .int) 5 0 0 G B0 M [.ref d, .int x, .int y, .int wd, .int ht, .int p, .int vn] (some (.int (fPaste σ x y wd ht p vn).1)) (fun M1 => Mo G d (fPaste σ x y wd ht p vn).2 M1 ∧ ∀ q, (q < d ∨ d + 10 ≤ q) → M1 q = M q) := by
  refine z_met RX6 [(0, .ref d), (1, .int x), (2, .int y), (3, .int wd), (4, .int ht), (5, .int p), (6, .int vn)] (by decide) rfl (Nat.le_of_ble_eq_true rfl) rfl ?_
  intro pg ev s m below meth cd ls hE hin hB0 hH hl
  have hx := hE.1
  have hb := hE.2.1
  have hv : wOk σ.1 := hok.hw
  have hn : σ.1 0 ≤ 12 := hv.1
  have hdy : σ.1 1 ≤ 9999 := hok.1.2
  have hn6 : σ.2.1 ≤ 6 := hok.2.1
  have hhv : ∀ k, k < σ.2.1 → wOk (σ.2.2.1 k) := hok.hh
  have hsv : ∀ k, k < 2 → σ.2.2.2.2.1 k = true → wOk (σ.2.2.2.1 k) := hok.hs
  have hln : σ.2.2.2.2.2.1 ≤ 60 := hok.2.2.2.2.1
  have hpc : ∀ i, i < σ.2.2.2.2.2.1 → σ.2.2.2.2.2.2 i < 128 := fun i hi => by have h7 := (hok.2.2.2.2.2 i hi).2; exact Nat.lt_of_le_of_lt h7 (by decide)
  obtain ⟨t, at', w, bm, A, U, L, K, SE, SH, BU, hM, hU, hL, hK⟩ := hC
  have hA : zArr G 0 M (d + 1) 818 (fun i => nI (σ.1 i)) := hM.s (fun _ _ => rfl)
  have hF : ∀ q, (q < d ∨ d + 10 ≤ q) → M q = M q := fun _ _ => rfl
  refine z_gen B0 (fun H locs hH hS => ?_) hH
  refine lv_aload_n hx hb dX6_paste_0 rfl (lv_at hl 0 rfl) ?_
  refine n_iconst hx hb 0 dX6_paste_1 (by decide) ?_
  refine z_put (T := TX6) hE hH hS hM.1 rfl uw_X6 tyX6 tyX6_ok nmX6 0 (by decide) fkX6_38 rfl rfl rfl (Nat.le_of_ble_eq_true rfl) (by omega) dX6_paste_2 (fun H locs M3 hH hS e1 o2 => ?_)
  have hM4 : Md G d (sg (nI 0) (nI σ.2.1) (nI σ.2.2.2.2.2.1) at' w bm) (xs σ.1 A U L K (fun i => nI (σ.2.2.2.2.2.2 i)) SE SH BU) M3 := Md.setC hM e1 o2
  have hA5 := hM4.s (fun _ _ => rfl)
  have hF6 := fun q hq => (o2 q (by omega)).trans (hF q hq)
  refine lv_iload_n hx hb dX6_paste_5 rfl (lv_at hl 1 rfl) ?_
  refine lv_iload_n hx hb dX6_paste_6 rfl (lv_at hl 2 rfl) ?_
  refine z_callS (rest := []) (st2 := [.int (zb (isC x y))]) hE hH hS hB0 hl ca_X6_isCell mkX6_78 (c_X6_isCell l G B0 M3 x y) rfl rfl rfl ⟨Nat.le_of_ble_eq_true rfl, Nat.le_of_ble_eq_true rfl⟩ (Nat.le_of_ble_eq_true rfl) ⟨Nat.le_refl _, Nat.le_refl _⟩ dX6_paste_7 (fun H locs M1 hH hp hS => ?_)
  subst hp
  refine b_if_eq (tgt := 55) hx hb dX6_paste_10 (by decide) (fun h8 => ?_) (fun h8 => ?_)
  · refine n_iconst hx hb 0 dX6_paste_55 (by decide) ?_
    refine lv_istore (lv' := [(7, .int (nI 0)), (0, .ref d), (1, .int x), (2, .int y), (3, .int wd), (4, .int ht), (5, .int p), (6, .int vn)]) hx hb dX6_paste_56 hl (by decide) rfl (fun ls hl => ?_)
    refine lv_iload hx hb dX6_paste_58 (lv_at hl 0 rfl) ?_
    refine n_if_ne (tgt := 65) hx hb (by decide) dX6_paste_60 (by decide) (fun h => absurd h (by decide)) (fun _ => ?_)
    refine lv_iconst (v := (-1)) hx hb dX6_paste_63 (by decide) ?_
    have hf : fPaste σ x y wd ht p vn = ((-1), (σ.1, σ.2.1, σ.2.2.1, σ.2.2.2.1, σ.2.2.2.2.1, σ.2.2.2.2.2.1, σ.2.2.2.2.2.2)) := by
      refine fPaste_no (fun q1 q2 q3 => ?_)
      first
        | exact absurd (q1.symm.trans h8) (by decide)
        | exact absurd ((wi_mono (by decide) (by decide) (by omega) q2).symm.trans h8) (by decide)
        | exact absurd ((wi_mono (by decide) (by decide) (by omega) q3).symm.trans h8) (by decide)
        | exact wi_not (by omega) (by decide) (by omega) q2
        | exact wi_not (by omega) (by decide) (by omega) q3
    rw [hf]
    exact z_iret hE hH hS rfl ⟨⟨_, _, _, _, _, _, _, _, _, _, _, hM4, hU, hL, hK⟩, hF6⟩ dX6_paste_64
  · obtain ⟨x', y', rfl, rfl, x9, y9⟩ := isC_nat h8
    have tx10 : tn (nI x') = x' := tn_nI (by omega)
    have tx11 : tn (nI y') = y' := tn_nI (by omega)
    refine lv_iload_n hx hb dX6_paste_13 rfl (lv_at hl 3 rfl) ?_
    refine n_iconst hx hb 1 dX6_paste_14 (by decide) ?_
    refine n_bipush hx hb 10 dX6_paste_15 (by decide) ?_
    refine z_callS (rest := []) (st2 := [.int (zb (wi wd (nI 1) (nI 10)))]) hE hH hS hB0 hl ca_X6_in mkX6_42 (c_X6_in l G B0 M3 wd (nI 1) (nI 10)) rfl rfl rfl ⟨Nat.le_of_ble_eq_true rfl, Nat.le_of_ble_eq_true rfl⟩ (Nat.le_of_ble_eq_true rfl) ⟨Nat.le_refl _, Nat.le_refl _⟩ dX6_paste_17 (fun H locs M1 hH hp hS => ?_)
    subst hp
    refine b_if_eq (tgt := 55) hx hb dX6_paste_20 (by decide) (fun h13 => ?_) (fun h13 => ?_)
    · refine n_iconst hx hb 0 dX6_paste_55 (by decide) ?_
      refine lv_istore (lv' := [(7, .int (nI 0)), (0, .ref d), (1, .int (nI x')), (2, .int (nI y')), (3, .int wd), (4, .int ht), (5, .int p), (6, .int vn)]) hx hb dX6_paste_56 hl (by decide) rfl (fun ls hl => ?_)
      refine lv_iload hx hb dX6_paste_58 (lv_at hl 0 rfl) ?_
      refine n_if_ne (tgt := 65) hx hb (by decide) dX6_paste_60 (by decide) (fun h => absurd h (by decide)) (fun _ => ?_)
      refine lv_iconst (v := (-1)) hx hb dX6_paste_63 (by decide) ?_
      have hf : fPaste σ (nI x') (nI y') wd ht p vn = ((-1), (σ.1, σ.2.1, σ.2.2.1, σ.2.2.2.1, σ.2.2.2.2.1, σ.2.2.2.2.2.1, σ.2.2.2.2.2.2)) := by
        refine fPaste_no (fun q1 q2 q3 => ?_)
        first
          | exact absurd (q1.symm.trans h13) (by decide)
          | exact absurd ((wi_mono (by decide) (by decide) (by omega) q2).symm.trans h13) (by decide)
          | exact absurd ((wi_mono (by decide) (by decide) (by omega) q3).symm.trans h13) (by decide)
          | exact wi_not (by omega) (by decide) (by omega) q2
          | exact wi_not (by omega) (by decide) (by omega) q3
      rw [hf]
      exact z_iret hE hH hS rfl ⟨⟨_, _, _, _, _, _, _, _, _, _, _, hM4, hU, hL, hK⟩, hF6⟩ dX6_paste_64
    · obtain ⟨wd', rfl, wd1, wd2⟩ := wi_nat (by decide) (by decide) h13
      have tx15 : tn (nI wd') = wd' := tn_nI (by omega)
      refine lv_iload hx hb dX6_paste_23 (lv_at hl 4 rfl) ?_
      refine n_iconst hx hb 1 dX6_paste_25 (by decide) ?_
      refine n_bipush hx hb 6 dX6_paste_26 (by decide) ?_
      refine z_callS (rest := []) (st2 := [.int (zb (wi ht (nI 1) (nI 6)))]) hE hH hS hB0 hl ca_X6_in mkX6_42 (c_X6_in l G B0 M3 ht (nI 1) (nI 6)) rfl rfl rfl ⟨Nat.le_of_ble_eq_true rfl, Nat.le_of_ble_eq_true rfl⟩ (Nat.le_of_ble_eq_true rfl) ⟨Nat.le_refl _, Nat.le_refl _⟩ dX6_paste_28 (fun H locs M1 hH hp hS => ?_)
      subst hp
      refine b_if_eq (tgt := 55) hx hb dX6_paste_31 (by decide) (fun h17 => ?_) (fun h17 => ?_)
      · refine n_iconst hx hb 0 dX6_paste_55 (by decide) ?_
        refine lv_istore (lv' := [(7, .int (nI 0)), (0, .ref d), (1, .int (nI x')), (2, .int (nI y')), (3, .int (nI wd')), (4, .int ht), (5, .int p), (6, .int vn)]) hx hb dX6_paste_56 hl (by decide) rfl (fun ls hl => ?_)
        refine lv_iload hx hb dX6_paste_58 (lv_at hl 0 rfl) ?_
        refine n_if_ne (tgt := 65) hx hb (by decide) dX6_paste_60 (by decide) (fun h => absurd h (by decide)) (fun _ => ?_)
        refine lv_iconst (v := (-1)) hx hb dX6_paste_63 (by decide) ?_
        have hf : fPaste σ (nI x') (nI y') (nI wd') ht p vn = ((-1), (σ.1, σ.2.1, σ.2.2.1, σ.2.2.2.1, σ.2.2.2.2.1, σ.2.2.2.2.2.1, σ.2.2.2.2.2.2)) := by
          refine fPaste_no (fun q1 q2 q3 => ?_)
          first
            | exact absurd (q1.symm.trans h17) (by decide)
            | exact absurd ((wi_mono (by decide) (by decide) (by omega) q2).symm.trans h17) (by decide)
            | exact absurd ((wi_mono (by decide) (by decide) (by omega) q3).symm.trans h17) (by decide)
            | exact wi_not (by omega) (by decide) (by omega) q2
            | exact wi_not (by omega) (by decide) (by omega) q3
        rw [hf]
        exact z_iret hE hH hS rfl ⟨⟨_, _, _, _, _, _, _, _, _, _, _, hM4, hU, hL, hK⟩, hF6⟩ dX6_paste_64
      · obtain ⟨ht', rfl, ht1, ht2⟩ := wi_nat (by decide) (by decide) h17
        have tx19 : tn (nI ht') = ht' := tn_nI (by omega)
        refine lv_iload_n hx hb dX6_paste_34 rfl (lv_at hl 1 rfl) ?_
        refine lv_iload_n hx hb dX6_paste_35 rfl (lv_at hl 3 rfl) ?_
        refine n_iadd hx hb dX6_paste_36 ?_
        refine n_bipush hx hb 10 dX6_paste_37 (by decide) ?_
        refine n_cmp_gt (tgt := 55) hx hb (by omega) (by decide) dX6_paste_39 (by decide) (fun h20 => ?_) (fun h20 => ?_)
        · refine n_iconst hx hb 0 dX6_paste_55 (by decide) ?_
          refine lv_istore (lv' := [(7, .int (nI 0)), (0, .ref d), (1, .int (nI x')), (2, .int (nI y')), (3, .int (nI wd')), (4, .int (nI ht')), (5, .int p), (6, .int vn)]) hx hb dX6_paste_56 hl (by decide) rfl (fun ls hl => ?_)
          refine lv_iload hx hb dX6_paste_58 (lv_at hl 0 rfl) ?_
          refine n_if_ne (tgt := 65) hx hb (by decide) dX6_paste_60 (by decide) (fun h => absurd h (by decide)) (fun _ => ?_)
          refine lv_iconst (v := (-1)) hx hb dX6_paste_63 (by decide) ?_
          have hf : fPaste σ (nI x') (nI y') (nI wd') (nI ht') p vn = ((-1), (σ.1, σ.2.1, σ.2.2.1, σ.2.2.2.1, σ.2.2.2.2.1, σ.2.2.2.2.2.1, σ.2.2.2.2.2.2)) := by
            refine fPaste_no (fun q1 q2 q3 => ?_)
            first
              | exact absurd (q1.symm.trans h20) (by decide)
              | exact absurd ((wi_mono (by decide) (by decide) (by omega) q2).symm.trans h20) (by decide)
              | exact absurd ((wi_mono (by decide) (by decide) (by omega) q3).symm.trans h20) (by decide)
              | exact wi_not (by omega) (by decide) (by omega) q2
              | exact wi_not (by omega) (by decide) (by omega) q3
          rw [hf]
          exact z_iret hE hH hS rfl ⟨⟨_, _, _, _, _, _, _, _, _, _, _, hM4, hU, hL, hK⟩, hF6⟩ dX6_paste_64
        · refine lv_iload_n hx hb dX6_paste_42 rfl (lv_at hl 2 rfl) ?_
          refine lv_iload hx hb dX6_paste_43 (lv_at hl 4 rfl) ?_
          refine n_iadd hx hb dX6_paste_45 ?_
          refine n_bipush hx hb 6 dX6_paste_46 (by decide) ?_
          refine n_cmp_gt (tgt := 55) hx hb (by omega) (by decide) dX6_paste_48 (by decide) (fun h22 => ?_) (fun h22 => ?_)
          · refine n_iconst hx hb 0 dX6_paste_55 (by decide) ?_
            refine lv_istore (lv' := [(7, .int (nI 0)), (0, .ref d), (1, .int (nI x')), (2, .int (nI y')), (3, .int (nI wd')), (4, .int (nI ht')), (5, .int p), (6, .int vn)]) hx hb dX6_paste_56 hl (by decide) rfl (fun ls hl => ?_)
            refine lv_iload hx hb dX6_paste_58 (lv_at hl 0 rfl) ?_
            refine n_if_ne (tgt := 65) hx hb (by decide) dX6_paste_60 (by decide) (fun h => absurd h (by decide)) (fun _ => ?_)
            refine lv_iconst (v := (-1)) hx hb dX6_paste_63 (by decide) ?_
            have hf : fPaste σ (nI x') (nI y') (nI wd') (nI ht') p vn = ((-1), (σ.1, σ.2.1, σ.2.2.1, σ.2.2.2.1, σ.2.2.2.2.1, σ.2.2.2.2.2.1, σ.2.2.2.2.2.2)) := by
              refine fPaste_no (fun q1 q2 q3 => ?_)
              first
                | exact absurd (q1.symm.trans h22) (by decide)
                | exact absurd ((wi_mono (by decide) (by decide) (by omega) q2).symm.trans h22) (by decide)
                | exact absurd ((wi_mono (by decide) (by decide) (by omega) q3).symm.trans h22) (by decide)
                | exact wi_not (by omega) (by decide) (by omega) q2
                | exact wi_not (by omega) (by decide) (by omega) q3
            rw [hf]
            exact z_iret hE hH hS rfl ⟨⟨_, _, _, _, _, _, _, _, _, _, _, hM4, hU, hL, hK⟩, hF6⟩ dX6_paste_64
          · have hwd : wi (nI wd') (nI 1) (nI (10 - x')) = true := wi_yes (by omega) (by omega) (by omega)
            have hht : wi (nI ht') (nI 1) (nI (6 - y')) = true := wi_yes (by omega) (by omega) (by omega)
            refine n_iconst hx hb 1 dX6_paste_51 (by decide) ?_
            refine lv_goto (tgt := 56) hx hb dX6_paste_52 (by decide) ?_
            refine lv_istore (lv' := [(7, .int (nI 1)), (0, .ref d), (1, .int (nI x')), (2, .int (nI y')), (3, .int (nI wd')), (4, .int (nI ht')), (5, .int p), (6, .int vn)]) hx hb dX6_paste_56 hl (by decide) rfl (fun ls hl => ?_)
            refine lv_iload hx hb dX6_paste_58 (lv_at hl 0 rfl) ?_
            refine n_if_ne (tgt := 65) hx hb (by decide) dX6_paste_60 (by decide) (fun _ => ?_) (fun h => absurd h (by decide))
            refine lv_iload hx hb dX6_paste_65 (lv_at hl 6 rfl) ?_
            refine n_iconst hx hb 1 dX6_paste_67 (by decide) ?_
            refine n_sipush hx hb 999 dX6_paste_68 (by decide) ?_
            refine z_callS (rest := []) (st2 := [.int (zb (wi p (nI 1) (nI 999)))]) hE hH hS hB0 hl ca_X6_in mkX6_42 (c_X6_in l G B0 M3 p (nI 1) (nI 999)) rfl rfl rfl ⟨Nat.le_of_ble_eq_true rfl, Nat.le_of_ble_eq_true rfl⟩ (Nat.le_of_ble_eq_true rfl) ⟨Nat.le_refl _, Nat.le_refl _⟩ dX6_paste_71 (fun H locs M1 hH hp hS => ?_)
            subst hp
            refine b_if_eq (tgt := 88) hx hb dX6_paste_74 (by decide) (fun h26 => ?_) (fun h26 => ?_)
            · refine lv_bipush (v := (-2)) hx hb dX6_paste_88 (by decide) ?_
              have hf : fPaste σ (nI x') (nI y') (nI wd') (nI ht') p vn = ((-2), (σ.1, σ.2.1, σ.2.2.1, σ.2.2.2.1, σ.2.2.2.2.1, σ.2.2.2.2.2.1, σ.2.2.2.2.2.2)) := by
                simp [fPaste, chg, sV, sN, sH, sS, sD, sL, sP, h8, tx10, tx11, h13, tx15, h17, tx19, h20, h22, hwd, hht, h26]
                try omega
              rw [hf]
              exact z_iret hE hH hS rfl ⟨⟨_, _, _, _, _, _, _, _, _, _, _, hM4, hU, hL, hK⟩, hF6⟩ dX6_paste_90
            · obtain ⟨p', rfl, p1, p2⟩ := wi_nat (by decide) (by decide) h26
              have tx27 : tn (nI p') = p' := tn_nI (by omega)
              refine lv_iload hx hb dX6_paste_77 (lv_at hl 7 rfl) ?_
              refine n_iconst hx hb 1 dX6_paste_79 (by decide) ?_
              refine n_bipush hx hb 99 dX6_paste_80 (by decide) ?_
              refine z_callS (rest := []) (st2 := [.int (zb (wi vn (nI 1) (nI 99)))]) hE hH hS hB0 hl ca_X6_in mkX6_42 (c_X6_in l G B0 M3 vn (nI 1) (nI 99)) rfl rfl rfl ⟨Nat.le_of_ble_eq_true rfl, Nat.le_of_ble_eq_true rfl⟩ (Nat.le_of_ble_eq_true rfl) ⟨Nat.le_refl _, Nat.le_refl _⟩ dX6_paste_82 (fun H locs M1 hH hp hS => ?_)
              subst hp
              refine b_if_ne (tgt := 91) hx hb dX6_paste_85 (by decide) (fun h29 => ?_) (fun h29 => ?_)
              · obtain ⟨vn', rfl, vn1, vn2⟩ := wi_nat (by decide) (by decide) h29
                have tx30 : tn (nI vn') = vn' := tn_nI (by omega)
                refine lv_aload_n hx hb dX6_paste_91 rfl (lv_at hl 1 rfl) ?_
                refine z_get (T := TX6) (v := .ref (d + 1)) hE hH hM4.1 rfl uw_X6 1 (by decide) fkX6_7 rfl dX6_paste_92 ?_
                refine n_iconst hx hb 0 dX6_paste_95 (by decide) ?_
                refine z_iald hE hH hA5 (k := 0) (by omega) (by decide) dX6_paste_96 ?_
                refine n_bipush hx hb 12 dX6_paste_97 (by decide) ?_
                refine n_cmp_ne (tgt := 105) hx hb (by omega) (by decide) dX6_paste_99 (by decide) (fun h31 => ?_) (fun h31 => ?_)
                · refine lv_aload_n hx hb dX6_paste_105 rfl (lv_at hl 1 rfl) ?_
                  refine z_callV (rest := []) (st2 := []) hE hH hS hB0 hl ca_X6_records mkX6_81 (c_X6_records l G B0 M3 d (nI 0) (nI σ.2.2.2.2.2.1) at' w bm σ.2.1 σ.2.2.1 σ.1 A U L K (fun i => nI (σ.2.2.2.2.2.2 i)) SE SH BU hM4 hv (by omega) hn6 hU) hM4.1 rfl rfl rfl rfl rfl ⟨Nat.le_of_ble_eq_true rfl, Nat.le_of_ble_eq_true rfl⟩ (Nat.le_of_ble_eq_true rfl) ⟨Nat.le_refl _, Nat.le_refl _⟩ dX6_paste_106 (fun H locs M32 hH hp hS => ?_)
                  obtain ⟨U33, hM34, hU37, hG35⟩ := hp
                  have hA38 := hM34.s (fun _ _ => rfl)
                  have hF36 := fun q hq => (hG35 q hq).trans (hF6 q hq)
                  refine lv_aload_n hx hb dX6_paste_109 rfl (lv_at hl 1 rfl) ?_
                  refine z_get (T := TX6) (v := .ref (d + 1)) hE hH hM34.1 rfl uw_X6 1 (by decide) fkX6_7 rfl dX6_paste_110 ?_
                  refine n_iconst hx hb 0 dX6_paste_113 (by decide) ?_
                  refine z_iald hE hH hA38 (k := 0) (by omega) (by decide) dX6_paste_114 ?_
                  refine lv_istore (lv' := [(8, .int (nI (σ.1 (0)))), (7, .int (nI 1)), (0, .ref d), (1, .int (nI x')), (2, .int (nI y')), (3, .int (nI wd')), (4, .int (nI ht')), (5, .int (nI p')), (6, .int (nI vn'))]) hx hb dX6_paste_115 hl (by decide) rfl (fun ls hl => ?_)
                  refine lv_aload_n hx hb dX6_paste_117 rfl (lv_at hl 2 rfl) ?_
                  refine z_get (T := TX6) (v := .ref (d + 1)) hE hH hM34.1 rfl uw_X6 1 (by decide) fkX6_7 rfl dX6_paste_118 ?_
                  refine n_iconst hx hb 0 dX6_paste_121 (by decide) ?_
                  refine lv_dup2_11 hx hb dX6_paste_122 rfl rfl ?_
                  refine z_iald hE hH hA38 (k := 0) (by omega) (by decide) dX6_paste_123 ?_
                  refine n_iconst hx hb 1 dX6_paste_124 (by decide) ?_
                  refine n_iadd hx hb dX6_paste_125 ?_
                  refine z_iast hE hH hS hA38 (k := 0) (by omega) (by decide) (by omega) dX6_paste_126 (fun H locs M41 hH hS e39 o40 => ?_)
                  have hM42 : Md G d (sg (nI 0) (nI (keepN σ.2.1)) (nI σ.2.2.2.2.2.1) at' w bm) (xs (vset σ.1 (0) ((σ.1 (0)) + 1)) A U33 L K (fun i => nI (σ.2.2.2.2.2.2 i)) SE SH BU) M41 := Md.setJ (j := 1) hM34 (by decide) (zArr.to e39 (fun q _ => by show (if q = _ then nI _ else nI _) = nI (fset _ _ _ q); unfold fset; by_cases hq : q = 0 <;> (first | (simp [hq]; done) | (rw [if_pos hq, if_pos hq]; done) | (rw [if_neg hq, if_neg hq]; done) | (rw [if_pos hq, if_pos hq]; rfl) | (rw [if_neg hq, if_neg hq]; rfl)))) (fun i hi => by unfold xs; split <;> first | rfl | exact absurd rfl hi) o40
                  have hA44 := hM42.s (fun _ _ => rfl)
                  have hF45 := fun q hq => (o40 q (by omega)).trans (hF36 q hq)
                  refine n_bipush hx hb 14 dX6_paste_127 (by decide) ?_
                  refine n_bipush hx hb 7 dX6_paste_129 (by decide) ?_
                  refine lv_iload hx hb dX6_paste_131 (lv_at hl 0 rfl) ?_
                  refine n_imul hx hb dX6_paste_133 ?_
                  refine n_iadd hx hb dX6_paste_134 ?_
                  refine lv_istore (lv' := [(9, .int (nI (14 + (7 * (σ.1 (0)))))), (8, .int (nI (σ.1 (0)))), (7, .int (nI 1)), (0, .ref d), (1, .int (nI x')), (2, .int (nI y')), (3, .int (nI wd')), (4, .int (nI ht')), (5, .int (nI p')), (6, .int (nI vn'))]) hx hb dX6_paste_135 hl (by decide) rfl (fun ls hl => ?_)
                  refine lv_aload_n hx hb dX6_paste_137 rfl (lv_at hl 3 rfl) ?_
                  refine z_get (T := TX6) (v := .ref (d + 1)) hE hH hM42.1 rfl uw_X6 1 (by decide) fkX6_7 rfl dX6_paste_138 ?_
                  refine lv_iload hx hb dX6_paste_141 (lv_at hl 0 rfl) ?_
                  refine n_iconst hx hb 0 dX6_paste_143 (by decide) ?_
                  refine n_iadd hx hb dX6_paste_144 ?_
                  refine lv_iload_n hx hb dX6_paste_145 rfl (lv_at hl 4 rfl) ?_
                  refine z_iast hE hH hS hA44 (k := (14 + (7 * (σ.1 (0)))) + 0) (by omega) (by decide) (by omega) dX6_paste_146 (fun H locs M48 hH hS e46 o47 => ?_)
                  have hM49 : Md G d (sg (nI 0) (nI (keepN σ.2.1)) (nI σ.2.2.2.2.2.1) at' w bm) (xs (vset (vset σ.1 (0) ((σ.1 (0)) + 1)) ((14 + (7 * (σ.1 (0)))) + 0) x') A U33 L K (fun i => nI (σ.2.2.2.2.2.2 i)) SE SH BU) M48 := Md.setJ (j := 1) hM42 (by decide) (zArr.to e46 (fun q _ => by show (if q = _ then nI _ else nI _) = nI (fset _ _ _ q); unfold fset; by_cases hq : q = (14 + (7 * (σ.1 (0)))) + 0 <;> (first | (simp [hq]; done) | (rw [if_pos hq, if_pos hq]; done) | (rw [if_neg hq, if_neg hq]; done) | (rw [if_pos hq, if_pos hq]; rfl) | (rw [if_neg hq, if_neg hq]; rfl)))) (fun i hi => by unfold xs; split <;> first | rfl | exact absurd rfl hi) o47
                  have hA51 := hM49.s (fun _ _ => rfl)
                  have hF52 := fun q hq => (o47 q (by omega)).trans (hF45 q hq)
                  refine lv_aload_n hx hb dX6_paste_147 rfl (lv_at hl 3 rfl) ?_
                  refine z_get (T := TX6) (v := .ref (d + 1)) hE hH hM49.1 rfl uw_X6 1 (by decide) fkX6_7 rfl dX6_paste_148 ?_
                  refine lv_iload hx hb dX6_paste_151 (lv_at hl 0 rfl) ?_
                  refine n_iconst hx hb 1 dX6_paste_153 (by decide) ?_
                  refine n_iadd hx hb dX6_paste_154 ?_
                  refine lv_iload_n hx hb dX6_paste_155 rfl (lv_at hl 5 rfl) ?_
                  refine z_iast hE hH hS hA51 (k := (14 + (7 * (σ.1 (0)))) + 1) (by omega) (by decide) (by omega) dX6_paste_156 (fun H locs M55 hH hS e53 o54 => ?_)
                  have hM56 : Md G d (sg (nI 0) (nI (keepN σ.2.1)) (nI σ.2.2.2.2.2.1) at' w bm) (xs (vset (vset (vset σ.1 (0) ((σ.1 (0)) + 1)) ((14 + (7 * (σ.1 (0)))) + 0) x') ((14 + (7 * (σ.1 (0)))) + 1) y') A U33 L K (fun i => nI (σ.2.2.2.2.2.2 i)) SE SH BU) M55 := Md.setJ (j := 1) hM49 (by decide) (zArr.to e53 (fun q _ => by show (if q = _ then nI _ else nI _) = nI (fset _ _ _ q); unfold fset; by_cases hq : q = (14 + (7 * (σ.1 (0)))) + 1 <;> (first | (simp [hq]; done) | (rw [if_pos hq, if_pos hq]; done) | (rw [if_neg hq, if_neg hq]; done) | (rw [if_pos hq, if_pos hq]; rfl) | (rw [if_neg hq, if_neg hq]; rfl)))) (fun i hi => by unfold xs; split <;> first | rfl | exact absurd rfl hi) o54
                  have hA58 := hM56.s (fun _ _ => rfl)
                  have hF59 := fun q hq => (o54 q (by omega)).trans (hF52 q hq)
                  refine lv_aload_n hx hb dX6_paste_157 rfl (lv_at hl 3 rfl) ?_
                  refine z_get (T := TX6) (v := .ref (d + 1)) hE hH hM56.1 rfl uw_X6 1 (by decide) fkX6_7 rfl dX6_paste_158 ?_
                  refine lv_iload hx hb dX6_paste_161 (lv_at hl 0 rfl) ?_
                  refine n_iconst hx hb 2 dX6_paste_163 (by decide) ?_
                  refine n_iadd hx hb dX6_paste_164 ?_
                  refine lv_iload_n hx hb dX6_paste_165 rfl (lv_at hl 6 rfl) ?_
                  refine z_iast hE hH hS hA58 (k := (14 + (7 * (σ.1 (0)))) + 2) (by omega) (by decide) (by omega) dX6_paste_166 (fun H locs M62 hH hS e60 o61 => ?_)
                  have hM63 : Md G d (sg (nI 0) (nI (keepN σ.2.1)) (nI σ.2.2.2.2.2.1) at' w bm) (xs (vset (vset (vset (vset σ.1 (0) ((σ.1 (0)) + 1)) ((14 + (7 * (σ.1 (0)))) + 0) x') ((14 + (7 * (σ.1 (0)))) + 1) y') ((14 + (7 * (σ.1 (0)))) + 2) wd') A U33 L K (fun i => nI (σ.2.2.2.2.2.2 i)) SE SH BU) M62 := Md.setJ (j := 1) hM56 (by decide) (zArr.to e60 (fun q _ => by show (if q = _ then nI _ else nI _) = nI (fset _ _ _ q); unfold fset; by_cases hq : q = (14 + (7 * (σ.1 (0)))) + 2 <;> (first | (simp [hq]; done) | (rw [if_pos hq, if_pos hq]; done) | (rw [if_neg hq, if_neg hq]; done) | (rw [if_pos hq, if_pos hq]; rfl) | (rw [if_neg hq, if_neg hq]; rfl)))) (fun i hi => by unfold xs; split <;> first | rfl | exact absurd rfl hi) o61
                  have hA65 := hM63.s (fun _ _ => rfl)
                  have hF66 := fun q hq => (o61 q (by omega)).trans (hF59 q hq)
                  refine lv_aload_n hx hb dX6_paste_167 rfl (lv_at hl 3 rfl) ?_
                  refine z_get (T := TX6) (v := .ref (d + 1)) hE hH hM63.1 rfl uw_X6 1 (by decide) fkX6_7 rfl dX6_paste_168 ?_
                  refine lv_iload hx hb dX6_paste_171 (lv_at hl 0 rfl) ?_
                  refine n_iconst hx hb 3 dX6_paste_173 (by decide) ?_
                  refine n_iadd hx hb dX6_paste_174 ?_
                  refine lv_iload hx hb dX6_paste_175 (lv_at hl 7 rfl) ?_
                  refine z_iast hE hH hS hA65 (k := (14 + (7 * (σ.1 (0)))) + 3) (by omega) (by decide) (by omega) dX6_paste_177 (fun H locs M69 hH hS e67 o68 => ?_)
                  have hM70 : Md G d (sg (nI 0) (nI (keepN σ.2.1)) (nI σ.2.2.2.2.2.1) at' w bm) (xs (vset (vset (vset (vset (vset σ.1 (0) ((σ.1 (0)) + 1)) ((14 + (7 * (σ.1 (0)))) + 0) x') ((14 + (7 * (σ.1 (0)))) + 1) y') ((14 + (7 * (σ.1 (0)))) + 2) wd') ((14 + (7 * (σ.1 (0)))) + 3) ht') A U33 L K (fun i => nI (σ.2.2.2.2.2.2 i)) SE SH BU) M69 := Md.setJ (j := 1) hM63 (by decide) (zArr.to e67 (fun q _ => by show (if q = _ then nI _ else nI _) = nI (fset _ _ _ q); unfold fset; by_cases hq : q = (14 + (7 * (σ.1 (0)))) + 3 <;> (first | (simp [hq]; done) | (rw [if_pos hq, if_pos hq]; done) | (rw [if_neg hq, if_neg hq]; done) | (rw [if_pos hq, if_pos hq]; rfl) | (rw [if_neg hq, if_neg hq]; rfl)))) (fun i hi => by unfold xs; split <;> first | rfl | exact absurd rfl hi) o68
                  have hA72 := hM70.s (fun _ _ => rfl)
                  have hF73 := fun q hq => (o68 q (by omega)).trans (hF66 q hq)
                  refine lv_aload_n hx hb dX6_paste_178 rfl (lv_at hl 3 rfl) ?_
                  refine z_get (T := TX6) (v := .ref (d + 1)) hE hH hM70.1 rfl uw_X6 1 (by decide) fkX6_7 rfl dX6_paste_179 ?_
                  refine lv_iload hx hb dX6_paste_182 (lv_at hl 0 rfl) ?_
                  refine n_iconst hx hb 4 dX6_paste_184 (by decide) ?_
                  refine n_iadd hx hb dX6_paste_185 ?_
                  refine lv_iload hx hb dX6_paste_186 (lv_at hl 8 rfl) ?_
                  refine z_iast hE hH hS hA72 (k := (14 + (7 * (σ.1 (0)))) + 4) (by omega) (by decide) (by omega) dX6_paste_188 (fun H locs M76 hH hS e74 o75 => ?_)
                  have hM77 : Md G d (sg (nI 0) (nI (keepN σ.2.1)) (nI σ.2.2.2.2.2.1) at' w bm) (xs (vset (vset (vset (vset (vset (vset σ.1 (0) ((σ.1 (0)) + 1)) ((14 + (7 * (σ.1 (0)))) + 0) x') ((14 + (7 * (σ.1 (0)))) + 1) y') ((14 + (7 * (σ.1 (0)))) + 2) wd') ((14 + (7 * (σ.1 (0)))) + 3) ht') ((14 + (7 * (σ.1 (0)))) + 4) p') A U33 L K (fun i => nI (σ.2.2.2.2.2.2 i)) SE SH BU) M76 := Md.setJ (j := 1) hM70 (by decide) (zArr.to e74 (fun q _ => by show (if q = _ then nI _ else nI _) = nI (fset _ _ _ q); unfold fset; by_cases hq : q = (14 + (7 * (σ.1 (0)))) + 4 <;> (first | (simp [hq]; done) | (rw [if_pos hq, if_pos hq]; done) | (rw [if_neg hq, if_neg hq]; done) | (rw [if_pos hq, if_pos hq]; rfl) | (rw [if_neg hq, if_neg hq]; rfl)))) (fun i hi => by unfold xs; split <;> first | rfl | exact absurd rfl hi) o75
                  have hA79 := hM77.s (fun _ _ => rfl)
                  have hF80 := fun q hq => (o75 q (by omega)).trans (hF73 q hq)
                  refine lv_aload_n hx hb dX6_paste_189 rfl (lv_at hl 3 rfl) ?_
                  refine z_get (T := TX6) (v := .ref (d + 1)) hE hH hM77.1 rfl uw_X6 1 (by decide) fkX6_7 rfl dX6_paste_190 ?_
                  refine lv_iload hx hb dX6_paste_193 (lv_at hl 0 rfl) ?_
                  refine n_iconst hx hb 5 dX6_paste_195 (by decide) ?_
                  refine n_iadd hx hb dX6_paste_196 ?_
                  refine n_iconst hx hb 0 dX6_paste_197 (by decide) ?_
                  refine z_iast hE hH hS hA79 (k := (14 + (7 * (σ.1 (0)))) + 5) (by omega) (by decide) (by omega) dX6_paste_198 (fun H locs M83 hH hS e81 o82 => ?_)
                  have hM84 : Md G d (sg (nI 0) (nI (keepN σ.2.1)) (nI σ.2.2.2.2.2.1) at' w bm) (xs (vset (vset (vset (vset (vset (vset (vset σ.1 (0) ((σ.1 (0)) + 1)) ((14 + (7 * (σ.1 (0)))) + 0) x') ((14 + (7 * (σ.1 (0)))) + 1) y') ((14 + (7 * (σ.1 (0)))) + 2) wd') ((14 + (7 * (σ.1 (0)))) + 3) ht') ((14 + (7 * (σ.1 (0)))) + 4) p') ((14 + (7 * (σ.1 (0)))) + 5) 0) A U33 L K (fun i => nI (σ.2.2.2.2.2.2 i)) SE SH BU) M83 := Md.setJ (j := 1) hM77 (by decide) (zArr.to e81 (fun q _ => by show (if q = _ then nI _ else nI _) = nI (fset _ _ _ q); unfold fset; by_cases hq : q = (14 + (7 * (σ.1 (0)))) + 5 <;> (first | (simp [hq]; done) | (rw [if_pos hq, if_pos hq]; done) | (rw [if_neg hq, if_neg hq]; done) | (rw [if_pos hq, if_pos hq]; rfl) | (rw [if_neg hq, if_neg hq]; rfl)))) (fun i hi => by unfold xs; split <;> first | rfl | exact absurd rfl hi) o82
                  have hA86 := hM84.s (fun _ _ => rfl)
                  have hF87 := fun q hq => (o82 q (by omega)).trans (hF80 q hq)
                  refine lv_aload_n hx hb dX6_paste_199 rfl (lv_at hl 3 rfl) ?_
                  refine z_get (T := TX6) (v := .ref (d + 1)) hE hH hM84.1 rfl uw_X6 1 (by decide) fkX6_7 rfl dX6_paste_200 ?_
                  refine lv_iload hx hb dX6_paste_203 (lv_at hl 0 rfl) ?_
                  refine n_bipush hx hb 6 dX6_paste_205 (by decide) ?_
                  refine n_iadd hx hb dX6_paste_207 ?_
                  refine n_iconst hx hb 0 dX6_paste_208 (by decide) ?_
                  refine z_iast hE hH hS hA86 (k := (14 + (7 * (σ.1 (0)))) + 6) (by omega) (by decide) (by omega) dX6_paste_209 (fun H locs M90 hH hS e88 o89 => ?_)
                  have hM91 : Md G d (sg (nI 0) (nI (keepN σ.2.1)) (nI σ.2.2.2.2.2.1) at' w bm) (xs (vset (vset (vset (vset (vset (vset (vset (vset σ.1 (0) ((σ.1 (0)) + 1)) ((14 + (7 * (σ.1 (0)))) + 0) x') ((14 + (7 * (σ.1 (0)))) + 1) y') ((14 + (7 * (σ.1 (0)))) + 2) wd') ((14 + (7 * (σ.1 (0)))) + 3) ht') ((14 + (7 * (σ.1 (0)))) + 4) p') ((14 + (7 * (σ.1 (0)))) + 5) 0) ((14 + (7 * (σ.1 (0)))) + 6) 0) A U33 L K (fun i => nI (σ.2.2.2.2.2.2 i)) SE SH BU) M90 := Md.setJ (j := 1) hM84 (by decide) (zArr.to e88 (fun q _ => by show (if q = _ then nI _ else nI _) = nI (fset _ _ _ q); unfold fset; by_cases hq : q = (14 + (7 * (σ.1 (0)))) + 6 <;> (first | (simp [hq]; done) | (rw [if_pos hq, if_pos hq]; done) | (rw [if_neg hq, if_neg hq]; done) | (rw [if_pos hq, if_pos hq]; rfl) | (rw [if_neg hq, if_neg hq]; rfl)))) (fun i hi => by unfold xs; split <;> first | rfl | exact absurd rfl hi) o89
                  have hA93 := hM91.s (fun _ _ => rfl)
                  have hF94 := fun q hq => (o89 q (by omega)).trans (hF87 q hq)
                  refine n_iconst hx hb 0 dX6_paste_210 (by decide) ?_
                  refine lv_istore (lv' := [(10, .int (nI 0)), (9, .int (nI (14 + (7 * (σ.1 (0)))))), (8, .int (nI (σ.1 (0)))), (7, .int (nI 1)), (0, .ref d), (1, .int (nI x')), (2, .int (nI y')), (3, .int (nI wd')), (4, .int (nI ht')), (5, .int (nI p')), (6, .int (nI vn'))]) hx hb dX6_paste_211 hl (by decide) rfl (fun ls hl => ?_)
                  have L213 : ∀ (dd : Nat) (k : Nat) (u : Wv) (M1 : Mm), 60 < k + dd → (k ≤ 60) → (Md G d (sg (nI 0) (nI (keepN σ.2.1)) (nI σ.2.2.2.2.2.1) at' w bm) (xs u A U33 L K (fun i => nI (σ.2.2.2.2.2.2 i)) SE SH BU) M1) → (∀ q, (q < d ∨ d + 10 ≤ q) → M1 q = M q) → (∀ i, u i = pstV σ.1 x' y' wd' ht' p' vn' k i) → ∀ (H : Heap) (locs : List Loc), zH G M1 H → zS 0 B0 s.heap H locs → ∀ (ls : Array Slot), lv_has ls 11 [(0, .ref d), (6, .int (nI vn')), (8, .int (nI (σ.1 0))), (10, .int (nI k))] → zW pg l ev 5 0 0 s m [.ref d, .int (nI x'), .int (nI y'), .int (nI wd'), .int (nI ht'), .int (nI p'), .int (nI vn')] below meth cd H locs 0 0 G B0 (some (.int (fPaste σ (nI x') (nI y') (nI wd') (nI ht') (nI p') (nI vn')).1)) (fun M1 => Mo G d (fPaste σ (nI x') (nI y') (nI wd') (nI ht') (nI p') (nI vn')).2 M1 ∧ ∀ q, (q < d ∨ d + 10 ≤ q) → M1 q = M q) (F0 m 213 ls []) := by
                    intro dd
                    induction dd with
                    | zero =>
                      intro k u M1 hdd hk hM1 hF1 hu
                      exact absurd hdd (by omega)
                    | succ dd ih =>
                      intro k u M1 hdd hk hM1 hF1 hu H locs hH hS ls hl
                      have hA1 : zArr G 0 M1 (d + 1) 818 (fun i => nI (u i)) := hM1.s (fun _ _ => rfl)
                      obtain ⟨hu0, r0, r1, r2, r3⟩ := pst_at hu
                      have hqr : 1 ≤ pv u (σ.1 0) 2 ∧ pv u (σ.1 0) 0 + pv u (σ.1 0) 2 ≤ 10 ∧ 1 ≤ pv u (σ.1 0) 3 ∧ pv u (σ.1 0) 1 + pv u (σ.1 0) 3 ≤ 6 := by rw [r0, r1, r2, r3]; omega
                      refine lv_iload hx hb dX6_paste_213 (lv_at hl 3 rfl) ?_
                      refine n_bipush hx hb 60 dX6_paste_215 (by decide) ?_
                      refine n_cmp_ge (tgt := 251) hx hb (by omega) (by decide) dX6_paste_217 (by decide) (fun h95 => ?_) (fun h95 => ?_)
                      · refine lv_iload hx hb dX6_paste_251 (lv_at hl 2 rfl) ?_
                        have hf : fPaste σ (nI x') (nI y') (nI wd') (nI ht') (nI p') (nI vn') = ((nI (σ.1 0)), (pasteV σ.1 x' y' wd' ht' p' vn', keepN σ.2.1, keepH σ.2.2.1 σ.2.1 σ.1, σ.2.2.2.1, σ.2.2.2.2.1, σ.2.2.2.2.2.1, σ.2.2.2.2.2.2)) := by
                          simp [fPaste, chg, sV, sN, sH, sS, sD, sL, sP, h8, tx10, tx11, h13, tx15, h17, tx19, h20, h22, hwd, hht, h26, tx27, h29, tx30, h31, h95]
                          try omega
                        rw [hf]
                        have hkk : k = 60 := by omega
                        subst hkk
                        exact z_iret hE hH hS rfl ⟨⟨_, _, _, _, _, _, _, _, _, _, _, hM1.to (j := 1) (fun i hi => congrArg nI ((hu i).trans (pst_e i))) (fun i hi => by unfold xs; split <;> first | rfl | exact absurd rfl hi), hU37, hL, hK⟩, hF1⟩ dX6_paste_253
                      · refine lv_aload_n hx hb dX6_paste_220 rfl (lv_at hl 0 rfl) ?_
                        refine lv_iload hx hb dX6_paste_221 (lv_at hl 2 rfl) ?_
                        refine lv_iload hx hb dX6_paste_223 (lv_at hl 3 rfl) ?_
                        refine lv_aload_n hx hb dX6_paste_225 rfl (lv_at hl 0 rfl) ?_
                        refine lv_iload hx hb dX6_paste_226 (lv_at hl 2 rfl) ?_
                        refine lv_iload hx hb dX6_paste_228 (lv_at hl 3 rfl) ?_
                        refine z_callV (rest := [.int (nI k), .int (nI (σ.1 0)), .ref d]) (st2 := [.int (zb (liesN (pv u (σ.1 0)) (k % 10) (k / 10))), .int (nI k), .int (nI (σ.1 0)), .ref d]) hE hH hS hB0 hl ca_X6_lies mkX6_53 (c_X6_lies0 l G B0 M1 d (sg (nI 0) (nI (keepN σ.2.1)) (nI σ.2.2.2.2.2.1) at' w bm) (xs u A U33 L K (fun i => nI (σ.2.2.2.2.2.2 i)) SE SH BU) hM1 u (fun _ _ => rfl) (σ.1 0) k (by omega) hqr (by omega)) hM1.1 rfl rfl rfl rfl rfl ⟨Nat.le_of_ble_eq_true rfl, Nat.le_of_ble_eq_true rfl⟩ (Nat.le_of_ble_eq_true rfl) ⟨Nat.le_refl _, Nat.le_refl _⟩ dX6_paste_230 (fun H locs M1 hH hp hS => ?_)
                        subst hp
                        refine b_if_eq (tgt := 241) hx hb dX6_paste_233 (by decide) (fun h98 => ?_) (fun h98 => ?_)
                        · refine n_iconst hx hb 0 dX6_paste_241 (by decide) ?_
                          refine z_callV (rest := []) (st2 := []) hE hH hS hB0 hl ca_X6_lays mkX6_63 (c_X6_lays0 l G B0 M1 d (sg (nI 0) (nI (keepN σ.2.1)) (nI σ.2.2.2.2.2.1) at' w bm) u A U33 L K (fun i => nI (σ.2.2.2.2.2.2 i)) SE SH BU hM1 (by omega) (σ.1 0) k 0 (by omega) (by omega)) hM1.1 rfl rfl rfl rfl rfl ⟨Nat.le_of_ble_eq_true rfl, Nat.le_of_ble_eq_true rfl⟩ (Nat.le_of_ble_eq_true rfl) ⟨Nat.le_refl _, Nat.le_refl _⟩ dX6_paste_242 (fun H locs M99 hH hp hS => ?_)
                          obtain ⟨hM100, hG101⟩ := hp
                          have hA103 := hM100.s (fun _ _ => rfl)
                          have hF102 := fun q hq => (hG101 q hq).trans (hF1 q hq)
                          refine lv_iinc (v := (nI (k + 1))) (lv' := [(10, .int (nI (k + 1))), (0, .ref d), (6, .int (nI vn')), (8, .int (nI (σ.1 0)))]) hx hb dX6_paste_245 hl (k := 3) rfl (nI_inc _) (by decide) rfl (fun ls hl => ?_)
                          refine lv_goto (tgt := 213) hx hb dX6_paste_248 (by decide) ?_
                          exact ih  (k + 1) (vset u (98 + 60 * (σ.1 0) + k) 0) M99 (by omega) (by omega) hM100 hF102 (pst_s hu (by rw [if_neg (by rw [h98]; decide)])) _ _ hH hS _ (lv_sub hl [1, 2, 3, 0] rfl)
                        · refine lv_iload hx hb dX6_paste_236 (lv_at hl 1 rfl) ?_
                          refine lv_goto (tgt := 242) hx hb dX6_paste_238 (by decide) ?_
                          refine z_callV (rest := []) (st2 := []) hE hH hS hB0 hl ca_X6_lays mkX6_63 (c_X6_lays0 l G B0 M1 d (sg (nI 0) (nI (keepN σ.2.1)) (nI σ.2.2.2.2.2.1) at' w bm) u A U33 L K (fun i => nI (σ.2.2.2.2.2.2 i)) SE SH BU hM1 (by omega) (σ.1 0) k vn' (by omega) (by omega)) hM1.1 rfl rfl rfl rfl rfl ⟨Nat.le_of_ble_eq_true rfl, Nat.le_of_ble_eq_true rfl⟩ (Nat.le_of_ble_eq_true rfl) ⟨Nat.le_refl _, Nat.le_refl _⟩ dX6_paste_242 (fun H locs M104 hH hp hS => ?_)
                          obtain ⟨hM105, hG106⟩ := hp
                          have hA108 := hM105.s (fun _ _ => rfl)
                          have hF107 := fun q hq => (hG106 q hq).trans (hF1 q hq)
                          refine lv_iinc (v := (nI (k + 1))) (lv' := [(10, .int (nI (k + 1))), (0, .ref d), (6, .int (nI vn')), (8, .int (nI (σ.1 0)))]) hx hb dX6_paste_245 hl (k := 3) rfl (nI_inc _) (by decide) rfl (fun ls hl => ?_)
                          refine lv_goto (tgt := 213) hx hb dX6_paste_248 (by decide) ?_
                          exact ih  (k + 1) (vset u (98 + 60 * (σ.1 0) + k) vn') M104 (by omega) (by omega) hM105 hF107 (pst_s hu (by rw [if_pos h98])) _ _ hH hS _ (lv_sub hl [1, 2, 3, 0] rfl)
                  exact L213 61 0 (vset (vset (vset (vset (vset (vset (vset (vset σ.1 (0) ((σ.1 (0)) + 1)) ((14 + (7 * (σ.1 (0)))) + 0) x') ((14 + (7 * (σ.1 (0)))) + 1) y') ((14 + (7 * (σ.1 (0)))) + 2) wd') ((14 + (7 * (σ.1 (0)))) + 3) ht') ((14 + (7 * (σ.1 (0)))) + 4) p') ((14 + (7 * (σ.1 (0)))) + 5) 0) ((14 + (7 * (σ.1 (0)))) + 6) 0) M90 (by omega) (by omega) hM91 hF94 (fun i => pst_0 i) _ _ hH hS _ (lv_sub hl [4, 10, 2, 0] rfl)
                · refine lv_bipush (v := (-4)) hx hb dX6_paste_102 (by decide) ?_
                  have hf : fPaste σ (nI x') (nI y') (nI wd') (nI ht') (nI p') (nI vn') = ((-4), (σ.1, σ.2.1, σ.2.2.1, σ.2.2.2.1, σ.2.2.2.2.1, σ.2.2.2.2.2.1, σ.2.2.2.2.2.2)) := by
                    simp [fPaste, chg, sV, sN, sH, sS, sD, sL, sP, h8, tx10, tx11, h13, tx15, h17, tx19, h20, h22, hwd, hht, h26, tx27, h29, tx30, h31]
                    try omega
                  rw [hf]
                  exact z_iret hE hH hS rfl ⟨⟨_, _, _, _, _, _, _, _, _, _, _, hM4, hU, hL, hK⟩, hF6⟩ dX6_paste_104
              · refine lv_bipush (v := (-2)) hx hb dX6_paste_88 (by decide) ?_
                have hf : fPaste σ (nI x') (nI y') (nI wd') (nI ht') (nI p') vn = ((-2), (σ.1, σ.2.1, σ.2.2.1, σ.2.2.2.1, σ.2.2.2.2.1, σ.2.2.2.2.2.1, σ.2.2.2.2.2.2)) := by
                  simp [fPaste, chg, sV, sN, sH, sS, sD, sL, sP, h8, tx10, tx11, h13, tx15, h17, tx19, h20, h22, hwd, hht, h26, tx27, h29]
                  try omega
                rw [hf]
                exact z_iret hE hH hS rfl ⟨⟨_, _, _, _, _, _, _, _, _, _, _, hM4, hU, hL, hK⟩, hF6⟩ dX6_paste_90
