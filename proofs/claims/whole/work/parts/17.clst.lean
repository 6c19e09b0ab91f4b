theorem Cl.setWP {G : zG} {b : Nat} {v : Wv} {hn : Nat} {hist sl : Nat → Wv} {sd : Nat → Bool} {len : Nat} {ps : Nat → Nat} {M M1 : Mm} {v2 : Wv} (h : Cl G b (v, hn, hist, sl, sd, len, ps) M) (hn6 : hn ≤ 6) (hh : ∀ k, k < hn → wOk (hist k)) (hs : ∀ k, k < 2 → sd k = true → wOk (sl k)) (hw : Wl G (b + 1) v2 M1) (hp : PaM G b len ps M1) (o : ∀ q, q ≠ b + 275 + 2 ∧ (q < b + 1 ∨ b + 1 + 27 ≤ q) → M1 q = M q) : Cl G b (v2, hn, hist, sl, sd, len, ps) M1 :=
  ⟨h.1.kept (o _ (by omega)), hw, h.2.2.1.kept (fun q a c => o q (by omega)), h.2.2.2.1.kept hn6 hh (fun q a c => o q (by omega)), h.2.2.2.2.1.kept hs (fun q a c => o q (by omega)), hp⟩
theorem Cl.setWH {G : zG} {b : Nat} {v : Wv} {hn : Nat} {hist sl : Nat → Wv} {sd : Nat → Bool} {len : Nat} {ps : Nat → Nat} {M M1 : Mm} {v2 : Wv} {hn2 : Nat} {hist2 : Nat → Wv} (h : Cl G b (v, hn, hist, sl, sd, len, ps) M) (hs : ∀ k, k < 2 → sd k = true → wOk (sl k)) (hw : Wl G (b + 1) v2 M1) (hH : Hs G (b + 55) hn2 hist2 M1) (o : ∀ q, q ≠ b + 55 → (q < b + 1 ∨ b + 1 + 27 ≤ q) → M1 q = M q) : Cl G b (v2, hn2, hist2, sl, sd, len, ps) M1 :=
  ⟨h.1.kept (o _ (by omega) (by omega)), hw, h.2.2.1.kept (fun q a c => o q (by omega) (by omega)), hH, h.2.2.2.2.1.kept hs (fun q a c => o q (by omega) (by omega)), h.2.2.2.2.2.kept (fun q a c => o q (by omega) (by omega))⟩
theorem Cl.setS {G : zG} {b : Nat} {v : Wv} {hn : Nat} {hist sl : Nat → Wv} {sd : Nat → Bool} {len : Nat} {ps : Nat → Nat} {M M1 : Mm} {sl2 : Nat → Wv} {sd2 : Nat → Bool} (h : Cl G b (v, hn, hist, sl, sd, len, ps) M) (hv : wOk v) (hn6 : hn ≤ 6) (hh : ∀ k, k < hn → wOk (hist k)) (hS : SlM G b sl2 sd2 M1) (o : ∀ q, (q < b + 219 ∨ b + 275 ≤ q) → M1 q = M q) : Cl G b (v, hn, hist, sl2, sd2, len, ps) M1 :=
  ⟨h.1.kept (o _ (by omega)), h.2.1.kept hv.1 (fun q a c => o q (by omega)), h.2.2.1.kept (fun q a c => o q (by omega)), h.2.2.2.1.kept hn6 hh (fun q a c => o q (by omega)), hS, h.2.2.2.2.2.kept (fun q a c => o q (by omega))⟩
theorem SlM.setW {G : zG} {b k : Nat} {sl : Nat → Wv} {sd : Nat → Bool} {M M1 : Mm} {v : Wv} (h : SlM G b sl sd M) (hs : ∀ k, k < 2 → sd k = true → wOk (sl k)) (hk : k < 2) (hv : v 0 ≤ 12) (hw : Wl G (b + 220 + 27 * k) v M1) (o : ∀ q, (q < b + 220 + 27 * k ∨ b + 220 + 27 * k + 27 ≤ q) → M1 q = M q) : SlM G b (fun i => if i = k then v else sl i) sd M1 := by
  obtain ⟨h1, h2, h3, h4⟩ := h
  refine ⟨h1.kept (o _ (by omega)), h2.kept (o _ (by omega)), fun i hi => ?_, fun i hi hd => ?_⟩
  · by_cases hik : i = k
    · subst hik; exact ⟨v, hv, hw⟩
    · obtain ⟨v2, hv2, hw2⟩ := h3 i hi
      exact ⟨v2, hv2, hw2.kept hv2 (fun q a c => o q (by omega))⟩
  · show Wl G _ (if i = k then v else sl i) M1
    by_cases hik : i = k
    · subst hik; rw [if_pos rfl]; exact hw
    · rw [if_neg hik]
      exact (h4 i hi hd).kept (hs i hi hd).1 (fun q a c => o q (by omega))
theorem SlM.setD {G : zG} {b k : Nat} {sl : Nat → Wv} {sd : Nat → Bool} {M M1 : Mm} (h : SlM G b sl sd M) (hs : ∀ k, k < 2 → sd k = true → wOk (sl k)) (hk : k < 2) (hw : Wl G (b + 220 + 27 * k) (sl k) M) (hv : (sl k) 0 ≤ 12) (e : zArr G 3 M1 (b + 274) 2 (fun i => if i = k then nI 1 else zb (sd i))) (o : ∀ q : Nat, q ≠ b + 274 → M1 q = M q) : SlM G b sl (fun i => if i = k then true else sd i) M1 := by
  obtain ⟨h1, h2, h3, h4⟩ := h
  refine ⟨h1.kept (o _ (by omega)), e.to fun i hi => ?_, fun i hi => ?_, fun i hi hd => ?_⟩
  · show (if i = k then nI 1 else zb (sd i)) = zb (if i = k then true else sd i)
    by_cases hik : i = k
    · rw [if_pos hik, if_pos hik]; rfl
    · rw [if_neg hik, if_neg hik]
  · obtain ⟨v2, hv2, hw2⟩ := h3 i hi
    exact ⟨v2, hv2, hw2.kept hv2 (fun q a c => o q (by omega))⟩
  · by_cases hik : i = k
    · subst hik; exact hw.kept hv (fun q a c => o q (by omega))
    · have hd2 : (if i = k then true else sd i) = true := hd
      rw [if_neg hik] at hd2
      exact (h4 i hi hd2).kept (hs i hi hd2).1 (fun q a c => o q (by omega))

theorem zfind_lt {p : Nat → Bool} : ∀ {n k : Nat}, zfind p n = some k → k < n
  | n + 1, k, h => by
    unfold zfind at h
    cases hz : zfind p n with
    | some i => rw [hz] at h; have h2 : some i = some k := h; cases h2; have := zfind_lt hz; omega
    | none =>
      rw [hz] at h
      have h2 : (if p n = true then some n else none) = some k := h
      split at h2
      · cases h2; omega
      · cases h2
theorem flt_le {ps : Nat → Nat} {len j : Nat} (h : flt ps len = some j) : j ≤ len := by
  unfold flt ffR at h
  cases hz : zfind (bad g0 ps) len with
  | some i => rw [hz] at h; have h2 : some i = some j := h; cases h2; have := zfind_lt hz; omega
  | none =>
    rw [hz] at h
    have h2 : (if (rst g0 ps len).1 = 4 then none else some len) = some j := h
    split at h2
    · cases h2
    · cases h2; omega

set_option maxHeartbeats 4000000 in
set_option maxRecDepth 100000 in
theorem c_X5_ifPassed (l : Launch) (G : zG) (B0 : Nat) (M : Mm) (σ : Sg) (b : Nat) (hC : Cl G b σ M) (hok : sOk σ) (hBb : B0 ≤ b) (d c : Int32) : zMet l yX5_ifPassed cX5_ifPassed 4 (some .int) 5 0 0 G B0 M [.ref b, .int d, .int c] (some (.int (fIf σ d c))) (fun M1 => Cl G b σ M1 ∧ ∀ q, (q < b ∨ b + 278 ≤ q) → M1 q = M q) := by
  refine z_met RX5 [(0, .ref b), (1, .int d), (2, .int c)] (by decide) rfl (Nat.le_of_ble_eq_true rfl) rfl ?_
  intro pg ev s m below meth cd ls hE hin hB0 hH hl
  have hx := hE.1
  have hb := hE.2.1
  have hv : wOk σ.1 := hok.hw
  have hn : σ.1 0 ≤ 12 := hv.1
  have hdy : σ.1 1 ≤ 9999 := hok.1.2
  have hn6 : σ.2.1 ≤ 6 := hok.2.1
  have hhv : ∀ k, k < σ.2.1 → wOk (σ.2.2.1 k) := hok.hh
  have hsv : ∀ k, k < 2 → σ.2.2.2.2.1 k = true → wOk (σ.2.2.2.1 k) := hok.hs
  have hln : σ.2.2.2.2.2.1 ≤ 60 := hok.2.2.2.2.1
  obtain ⟨r, hr, hW⟩ := hC.2.1
  have hF : ∀ q, (q < b ∨ b + 278 ≤ q) → M q = M q := fun _ _ => rfl
  have hps : ∀ i, i < σ.2.2.2.2.2.1 → σ.2.2.2.2.2.2 i < 128 := fun i hi => Nat.lt_of_le_of_lt (hok.2.2.2.2.2 i hi).2 (by decide)
  refine z_gen B0 (fun H locs hH hS => ?_) hH
  refine lv_iload_n hx hb dX5_ifPassed_0 rfl (lv_at hl 1 rfl) ?_
  refine n_iconst hx hb 1 dX5_ifPassed_1 (by decide) ?_
  refine n_bipush hx hb 100 dX5_ifPassed_2 (by decide) ?_
  refine z_callS (rest := []) (st2 := [.int (zb (wi d (nI 1) (nI 100)))]) hE hH hS hB0 hl ca_X5_isWithin mkX5_45 (c_X5_isWithin l G B0 M d (nI 1) (nI 100)) rfl rfl rfl ⟨Nat.le_of_ble_eq_true rfl, Nat.le_of_ble_eq_true rfl⟩ (Nat.le_of_ble_eq_true rfl) ⟨Nat.le_refl _, Nat.le_refl _⟩ dX5_ifPassed_4 (fun H locs M1 hH hp hS => ?_)
  subst hp
  refine b_if_eq (tgt := 19) hx hb dX5_ifPassed_7 (by decide) (fun h2 => ?_) (fun h2 => ?_)
  · refine lv_bipush (v := (-2)) hx hb dX5_ifPassed_19 (by decide) ?_
    have hf : (fIf σ d c) = (-2) := by
      simp [fIf, sV, sN, sL, h2]
    rw [hf]
    exact z_iret hE hH hS rfl ⟨hC, hF⟩ dX5_ifPassed_21
  · obtain ⟨d', rfl, d1, d2⟩ := wi_nat (by decide) (by decide) h2
    have tx3 : tn (nI d') = d' := tn_nI (by omega)
    refine lv_iload_n hx hb dX5_ifPassed_10 rfl (lv_at hl 2 rfl) ?_
    refine n_iconst hx hb 0 dX5_ifPassed_11 (by decide) ?_
    refine n_iconst hx hb 2 dX5_ifPassed_12 (by decide) ?_
    refine z_callS (rest := []) (st2 := [.int (zb (wi c (nI 0) (nI 2)))]) hE hH hS hB0 hl ca_X5_isWithin mkX5_45 (c_X5_isWithin l G B0 M c (nI 0) (nI 2)) rfl rfl rfl ⟨Nat.le_of_ble_eq_true rfl, Nat.le_of_ble_eq_true rfl⟩ (Nat.le_of_ble_eq_true rfl) ⟨Nat.le_refl _, Nat.le_refl _⟩ dX5_ifPassed_13 (fun H locs M1 hH hp hS => ?_)
    subst hp
    refine b_if_ne (tgt := 22) hx hb dX5_ifPassed_16 (by decide) (fun h5 => ?_) (fun h5 => ?_)
    · obtain ⟨c', rfl, c1, c2⟩ := wi_nat (by decide) (by decide) h5
      have tx6 : tn (nI c') = c' := tn_nI (by omega)
      refine lv_aload_n hx hb dX5_ifPassed_22 rfl (lv_at hl 0 rfl) ?_
      refine z_get (T := TX5) (v := .ref (b + 28)) hE hH hC.1 rfl uw_X5 1 (by decide) fkX5_16 rfl dX5_ifPassed_23 ?_
      refine lv_aload_n hx hb dX5_ifPassed_26 rfl (lv_at hl 0 rfl) ?_
      refine z_get (T := TX5) (v := .ref (b + 1)) hE hH hC.1 rfl uw_X5 0 (by decide) fkX5_12 rfl dX5_ifPassed_27 ?_
      obtain ⟨vl, hvl, rl, hrl, hWl⟩ := hC.2.2.1
      refine z_callV (rest := []) (st2 := []) hE hH hS hB0 hl ca_X4_copyFrom mkX5_190 (c_X4_copyFrom l G B0 M (b + 28) rl vl hWl hrl hvl (by omega) (b + 1) r σ.1 hW hr hv (by omega)) hWl.1 rfl rfl rfl rfl rfl ⟨Nat.le_of_ble_eq_true rfl, Nat.le_of_ble_eq_true rfl⟩ (Nat.le_of_ble_eq_true rfl) ⟨Nat.le_refl _, Nat.le_refl _⟩ dX5_ifPassed_30 (fun H locs M7 hH hp hS => ?_)
      obtain ⟨hL8, hG9⟩ := hp
      have hC10 : Cl G b (σ.1, σ.2.1, σ.2.2.1, σ.2.2.2.1, σ.2.2.2.2.1, σ.2.2.2.2.2.1, σ.2.2.2.2.2.2) M7 := Cl.setL (v := σ.1) (hn := σ.2.1) (hist := σ.2.2.1) (sl := σ.2.2.2.1) (sd := σ.2.2.2.2.1) (len := σ.2.2.2.2.2.1) (ps := σ.2.2.2.2.2.2) hC hv hn6 hhv hsv ⟨_, hv.1, rl, hrl, hL8⟩ hG9
      have hW11 := WlR.kept hr hv.1 hW (fun q q1 q2 => hG9 q (by omega))
      have hF12 := fun q hq => (hG9 q (by omega)).trans (hF q hq)
      refine lv_aload_n hx hb dX5_ifPassed_33 rfl (lv_at hl 0 rfl) ?_
      refine z_get (T := TX5) (v := .ref (b + 28)) hE hH hC10.1 rfl uw_X5 1 (by decide) fkX5_16 rfl dX5_ifPassed_34 ?_
      refine lv_iload_n hx hb dX5_ifPassed_37 rfl (lv_at hl 1 rfl) ?_
      refine z_callV (rest := []) (st2 := [.int (nI (fadS σ.1 d'))]) hE hH hS hB0 hl ca_X4_fade mkX5_110 (c_X4_fade l G B0 M7 (b + 28) rl σ.1 hL8 hrl hv (by omega) d' (by omega)) hL8.1 rfl rfl rfl rfl rfl ⟨Nat.le_of_ble_eq_true rfl, Nat.le_of_ble_eq_true rfl⟩ (Nat.le_of_ble_eq_true rfl) ⟨Nat.le_refl _, Nat.le_refl _⟩ dX5_ifPassed_38 (fun H locs M13 hH hp hS => ?_)
      have hv14 : wOk (fadA σ.1 d' 60) := (fadA_keep hv _ _ (Nat.le_refl _)).1
      obtain ⟨hL15, hG16⟩ := hp
      have hC17 : Cl G b (σ.1, σ.2.1, σ.2.2.1, σ.2.2.2.1, σ.2.2.2.2.1, σ.2.2.2.2.2.1, σ.2.2.2.2.2.2) M13 := Cl.setL (v := σ.1) (hn := σ.2.1) (hist := σ.2.2.1) (sl := σ.2.2.2.1) (sd := σ.2.2.2.2.1) (len := σ.2.2.2.2.2.1) (ps := σ.2.2.2.2.2.2) hC10 hv hn6 hhv hsv ⟨_, hv14.1, rl, hrl, hL15⟩ hG16
      have hW18 := WlR.kept hr hv.1 hW11 (fun q q1 q2 => hG16 q (by omega))
      have hF19 := fun q hq => (hG16 q (by omega)).trans (hF12 q hq)
      refine lv_istore_n (lv' := [(3, .int (nI (fadS σ.1 d'))), (0, .ref b), (1, .int (nI d')), (2, .int (nI c'))]) hx hb dX5_ifPassed_41 rfl hl (by decide) rfl (fun ls hl => ?_)
      refine lv_iload_n hx hb dX5_ifPassed_42 rfl (lv_at hl 3 rfl) ?_
      rcases (show c' = 0 ∨ c' = 1 ∨ c' = 2 by omega) with rfl | rfl | rfl
      · refine lv_lookup (tgt := 68) hx hb dX5_ifPassed_43 (by decide +kernel) (off := 25) (by decide +kernel) (by decide) ?_
        refine lv_iload_n hx hb dX5_ifPassed_68 rfl (lv_at hl 0 rfl) ?_
        have hf : (fIf σ (nI d') (nI 0)) = (nI (fadS σ.1 d')) := by
          simp [fIf, sV, sN, sL, h2, tx3, h5, tx6]
        rw [hf]
        exact z_iret hE hH hS rfl ⟨hC17, hF19⟩ dX5_ifPassed_69
      · refine lv_lookup (tgt := 70) hx hb dX5_ifPassed_43 (by decide +kernel) (off := 27) (by decide +kernel) (by decide) ?_
        refine lv_aload_n hx hb dX5_ifPassed_70 rfl (lv_at hl 1 rfl) ?_
        refine z_get (T := TX5) (v := .ref (b + 28)) hE hH hC17.1 rfl uw_X5 1 (by decide) fkX5_16 rfl dX5_ifPassed_71 ?_
        refine lv_aload_n hx hb dX5_ifPassed_74 rfl (lv_at hl 1 rfl) ?_
        refine z_get (T := TX5) (v := .ref (b + 1)) hE hH hC17.1 rfl uw_X5 0 (by decide) fkX5_12 rfl dX5_ifPassed_75 ?_
        refine z_callV (rest := []) (st2 := [.int (nI (unlikeW (fadA σ.1 d' 60) σ.1))]) hE hH hS hB0 hl ca_X4_pricesUnlike mkX5_193 (c_X4_pricesUnlike l G B0 M13 (b + 28) rl (fadA σ.1 d' 60) hL15 hrl hv14 (b + 1) r σ.1 hW18 hr hv) hL15.1 rfl rfl rfl rfl rfl ⟨Nat.le_of_ble_eq_true rfl, Nat.le_of_ble_eq_true rfl⟩ (Nat.le_of_ble_eq_true rfl) ⟨Nat.le_refl _, Nat.le_refl _⟩ dX5_ifPassed_78 (fun H locs M1 hH hp hS => ?_)
        subst hp
        have hf : (fIf σ (nI d') (nI 1)) = (nI (unlikeW (fadA σ.1 d' 60) σ.1)) := by
          simp [fIf, sV, sN, sL, h2, tx3, h5, tx6]
        rw [hf]
        exact z_iret hE hH hS rfl ⟨hC17, hF19⟩ dX5_ifPassed_81
      · refine lv_lookup (tgt := 82) hx hb dX5_ifPassed_43 (by decide +kernel) (off := 39) (by decide +kernel) (by decide) ?_
        refine lv_aload_n hx hb dX5_ifPassed_82 rfl (lv_at hl 1 rfl) ?_
        refine z_get (T := TX5) (v := .ref (b + 28)) hE hH hC17.1 rfl uw_X5 1 (by decide) fkX5_16 rfl dX5_ifPassed_83 ?_
        refine lv_bipush (v := (-6)) hx hb dX5_ifPassed_86 (by decide) ?_
        refine z_callV (rest := []) (st2 := [.int (nI (sumW (fadA σ.1 d' 60) (-6)))]) hE hH hS hB0 hl ca_X4_sumWithout mkX5_176 (c_X4_sumWithout l G B0 M13 (b + 28) rl (fadA σ.1 d' 60) hL15 hrl hv14 (-6)) hL15.1 rfl rfl rfl rfl rfl ⟨Nat.le_of_ble_eq_true rfl, Nat.le_of_ble_eq_true rfl⟩ (Nat.le_of_ble_eq_true rfl) ⟨Nat.le_refl _, Nat.le_refl _⟩ dX5_ifPassed_88 (fun H locs M1 hH hp hS => ?_)
        subst hp
        have q20 := sumW_le hv14 (-6)
        have hf : (fIf σ (nI d') (nI 2)) = (nI (sumW (fadA σ.1 d' 60) (-6))) := by
          simp [fIf, sV, sN, sL, h2, tx3, h5, tx6]
        rw [hf]
        exact z_iret hE hH hS rfl ⟨hC17, hF19⟩ dX5_ifPassed_91
    · refine lv_bipush (v := (-2)) hx hb dX5_ifPassed_19 (by decide) ?_
      have hf : (fIf σ (nI d') c) = (-2) := by
        simp [fIf, sV, sN, sL, h2, tx3, h5]
      rw [hf]
      exact z_iret hE hH hS rfl ⟨hC, hF⟩ dX5_ifPassed_21

set_option maxHeartbeats 4000000 in
set_option maxRecDepth 100000 in
theorem c_X5_willShow (l : Launch) (G : zG) (B0 : Nat) (M : Mm) (σ : Sg) (b : Nat) (hC : Cl G b σ M) (hok : sOk σ) (hBb : B0 ≤ b) (x y d : Int32) : zMet l yX5_willShow cX5_willShow 5 (some .int) 5 0 0 G B0 M [.ref b, .int x, .int y, .int d] (some (.int (fWill σ x y d))) (fun M1 => Cl G b σ M1 ∧ ∀ q, (q < b ∨ b + 278 ≤ q) → M1 q = M q) := by
  refine z_met RX5 [(0, .ref b), (1, .int x), (2, .int y), (3, .int d)] (by decide) rfl (Nat.le_of_ble_eq_true rfl) rfl ?_
  intro pg ev s m below meth cd ls hE hin hB0 hH hl
  have hx := hE.1
  have hb := hE.2.1
  have hv : wOk σ.1 := hok.hw
  have hn : σ.1 0 ≤ 12 := hv.1
  have hdy : σ.1 1 ≤ 9999 := hok.1.2
  have hn6 : σ.2.1 ≤ 6 := hok.2.1
  have hhv : ∀ k, k < σ.2.1 → wOk (σ.2.2.1 k) := hok.hh
  have hsv : ∀ k, k < 2 → σ.2.2.2.2.1 k = true → wOk (σ.2.2.2.1 k) := hok.hs
  have hln : σ.2.2.2.2.2.1 ≤ 60 := hok.2.2.2.2.1
  obtain ⟨r, hr, hW⟩ := hC.2.1
  have hF : ∀ q, (q < b ∨ b + 278 ≤ q) → M q = M q := fun _ _ => rfl
  have hps : ∀ i, i < σ.2.2.2.2.2.1 → σ.2.2.2.2.2.2 i < 128 := fun i hi => Nat.lt_of_le_of_lt (hok.2.2.2.2.2 i hi).2 (by decide)
  refine z_gen B0 (fun H locs hH hS => ?_) hH
  refine lv_iload_n hx hb dX5_willShow_0 rfl (lv_at hl 1 rfl) ?_
  refine lv_iload_n hx hb dX5_willShow_1 rfl (lv_at hl 2 rfl) ?_
  refine z_callS (rest := []) (st2 := [.int (zb (isC x y))]) hE hH hS hB0 hl ca_X5_isCell mkX5_41 (c_X5_isCell l G B0 M x y) rfl rfl rfl ⟨Nat.le_of_ble_eq_true rfl, Nat.le_of_ble_eq_true rfl⟩ (Nat.le_of_ble_eq_true rfl) ⟨Nat.le_refl _, Nat.le_refl _⟩ dX5_willShow_2 (fun H locs M1 hH hp hS => ?_)
  subst hp
  refine b_if_ne (tgt := 10) hx hb dX5_willShow_5 (by decide) (fun h2 => ?_) (fun h2 => ?_)
  · obtain ⟨x', y', rfl, rfl, x9, y9⟩ := isC_nat h2
    have tx3 : tn (nI x') = x' := tn_nI (by omega)
    have tx4 : tn (nI y') = y' := tn_nI (by omega)
    refine lv_iload_n hx hb dX5_willShow_10 rfl (lv_at hl 3 rfl) ?_
    refine n_iconst hx hb 1 dX5_willShow_11 (by decide) ?_
    refine n_sipush hx hb 200 dX5_willShow_12 (by decide) ?_
    refine z_callS (rest := []) (st2 := [.int (zb (wi d (nI 1) (nI 200)))]) hE hH hS hB0 hl ca_X5_isWithin mkX5_45 (c_X5_isWithin l G B0 M d (nI 1) (nI 200)) rfl rfl rfl ⟨Nat.le_of_ble_eq_true rfl, Nat.le_of_ble_eq_true rfl⟩ (Nat.le_of_ble_eq_true rfl) ⟨Nat.le_refl _, Nat.le_refl _⟩ dX5_willShow_15 (fun H locs M1 hH hp hS => ?_)
    subst hp
    refine b_if_ne (tgt := 24) hx hb dX5_willShow_18 (by decide) (fun h6 => ?_) (fun h6 => ?_)
    · obtain ⟨d', rfl, d1, d2⟩ := wi_nat (by decide) (by decide) h6
      have tx7 : tn (nI d') = d' := tn_nI (by omega)
      refine lv_iload_n hx hb dX5_willShow_24 rfl (lv_at hl 1 rfl) ?_
      refine lv_iload_n hx hb dX5_willShow_25 rfl (lv_at hl 2 rfl) ?_
      refine z_callS (rest := []) (st2 := [.int (nI (y' * 10 + x'))]) hE hH hS hB0 hl ca_X5_cellAt mkX5_77 (c_X5_cellAt l G B0 M x' y') rfl rfl rfl ⟨Nat.le_of_ble_eq_true rfl, Nat.le_of_ble_eq_true rfl⟩ (Nat.le_of_ble_eq_true rfl) ⟨Nat.le_refl _, Nat.le_refl _⟩ dX5_willShow_26 (fun H locs M1 hH hp hS => ?_)
      subst hp
      refine lv_istore (lv' := [(4, .int (nI (y' * 10 + x'))), (0, .ref b), (1, .int (nI x')), (2, .int (nI y')), (3, .int (nI d'))]) hx hb dX5_willShow_29 hl (by decide) rfl (fun ls hl => ?_)
      refine lv_aload_n hx hb dX5_willShow_31 rfl (lv_at hl 1 rfl) ?_
      refine z_get (T := TX5) (v := .ref (b + 28)) hE hH hC.1 rfl uw_X5 1 (by decide) fkX5_16 rfl dX5_willShow_32 ?_
      refine lv_aload_n hx hb dX5_willShow_35 rfl (lv_at hl 1 rfl) ?_
      refine z_get (T := TX5) (v := .ref (b + 1)) hE hH hC.1 rfl uw_X5 0 (by decide) fkX5_12 rfl dX5_willShow_36 ?_
      obtain ⟨vl, hvl, rl, hrl, hWl⟩ := hC.2.2.1
      refine z_callV (rest := []) (st2 := []) hE hH hS hB0 hl ca_X4_copyFrom mkX5_190 (c_X4_copyFrom l G B0 M (b + 28) rl vl hWl hrl hvl (by omega) (b + 1) r σ.1 hW hr hv (by omega)) hWl.1 rfl rfl rfl rfl rfl ⟨Nat.le_of_ble_eq_true rfl, Nat.le_of_ble_eq_true rfl⟩ (Nat.le_of_ble_eq_true rfl) ⟨Nat.le_refl _, Nat.le_refl _⟩ dX5_willShow_39 (fun H locs M8 hH hp hS => ?_)
      obtain ⟨hL9, hG10⟩ := hp
      have hC11 : Cl G b (σ.1, σ.2.1, σ.2.2.1, σ.2.2.2.1, σ.2.2.2.2.1, σ.2.2.2.2.2.1, σ.2.2.2.2.2.2) M8 := Cl.setL (v := σ.1) (hn := σ.2.1) (hist := σ.2.2.1) (sl := σ.2.2.2.1) (sd := σ.2.2.2.2.1) (len := σ.2.2.2.2.2.1) (ps := σ.2.2.2.2.2.2) hC hv hn6 hhv hsv ⟨_, hv.1, rl, hrl, hL9⟩ hG10
      have hW12 := WlR.kept hr hv.1 hW (fun q q1 q2 => hG10 q (by omega))
      have hF13 := fun q hq => (hG10 q (by omega)).trans (hF q hq)
      refine lv_aload_n hx hb dX5_willShow_42 rfl (lv_at hl 1 rfl) ?_
      refine z_get (T := TX5) (v := .ref (b + 28)) hE hH hC11.1 rfl uw_X5 1 (by decide) fkX5_16 rfl dX5_willShow_43 ?_
      refine lv_iload hx hb dX5_willShow_46 (lv_at hl 0 rfl) ?_
      refine lv_iload_n hx hb dX5_willShow_48 rfl (lv_at hl 4 rfl) ?_
      refine z_callV (rest := []) (st2 := [.int (nI (fadN (y' * 10 + x') (σ.1 0) σ.1 d'))]) hE hH hS hB0 hl ca_X4_fadeAt mkX5_196 (c_X4_fadeAt l G B0 M8 (b + 28) rl σ.1 hL9 hrl hv (by omega) (y' * 10 + x') d' (by omega) (by omega)) hL9.1 rfl rfl rfl rfl rfl ⟨Nat.le_of_ble_eq_true rfl, Nat.le_of_ble_eq_true rfl⟩ (Nat.le_of_ble_eq_true rfl) ⟨Nat.le_refl _, Nat.le_refl _⟩ dX5_willShow_49 (fun H locs M14 hH hp hS => ?_)
      have hv15 : wOk (fadV (y' * 10 + x') (σ.1 0) σ.1 d') := (fadV_keep (y' * 10 + x') (by omega) _ _ _ hv (Nat.le_refl _)).1
      obtain ⟨hL16, hG17⟩ := hp
      have hC18 : Cl G b (σ.1, σ.2.1, σ.2.2.1, σ.2.2.2.1, σ.2.2.2.2.1, σ.2.2.2.2.2.1, σ.2.2.2.2.2.2) M14 := Cl.setL (v := σ.1) (hn := σ.2.1) (hist := σ.2.2.1) (sl := σ.2.2.2.1) (sd := σ.2.2.2.2.1) (len := σ.2.2.2.2.2.1) (ps := σ.2.2.2.2.2.2) hC11 hv hn6 hhv hsv ⟨_, hv15.1, rl, hrl, hL16⟩ hG17
      have hW19 := WlR.kept hr hv.1 hW12 (fun q q1 q2 => hG17 q (by omega))
      have hF20 := fun q hq => (hG17 q (by omega)).trans (hF13 q hq)
      refine lv_pop hx hb dX5_willShow_52 rfl ?_
      refine lv_aload_n hx hb dX5_willShow_53 rfl (lv_at hl 1 rfl) ?_
      refine z_get (T := TX5) (v := .ref (b + 28)) hE hH hC18.1 rfl uw_X5 1 (by decide) fkX5_16 rfl dX5_willShow_54 ?_
      refine lv_iload hx hb dX5_willShow_57 (lv_at hl 0 rfl) ?_
      refine z_callV (rest := []) (st2 := [.int (oI (prc (fadV (y' * 10 + x') (σ.1 0) σ.1 d') (-6) (y' * 10 + x')))]) hE hH hS hB0 hl ca_X4_priceAt mkX5_80 (c_X4_priceAt l G B0 M14 (b + 28) rl (fadV (y' * 10 + x') (σ.1 0) σ.1 d') hL16 hrl hv15 (y' * 10 + x') (by omega)) hL16.1 rfl rfl rfl rfl rfl ⟨Nat.le_of_ble_eq_true rfl, Nat.le_of_ble_eq_true rfl⟩ (Nat.le_of_ble_eq_true rfl) ⟨Nat.le_refl _, Nat.le_refl _⟩ dX5_willShow_59 (fun H locs M1 hH hp hS => ?_)
      subst hp
      have hf : (fWill σ (nI x') (nI y') (nI d')) = (oI (prc (fadV (y' * 10 + x') (σ.1 0) σ.1 d') (-6) (y' * 10 + x'))) := by
        simp [fWill, sV, sN, sL, h2, tx3, tx4, h6, tx7]
      rw [hf]
      exact z_iret hE hH hS rfl ⟨hC18, hF20⟩ dX5_willShow_62
    · refine lv_bipush (v := (-2)) hx hb dX5_willShow_21 (by decide) ?_
      have hf : (fWill σ (nI x') (nI y') d) = (-2) := by
        simp [fWill, sV, sN, sL, h2, tx3, tx4, h6]
      rw [hf]
      exact z_iret hE hH hS rfl ⟨hC, hF⟩ dX5_willShow_23
  · refine lv_iconst (v := (-1)) hx hb dX5_willShow_8 (by decide) ?_
    have hf : (fWill σ x y d) = (-1) := by
      simp [fWill, sV, sN, sL, h2]
    rw [hf]
    exact z_iret hE hH hS rfl ⟨hC, hF⟩ dX5_willShow_9

set_option maxHeartbeats 4000000 in
set_option maxRecDepth 100000 in
theorem c_X5_put (l : Launch) (G : zG) (B0 : Nat) (M : Mm) (σ : Sg) (b : Nat) (hC : Cl G b σ M) (hok : sOk σ) (hBb : B0 ≤ b) (r0 : Nat) (hr0 : r0 < 2 ^ 64) : zMet l yX5_put cX5_put 4 (some .int) 2 0 0 G B0 M [.ref b, .long (lN r0)] (some (.int (fPut σ r0).1)) (fun M1 => Cl G b (fPut σ r0).2 M1 ∧ ∀ q, (q < b ∨ b + 278 ≤ q) → M1 q = M q) := by
  refine z_met RX5 [(0, .ref b), (1, .long (lN r0))] (by decide) rfl (Nat.le_of_ble_eq_true rfl) rfl ?_
  intro pg ev s m below meth cd ls hE hin hB0 hH hl
  have hx := hE.1
  have hb := hE.2.1
  have hv : wOk σ.1 := hok.hw
  have hn : σ.1 0 ≤ 12 := hv.1
  have hdy : σ.1 1 ≤ 9999 := hok.1.2
  have hn6 : σ.2.1 ≤ 6 := hok.2.1
  have hhv : ∀ k, k < σ.2.1 → wOk (σ.2.2.1 k) := hok.hh
  have hsv : ∀ k, k < 2 → σ.2.2.2.2.1 k = true → wOk (σ.2.2.2.1 k) := hok.hs
  have hln : σ.2.2.2.2.2.1 ≤ 60 := hok.2.2.2.2.1
  obtain ⟨r, hr, hW⟩ := hC.2.1
  have hF : ∀ q, (q < b ∨ b + 278 ≤ q) → M q = M q := fun _ _ => rfl
  have hps : ∀ i, i < σ.2.2.2.2.2.1 → σ.2.2.2.2.2.2 i < 128 := fun i hi => Nat.lt_of_le_of_lt (hok.2.2.2.2.2 i hi).2 (by decide)
  refine z_gen B0 (fun H locs hH hS => ?_) hH
  refine lv_lload_n hx hb dX5_put_0 rfl (lv_at hl 1 rfl) ?_
  refine z_callS (rest := []) (st2 := [.int (nI (sgF 8 r0 0))]) hE hH hS hB0 hl ca_X2_signsIn mkX5_211 (c_X2_signsIn l G B0 M r0 hr0) rfl rfl rfl ⟨Nat.le_of_ble_eq_true rfl, Nat.le_of_ble_eq_true rfl⟩ (Nat.le_of_ble_eq_true rfl) ⟨Nat.le_refl _, Nat.le_refl _⟩ dX5_put_1 (fun H locs M1 hH hp hS => ?_)
  subst hp
  have hsg := sgF_le 8 r0 0
  refine lv_istore_n (lv' := [(3, .int (nI (sgF 8 r0 0))), (0, .ref b), (1, .long (lN r0))]) hx hb dX5_put_4 rfl hl (by decide) rfl (fun ls hl => ?_)
  refine lv_iload_n hx hb dX5_put_5 rfl (lv_at hl 0 rfl) ?_
  refine n_if_ne (tgt := 12) hx hb (by omega) dX5_put_6 (by decide) (fun h1 => ?_) (fun h1 => ?_)
  · refine lv_iload_n hx hb dX5_put_12 rfl (lv_at hl 0 rfl) ?_
    refine n_bipush hx hb 60 dX5_put_13 (by decide) ?_
    refine lv_aload_n hx hb dX5_put_15 rfl (lv_at hl 1 rfl) ?_
    refine z_get (T := TX5) (v := .ref (b + 275)) hE hH hC.1 rfl uw_X5 5 (by decide) fkX5_37 rfl dX5_put_16 ?_
    refine z_get (T := TX2) (v := .int (nI σ.2.2.2.2.2.1)) hE hH hC.2.2.2.2.2.1.1 rfl uw_X2 1 (by decide) fkX5_104 rfl dX5_put_19 ?_
    refine n_isub hx hb (by omega) dX5_put_22 ?_
    refine n_cmp_le (tgt := 29) hx hb (by omega) (by omega) dX5_put_23 (by decide) (fun h2 => ?_) (fun h2 => ?_)
    · refine lv_aload_n hx hb dX5_put_29 rfl (lv_at hl 1 rfl) ?_
      refine z_get (T := TX5) (v := .ref (b + 275)) hE hH hC.1 rfl uw_X5 5 (by decide) fkX5_37 rfl dX5_put_30 ?_
      refine lv_lload_n hx hb dX5_put_33 rfl (lv_at hl 2 rfl) ?_
      refine lv_iload_n hx hb dX5_put_34 rfl (lv_at hl 0 rfl) ?_
      refine z_callV (rest := []) (st2 := []) hE hH hS hB0 hl ca_X2_append mkX5_215 (c_X2_append l G B0 M (b + 275) σ.2.2.2.2.2.1 σ.2.2.2.2.2.2 hC.2.2.2.2.2.1 hln (by omega) r0 (sgF 8 r0 0) hr0 (by omega)) hC.2.2.2.2.2.1.1 rfl rfl rfl rfl rfl ⟨Nat.le_of_ble_eq_true rfl, Nat.le_of_ble_eq_true rfl⟩ (Nat.le_of_ble_eq_true rfl) ⟨Nat.le_refl _, Nat.le_refl _⟩ dX5_put_35 (fun H locs M3 hH hp hS => ?_)
      obtain ⟨hP4, hG5⟩ := hp
      obtain ⟨qa, qb, qc, qd, hRq⟩ := hC.2.2.2.2.2.2
      have hC6 : Cl G b (σ.1, σ.2.1, σ.2.2.1, σ.2.2.2.1, σ.2.2.2.2.1, σ.2.2.2.2.2.1 + (sgF 8 r0 0), apS σ.2.2.2.2.2.2 σ.2.2.2.2.2.1 r0 (sgF 8 r0 0)) M3 := Cl.setP (v := σ.1) (hn := σ.2.1) (hist := σ.2.2.1) (sl := σ.2.2.2.1) (sd := σ.2.2.2.2.1) (len := σ.2.2.2.2.2.1) (ps := σ.2.2.2.2.2.2) hC hv hn6 hhv hsv ⟨hP4, qa, qb, qc, qd, by unfold RdM at hRq ⊢; rw [hG5 _ (by omega)]; exact hRq⟩ (fun q hq => hG5 q (by omega))
      have hW7 := WlR.kept hr hv.1 hW (fun q q1 q2 => hG5 q (by omega))
      have hF8 := fun q hq => (hG5 q (by omega)).trans (hF q hq)
      refine lv_aload_n hx hb dX5_put_38 rfl (lv_at hl 1 rfl) ?_
      refine z_get (T := TX5) (v := .ref (b + 275)) hE hH hC6.1 rfl uw_X5 5 (by decide) fkX5_37 rfl dX5_put_39 ?_
      refine z_get (T := TX2) (v := .int (nI (σ.2.2.2.2.2.1 + (sgF 8 r0 0)))) hE hH hC6.2.2.2.2.2.1.1 rfl uw_X2 1 (by decide) fkX5_104 rfl dX5_put_42 ?_
      have hf : fPut σ r0 = ((nI (σ.2.2.2.2.2.1 + (sgF 8 r0 0))), (σ.1, σ.2.1, σ.2.2.1, σ.2.2.2.1, σ.2.2.2.2.1, σ.2.2.2.2.2.1 + (sgF 8 r0 0), apS σ.2.2.2.2.2.2 σ.2.2.2.2.2.1 r0 (sgF 8 r0 0))) := by
        unfold fPut
        first | rw [if_pos (by omega)] | rw [if_neg (by omega), if_pos (show 60 - σ.2.2.2.2.2.1 < sgF 8 r0 0 by omega)] | rw [if_neg (by omega), if_neg (show ¬ 60 - σ.2.2.2.2.2.1 < sgF 8 r0 0 by omega)]
      rw [hf]
      exact z_iret hE hH hS rfl ⟨hC6, hF8⟩ dX5_put_45
    · refine lv_bipush (v := (-4)) hx hb dX5_put_26 (by decide) ?_
      have hf : fPut σ r0 = ((-4), (σ.1, σ.2.1, σ.2.2.1, σ.2.2.2.1, σ.2.2.2.2.1, σ.2.2.2.2.2.1, σ.2.2.2.2.2.2)) := by
        unfold fPut
        first | rw [if_pos (by omega)] | rw [if_neg (by omega), if_pos (show 60 - σ.2.2.2.2.2.1 < sgF 8 r0 0 by omega)] | rw [if_neg (by omega), if_neg (show ¬ 60 - σ.2.2.2.2.2.1 < sgF 8 r0 0 by omega)]
      rw [hf]
      exact z_iret hE hH hS rfl ⟨hC, hF⟩ dX5_put_28
  · refine lv_bipush (v := (-2)) hx hb dX5_put_9 (by decide) ?_
    have hf : fPut σ r0 = ((-2), (σ.1, σ.2.1, σ.2.2.1, σ.2.2.2.1, σ.2.2.2.2.1, σ.2.2.2.2.2.1, σ.2.2.2.2.2.2)) := by
      unfold fPut
      first | rw [if_pos (by omega)] | rw [if_neg (by omega), if_pos (show 60 - σ.2.2.2.2.2.1 < sgF 8 r0 0 by omega)] | rw [if_neg (by omega), if_neg (show ¬ 60 - σ.2.2.2.2.2.1 < sgF 8 r0 0 by omega)]
    rw [hf]
    exact z_iret hE hH hS rfl ⟨hC, hF⟩ dX5_put_11

set_option maxHeartbeats 4000000 in
set_option maxRecDepth 100000 in
theorem c_X5_wipe (l : Launch) (G : zG) (B0 : Nat) (M : Mm) (σ : Sg) (b : Nat) (hC : Cl G b σ M) (hok : sOk σ) (hBb : B0 ≤ b) : zMet l yX5_wipe cX5_wipe 2 (some .int) 0 0 0 G B0 M [.ref b] (some (.int (fWipe σ).1)) (fun M1 => Cl G b (fWipe σ).2 M1 ∧ ∀ q, (q < b ∨ b + 278 ≤ q) → M1 q = M q) := by
  refine z_met RX5 [(0, .ref b)] (by decide) rfl (Nat.le_of_ble_eq_true rfl) rfl ?_
  intro pg ev s m below meth cd ls hE hin hB0 hH hl
  have hx := hE.1
  have hb := hE.2.1
  have hv : wOk σ.1 := hok.hw
  have hn : σ.1 0 ≤ 12 := hv.1
  have hdy : σ.1 1 ≤ 9999 := hok.1.2
  have hn6 : σ.2.1 ≤ 6 := hok.2.1
  have hhv : ∀ k, k < σ.2.1 → wOk (σ.2.2.1 k) := hok.hh
  have hsv : ∀ k, k < 2 → σ.2.2.2.2.1 k = true → wOk (σ.2.2.2.1 k) := hok.hs
  have hln : σ.2.2.2.2.2.1 ≤ 60 := hok.2.2.2.2.1
  obtain ⟨r, hr, hW⟩ := hC.2.1
  have hF : ∀ q, (q < b ∨ b + 278 ≤ q) → M q = M q := fun _ _ => rfl
  have hps : ∀ i, i < σ.2.2.2.2.2.1 → σ.2.2.2.2.2.2 i < 128 := fun i hi => Nat.lt_of_le_of_lt (hok.2.2.2.2.2 i hi).2 (by decide)
  refine z_gen B0 (fun H locs hH hS => ?_) hH
  refine lv_aload_n hx hb dX5_wipe_0 rfl (lv_at hl 0 rfl) ?_
  refine z_get (T := TX5) (v := .ref (b + 275)) hE hH hC.1 rfl uw_X5 5 (by decide) fkX5_37 rfl dX5_wipe_1 ?_
  refine z_get (T := TX2) (v := .int (nI σ.2.2.2.2.2.1)) hE hH hC.2.2.2.2.2.1.1 rfl uw_X2 1 (by decide) fkX5_104 rfl dX5_wipe_4 ?_
  refine lv_istore_n (lv' := [(1, .int (nI σ.2.2.2.2.2.1)), (0, .ref b)]) hx hb dX5_wipe_7 rfl hl (by decide) rfl (fun ls hl => ?_)
  refine lv_aload_n hx hb dX5_wipe_8 rfl (lv_at hl 1 rfl) ?_
  refine z_get (T := TX5) (v := .ref (b + 275)) hE hH hC.1 rfl uw_X5 5 (by decide) fkX5_37 rfl dX5_wipe_9 ?_
  refine n_iconst hx hb 0 dX5_wipe_12 (by decide) ?_
  refine z_put (T := TX2) hE hH hS hC.2.2.2.2.2.1.1 rfl uw_X2 tyX2 tyX2_ok nmX2 1 (by decide) fkX5_104 rfl rfl rfl (Nat.le_of_ble_eq_true rfl) (by omega) dX5_wipe_13 (fun H locs M3 hH hS e1 o2 => ?_)
  obtain ⟨qa, qb, qc, qd, hRq⟩ := hC.2.2.2.2.2.2
  have hC4 : Cl G b (σ.1, σ.2.1, σ.2.2.1, σ.2.2.2.1, σ.2.2.2.2.1, 0, σ.2.2.2.2.2.2) M3 := Cl.setP (v := σ.1) (hn := σ.2.1) (hist := σ.2.2.1) (sl := σ.2.2.2.1) (sd := σ.2.2.2.2.1) (len := σ.2.2.2.2.2.1) (ps := σ.2.2.2.2.2.2) hC hv hn6 hhv hsv ⟨⟨e1, hC.2.2.2.2.2.1.2.kept (o2 _ (by omega))⟩, qa, qb, qc, qd, by unfold RdM at hRq ⊢; rw [o2 _ (by omega)]; exact hRq⟩ (fun q hq => o2 q (by omega))
  have hW5 := WlR.kept hr hv.1 hW (fun q q1 q2 => o2 q (by omega))
  have hF6 := fun q hq => (o2 q (by omega)).trans (hF q hq)
  refine lv_iload_n hx hb dX5_wipe_16 rfl (lv_at hl 0 rfl) ?_
  have hf : fWipe σ = ((nI σ.2.2.2.2.2.1), (σ.1, σ.2.1, σ.2.2.1, σ.2.2.2.1, σ.2.2.2.2.1, 0, σ.2.2.2.2.2.2)) := by
    simp [fWipe, chg, sV, sN, sH, sS, sD, sL, sP, ]
    try omega
  rw [hf]
  exact z_iret hE hH hS rfl ⟨hC4, hF6⟩ dX5_wipe_17

set_option maxHeartbeats 4000000 in
set_option maxRecDepth 100000 in
theorem c_X5_fault (l : Launch) (G : zG) (B0 : Nat) (M : Mm) (σ : Sg) (b : Nat) (hC : Cl G b σ M) (hok : sOk σ) (hBb : B0 ≤ b) : zMet l yX5_fault cX5_fault 1 (some .int) 3 0 0 G B0 M [.ref b] (some (.int (fFault σ))) (fun M1 => Cl G b σ M1 ∧ ∀ q, (q < b ∨ b + 278 ≤ q) → M1 q = M q) := by
  refine z_met RX5 [(0, .ref b)] (by decide) rfl (Nat.le_of_ble_eq_true rfl) rfl ?_
  intro pg ev s m below meth cd ls hE hin hB0 hH hl
  have hx := hE.1
  have hb := hE.2.1
  have hv : wOk σ.1 := hok.hw
  have hn : σ.1 0 ≤ 12 := hv.1
  have hdy : σ.1 1 ≤ 9999 := hok.1.2
  have hn6 : σ.2.1 ≤ 6 := hok.2.1
  have hhv : ∀ k, k < σ.2.1 → wOk (σ.2.2.1 k) := hok.hh
  have hsv : ∀ k, k < 2 → σ.2.2.2.2.1 k = true → wOk (σ.2.2.2.1 k) := hok.hs
  have hln : σ.2.2.2.2.2.1 ≤ 60 := hok.2.2.2.2.1
  obtain ⟨r, hr, hW⟩ := hC.2.1
  have hF : ∀ q, (q < b ∨ b + 278 ≤ q) → M q = M q := fun _ _ => rfl
  have hps : ∀ i, i < σ.2.2.2.2.2.1 → σ.2.2.2.2.2.2 i < 128 := fun i hi => Nat.lt_of_le_of_lt (hok.2.2.2.2.2 i hi).2 (by decide)
  refine z_gen B0 (fun H locs hH hS => ?_) hH
  refine lv_aload_n hx hb dX5_fault_0 rfl (lv_at hl 0 rfl) ?_
  refine z_get (T := TX5) (v := .ref (b + 275)) hE hH hC.1 rfl uw_X5 5 (by decide) fkX5_37 rfl dX5_fault_1 ?_
  obtain ⟨ga1, gb2, gc3, gd4, hRd5⟩ := hC.2.2.2.2.2.2
  have Kc6 := c_X2_firstFault l G B0 M (b + 275) σ.2.2.2.2.2.1 σ.2.2.2.2.2.2 hC.2.2.2.2.2.1 hln hps (ga1, gb2, gc3, gd4) hRd5 (by omega)
  rw [ffR_eq (ga1, gb2, gc3, gd4) g0] at Kc6
  refine z_callV (rest := []) (st2 := [.int (oI (flt σ.2.2.2.2.2.2 σ.2.2.2.2.2.1))]) hE hH hS hB0 hl ca_X2_firstFault mkX5_96 Kc6 hC.2.2.2.2.2.1.1 rfl rfl rfl rfl rfl ⟨Nat.le_of_ble_eq_true rfl, Nat.le_of_ble_eq_true rfl⟩ (Nat.le_of_ble_eq_true rfl) ⟨Nat.le_refl _, Nat.le_refl _⟩ dX5_fault_4 (fun H locs M7 hH hp hS => ?_)
  obtain ⟨hP8, hR9, hG10⟩ := hp
  have hC11 : Cl G b (σ.1, σ.2.1, σ.2.2.1, σ.2.2.2.1, σ.2.2.2.2.1, σ.2.2.2.2.2.1, σ.2.2.2.2.2.2) M7 := Cl.setP (v := σ.1) (hn := σ.2.1) (hist := σ.2.2.1) (sl := σ.2.2.2.1) (sd := σ.2.2.2.2.1) (len := σ.2.2.2.2.2.1) (ps := σ.2.2.2.2.2.2) hC hv hn6 hhv hsv ⟨hP8, hR9⟩ (fun q hq => hG10 q (by omega))
  have hW12 := WlR.kept hr hv.1 hW (fun q q1 q2 => hG10 q (by omega))
  have hF13 := fun q hq => (hG10 q (by omega)).trans (hF q hq)
  have hf : (fFault σ) = (oI (flt σ.2.2.2.2.2.2 σ.2.2.2.2.2.1)) := by
    simp [fFault, sV, sN, sL, ]
  rw [hf]
  exact z_iret hE hH hS rfl ⟨hC11, hF13⟩ dX5_fault_7

set_option maxHeartbeats 4000000 in
set_option maxRecDepth 100000 in
theorem c_X5_undo (l : Launch) (G : zG) (B0 : Nat) (M : Mm) (σ : Sg) (b : Nat) (hC : Cl G b σ M) (hok : sOk σ) (hBb : B0 ≤ b) : zMet l yX5_undo cX5_undo 1 (some .int) 5 0 0 G B0 M [.ref b] (some (.int (fUndo σ).1)) (fun M1 => Cl G b (fUndo σ).2 M1 ∧ ∀ q, (q < b ∨ b + 278 ≤ q) → M1 q = M q) := by
  refine z_met RX5 [(0, .ref b)] (by decide) rfl (Nat.le_of_ble_eq_true rfl) rfl ?_
  intro pg ev s m below meth cd ls hE hin hB0 hH hl
  have hx := hE.1
  have hb := hE.2.1
  have hv : wOk σ.1 := hok.hw
  have hn : σ.1 0 ≤ 12 := hv.1
  have hdy : σ.1 1 ≤ 9999 := hok.1.2
  have hn6 : σ.2.1 ≤ 6 := hok.2.1
  have hhv : ∀ k, k < σ.2.1 → wOk (σ.2.2.1 k) := hok.hh
  have hsv : ∀ k, k < 2 → σ.2.2.2.2.1 k = true → wOk (σ.2.2.2.1 k) := hok.hs
  have hln : σ.2.2.2.2.2.1 ≤ 60 := hok.2.2.2.2.1
  obtain ⟨r, hr, hW⟩ := hC.2.1
  have hF : ∀ q, (q < b ∨ b + 278 ≤ q) → M q = M q := fun _ _ => rfl
  have hps : ∀ i, i < σ.2.2.2.2.2.1 → σ.2.2.2.2.2.2 i < 128 := fun i hi => Nat.lt_of_le_of_lt (hok.2.2.2.2.2 i hi).2 (by decide)
  refine z_gen B0 (fun H locs hH hS => ?_) hH
  refine lv_aload_n hx hb dX5_undo_0 rfl (lv_at hl 0 rfl) ?_
  refine z_get (T := TX5) (v := .ref (b + 55)) hE hH hC.1 rfl uw_X5 2 (by decide) fkX5_22 rfl dX5_undo_1 ?_
  obtain ⟨tthB1, htthB1, hB1, hLthB1⟩ := id hC.2.2.2.1
  refine z_get (T := TX1) (v := .int (nI σ.2.1)) hE hH hB1.1 rfl uw_X1 1 (by decide) fkX5_187 rfl dX5_undo_4 ?_
  refine n_if_ne (tgt := 13) hx hb (by omega) dX5_undo_7 (by decide) (fun h2 => ?_) (fun h2 => ?_)
  · refine lv_aload_n hx hb dX5_undo_13 rfl (lv_at hl 0 rfl) ?_
    refine z_get (T := TX5) (v := .ref (b + 55)) hE hH hC.1 rfl uw_X5 2 (by decide) fkX5_22 rfl dX5_undo_14 ?_
    refine lv_aload_n hx hb dX5_undo_17 rfl (lv_at hl 0 rfl) ?_
    refine z_get (T := TX5) (v := .ref (b + 1)) hE hH hC.1 rfl uw_X5 0 (by decide) fkX5_12 rfl dX5_undo_18 ?_
    obtain ⟨tt, htt, hBt, hLt⟩ := id hC.2.2.2.1
    refine z_callV (rest := []) (st2 := []) hE hH hS hB0 hl ca_X1_takeBack mkX5_219 (c_X1_takeBack l G B0 M (b + 55) σ.2.1 σ.2.2.1 hC.2.2.2.1 (by omega) hn6 hhv (b + 1) r σ.1 hW hr hv.1 (by omega) (by omega) (by omega)) hBt.1 rfl rfl rfl rfl rfl ⟨Nat.le_of_ble_eq_true rfl, Nat.le_of_ble_eq_true rfl⟩ (Nat.le_of_ble_eq_true rfl) ⟨Nat.le_refl _, Nat.le_refl _⟩ dX5_undo_21 (fun H locs M3 hH hp hS => ?_)
    obtain ⟨hW4, hH5, hG6⟩ := hp
    have hC7 : Cl G b (σ.2.2.1 (σ.2.1 - 1), σ.2.1 - 1, σ.2.2.1, σ.2.2.2.1, σ.2.2.2.2.1, σ.2.2.2.2.2.1, σ.2.2.2.2.2.2) M3 := Cl.setWH (v := σ.1) (hn := σ.2.1) (hist := σ.2.2.1) (sl := σ.2.2.2.1) (sd := σ.2.2.2.2.1) (len := σ.2.2.2.2.2.1) (ps := σ.2.2.2.2.2.2) hC hsv hW4 hH5 hG6
    have hF8 := fun q hq => (hG6 q (by omega) (by omega)).trans (hF q hq)
    refine lv_aload_n hx hb dX5_undo_24 rfl (lv_at hl 0 rfl) ?_
    refine z_get (T := TX5) (v := .ref (b + 55)) hE hH hC7.1 rfl uw_X5 2 (by decide) fkX5_22 rfl dX5_undo_25 ?_
    obtain ⟨tthB9, htthB9, hB9, hLthB9⟩ := id hC7.2.2.2.1
    refine z_get (T := TX1) (v := .int (nI (σ.2.1 - 1))) hE hH hB9.1 rfl uw_X1 1 (by decide) fkX5_187 rfl dX5_undo_28 ?_
    have hf : fUndo σ = ((nI (σ.2.1 - 1)), (σ.2.2.1 (σ.2.1 - 1), σ.2.1 - 1, σ.2.2.1, σ.2.2.2.1, σ.2.2.2.2.1, σ.2.2.2.2.2.1, σ.2.2.2.2.2.2)) := by
      unfold fUndo
      first | rw [if_pos (show σ.2.1 = 0 by omega)] | rw [if_neg (show ¬ σ.2.1 = 0 by omega)]
    rw [hf]
    exact z_iret hE hH hS rfl ⟨hC7, hF8⟩ dX5_undo_31
  · refine lv_bipush (v := (-5)) hx hb dX5_undo_10 (by decide) ?_
    have hf : fUndo σ = ((-5), (σ.1, σ.2.1, σ.2.2.1, σ.2.2.2.1, σ.2.2.2.2.1, σ.2.2.2.2.2.1, σ.2.2.2.2.2.2)) := by
      unfold fUndo
      first | rw [if_pos (show σ.2.1 = 0 by omega)] | rw [if_neg (show ¬ σ.2.1 = 0 by omega)]
    rw [hf]
    exact z_iret hE hH hS rfl ⟨hC, hF⟩ dX5_undo_12

set_option maxHeartbeats 4000000 in
set_option maxRecDepth 100000 in
theorem c_X5_save (l : Launch) (G : zG) (B0 : Nat) (M : Mm) (σ : Sg) (b : Nat) (hC : Cl G b σ M) (hok : sOk σ) (hBb : B0 ≤ b) (c : Int32) : zMet l yX5_save cX5_save 2 (some .int) 4 0 0 G B0 M [.ref b, .int c] (some (.int (fSave σ c).1)) (fun M1 => Cl G b (fSave σ c).2 M1 ∧ ∀ q, (q < b ∨ b + 278 ≤ q) → M1 q = M q) := by
  refine z_met RX5 [(0, .ref b), (1, .int c)] (by decide) rfl (Nat.le_of_ble_eq_true rfl) rfl ?_
  intro pg ev s m below meth cd ls hE hin hB0 hH hl
  have hx := hE.1
  have hb := hE.2.1
  have hv : wOk σ.1 := hok.hw
  have hn : σ.1 0 ≤ 12 := hv.1
  have hdy : σ.1 1 ≤ 9999 := hok.1.2
  have hn6 : σ.2.1 ≤ 6 := hok.2.1
  have hhv : ∀ k, k < σ.2.1 → wOk (σ.2.2.1 k) := hok.hh
  have hsv : ∀ k, k < 2 → σ.2.2.2.2.1 k = true → wOk (σ.2.2.2.1 k) := hok.hs
  have hln : σ.2.2.2.2.2.1 ≤ 60 := hok.2.2.2.2.1
  obtain ⟨r, hr, hW⟩ := hC.2.1
  have hF : ∀ q, (q < b ∨ b + 278 ≤ q) → M q = M q := fun _ _ => rfl
  have hps : ∀ i, i < σ.2.2.2.2.2.1 → σ.2.2.2.2.2.2 i < 128 := fun i hi => Nat.lt_of_le_of_lt (hok.2.2.2.2.2 i hi).2 (by decide)
  refine z_gen B0 (fun H locs hH hS => ?_) hH
  refine lv_iload_n hx hb dX5_save_0 rfl (lv_at hl 1 rfl) ?_
  refine n_iconst hx hb 0 dX5_save_1 (by decide) ?_
  refine n_iconst hx hb 1 dX5_save_2 (by decide) ?_
  refine z_callS (rest := []) (st2 := [.int (zb (wi c (nI 0) (nI 1)))]) hE hH hS hB0 hl ca_X5_isWithin mkX5_45 (c_X5_isWithin l G B0 M c (nI 0) (nI 1)) rfl rfl rfl ⟨Nat.le_of_ble_eq_true rfl, Nat.le_of_ble_eq_true rfl⟩ (Nat.le_of_ble_eq_true rfl) ⟨Nat.le_refl _, Nat.le_refl _⟩ dX5_save_3 (fun H locs M1 hH hp hS => ?_)
  subst hp
  refine b_if_ne (tgt := 12) hx hb dX5_save_6 (by decide) (fun h2 => ?_) (fun h2 => ?_)
  · obtain ⟨c', rfl, c1, c2⟩ := wi_nat (by decide) (by decide) h2
    have tx3 : tn (nI c') = c' := tn_nI (by omega)
    refine lv_aload_n hx hb dX5_save_12 rfl (lv_at hl 0 rfl) ?_
    refine z_get (T := TX5) (v := .ref (b + 219)) hE hH hC.1 rfl uw_X5 3 (by decide) fkX5_26 rfl dX5_save_13 ?_
    refine lv_iload_n hx hb dX5_save_16 rfl (lv_at hl 1 rfl) ?_
    refine z_aald hE hH hC.2.2.2.2.1.1 rfl (k := c') (by omega) (by decide) dX5_save_17 ?_
    refine lv_aload_n hx hb dX5_save_18 rfl (lv_at hl 0 rfl) ?_
    refine z_get (T := TX5) (v := .ref (b + 1)) hE hH hC.1 rfl uw_X5 0 (by decide) fkX5_12 rfl dX5_save_19 ?_
    obtain ⟨vd, hvd, rd, hrd, hWd⟩ := hC.2.2.2.2.1.2.2.1 c' (by omega)
    refine z_callV (rest := []) (st2 := []) hE hH hS hB0 hl ca_X4_copyFrom mkX5_190 (c_X4_copyFrom l G B0 M (b + 220 + 27 * c') rd vd hWd hrd hvd (by omega) (b + 1) r σ.1 hW hr hv (by omega)) hWd.1 rfl rfl rfl rfl rfl ⟨Nat.le_of_ble_eq_true rfl, Nat.le_of_ble_eq_true rfl⟩ (Nat.le_of_ble_eq_true rfl) ⟨Nat.le_refl _, Nat.le_refl _⟩ dX5_save_22 (fun H locs M4 hH hp hS => ?_)
    obtain ⟨hS5, hG6⟩ := hp
    have hSw : Wl G (b + 220 + 27 * c') σ.1 M4 := ⟨rd, hrd, hS5⟩
    have hC7 : Cl G b (σ.1, σ.2.1, σ.2.2.1, (fun k => if k = c' then σ.1 else σ.2.2.2.1 k), σ.2.2.2.2.1, σ.2.2.2.2.2.1, σ.2.2.2.2.2.2) M4 := Cl.setS (v := σ.1) (hn := σ.2.1) (hist := σ.2.2.1) (sl := σ.2.2.2.1) (sd := σ.2.2.2.2.1) (len := σ.2.2.2.2.2.1) (ps := σ.2.2.2.2.2.2) hC hv hn6 hhv (SlM.setW hC.2.2.2.2.1 hsv (by omega) hn hSw hG6) (fun q hq => hG6 q (by omega))
    have hs8 : ∀ k, k < 2 → σ.2.2.2.2.1 k = true → wOk ((fun k => if k = c' then σ.1 else σ.2.2.2.1 k) k) := fun i hi hd => by
      show wOk (if i = c' then σ.1 else σ.2.2.2.1 i)
      split
      · exact hv
      · exact hsv i hi hd
    have hW9 := WlR.kept hr hv.1 hW (fun q q1 q2 => hG6 q (by omega))
    have hF10 := fun q hq => (hG6 q (by omega)).trans (hF q hq)
    refine lv_aload_n hx hb dX5_save_25 rfl (lv_at hl 0 rfl) ?_
    refine z_get (T := TX5) (v := .ref (b + 274)) hE hH hC7.1 rfl uw_X5 4 (by decide) fkX5_30 rfl dX5_save_26 ?_
    refine lv_iload_n hx hb dX5_save_29 rfl (lv_at hl 1 rfl) ?_
    refine n_iconst hx hb 1 dX5_save_30 (by decide) ?_
    refine z_zast hE hH hS hC7.2.2.2.2.1.2.1 (congrArg Value.int (show nI 1 &&& 1 = nI 1 from by decide)) (k := c') (by omega) (by decide) (by omega) dX5_save_31 (fun H locs M13 hH hS e11 o12 => ?_)
    have hC14 : Cl G b (σ.1, σ.2.1, σ.2.2.1, (fun k => if k = c' then σ.1 else σ.2.2.2.1 k), (fun k => if k = c' then true else σ.2.2.2.2.1 k), σ.2.2.2.2.2.1, σ.2.2.2.2.2.2) M13 := Cl.setS (v := σ.1) (hn := σ.2.1) (hist := σ.2.2.1) (sl := (fun k => if k = c' then σ.1 else σ.2.2.2.1 k)) (sd := σ.2.2.2.2.1) (len := σ.2.2.2.2.2.1) (ps := σ.2.2.2.2.2.2) hC7 hv hn6 hhv (SlM.setD (k := c') hC7.2.2.2.2.1 hs8 (by omega) (by show Wl G _ (if _ = _ then _ else _) _; rw [if_pos rfl]; exact hSw) (by show (if _ = _ then _ else _ : Wv) 0 ≤ 12; rw [if_pos rfl]; exact hn) e11 o12) (fun q hq => o12 q (by omega))
    have hW15 := WlR.kept hr hv.1 hW9 (fun q q1 q2 => o12 q (by omega))
    have hF16 := fun q hq => (o12 q (by omega)).trans (hF10 q hq)
    refine lv_aload_n hx hb dX5_save_32 rfl (lv_at hl 0 rfl) ?_
    refine z_get (T := TX5) (v := .ref (b + 1)) hE hH hC14.1 rfl uw_X5 0 (by decide) fkX5_12 rfl dX5_save_33 ?_
    refine z_get (T := TX4) (v := .int (nI (σ.1 0))) hE hH hW15.1 rfl uw_X4 1 (by decide) fkX5_49 rfl dX5_save_36 ?_
    have hf : fSave σ (nI c') = ((nI (σ.1 0)), (σ.1, σ.2.1, σ.2.2.1, (fun k => if k = c' then σ.1 else σ.2.2.2.1 k), (fun k => if k = c' then true else σ.2.2.2.2.1 k), σ.2.2.2.2.2.1, σ.2.2.2.2.2.2)) := by
      simp [fSave, chg, sV, sN, sH, sS, sD, sL, sP, h2, tx3]
      try omega
    rw [hf]
    exact z_iret hE hH hS rfl ⟨hC14, hF16⟩ dX5_save_39
  · refine lv_bipush (v := (-2)) hx hb dX5_save_9 (by decide) ?_
    have hf : fSave σ c = ((-2), (σ.1, σ.2.1, σ.2.2.1, σ.2.2.2.1, σ.2.2.2.2.1, σ.2.2.2.2.2.1, σ.2.2.2.2.2.2)) := by
      simp [fSave, chg, sV, sN, sH, sS, sD, sL, sP, h2]
      try omega
    rw [hf]
    exact z_iret hE hH hS rfl ⟨hC, hF⟩ dX5_save_11

set_option maxHeartbeats 4000000 in
set_option maxRecDepth 100000 in
theorem c_X5_restore (l : Launch) (G : zG) (B0 : Nat) (M : Mm) (σ : Sg) (b : Nat) (hC : Cl G b σ M) (hok : sOk σ) (hBb : B0 ≤ b) (c : Int32) : zMet l yX5_restore cX5_restore 2 (some .int) 5 0 0 G B0 M [.ref b, .int c] (some (.int (fRestore σ c).1)) (fun M1 => Cl G b (fRestore σ c).2 M1 ∧ ∀ q, (q < b ∨ b + 278 ≤ q) → M1 q = M q) := by
  refine z_met RX5 [(0, .ref b), (1, .int c)] (by decide) rfl (Nat.le_of_ble_eq_true rfl) rfl ?_
  intro pg ev s m below meth cd ls hE hin hB0 hH hl
  have hx := hE.1
  have hb := hE.2.1
  have hv : wOk σ.1 := hok.hw
  have hn : σ.1 0 ≤ 12 := hv.1
  have hdy : σ.1 1 ≤ 9999 := hok.1.2
  have hn6 : σ.2.1 ≤ 6 := hok.2.1
  have hhv : ∀ k, k < σ.2.1 → wOk (σ.2.2.1 k) := hok.hh
  have hsv : ∀ k, k < 2 → σ.2.2.2.2.1 k = true → wOk (σ.2.2.2.1 k) := hok.hs
  have hln : σ.2.2.2.2.2.1 ≤ 60 := hok.2.2.2.2.1
  obtain ⟨r, hr, hW⟩ := hC.2.1
  have hF : ∀ q, (q < b ∨ b + 278 ≤ q) → M q = M q := fun _ _ => rfl
  have hps : ∀ i, i < σ.2.2.2.2.2.1 → σ.2.2.2.2.2.2 i < 128 := fun i hi => Nat.lt_of_le_of_lt (hok.2.2.2.2.2 i hi).2 (by decide)
  refine z_gen B0 (fun H locs hH hS => ?_) hH
  refine lv_iload_n hx hb dX5_restore_0 rfl (lv_at hl 1 rfl) ?_
  refine n_iconst hx hb 0 dX5_restore_1 (by decide) ?_
  refine n_iconst hx hb 1 dX5_restore_2 (by decide) ?_
  refine z_callS (rest := []) (st2 := [.int (zb (wi c (nI 0) (nI 1)))]) hE hH hS hB0 hl ca_X5_isWithin mkX5_45 (c_X5_isWithin l G B0 M c (nI 0) (nI 1)) rfl rfl rfl ⟨Nat.le_of_ble_eq_true rfl, Nat.le_of_ble_eq_true rfl⟩ (Nat.le_of_ble_eq_true rfl) ⟨Nat.le_refl _, Nat.le_refl _⟩ dX5_restore_3 (fun H locs M1 hH hp hS => ?_)
  subst hp
  refine b_if_ne (tgt := 12) hx hb dX5_restore_6 (by decide) (fun h2 => ?_) (fun h2 => ?_)
  · obtain ⟨c', rfl, c1, c2⟩ := wi_nat (by decide) (by decide) h2
    have tx3 : tn (nI c') = c' := tn_nI (by omega)
    refine lv_aload_n hx hb dX5_restore_12 rfl (lv_at hl 0 rfl) ?_
    refine z_get (T := TX5) (v := .ref (b + 274)) hE hH hC.1 rfl uw_X5 4 (by decide) fkX5_30 rfl dX5_restore_13 ?_
    refine lv_iload_n hx hb dX5_restore_16 rfl (lv_at hl 1 rfl) ?_
    refine z_zald hE hH hC.2.2.2.2.1.2.1 (k := c') (by omega) (by decide) dX5_restore_17 ?_
    refine b_if_ne (tgt := 24) hx hb dX5_restore_18 (by decide) (fun h5 => ?_) (fun h5 => ?_)
    · refine lv_aload_n hx hb dX5_restore_24 rfl (lv_at hl 0 rfl) ?_
      refine z_get (T := TX5) (v := .ref (b + 55)) hE hH hC.1 rfl uw_X5 2 (by decide) fkX5_22 rfl dX5_restore_25 ?_
      refine lv_aload_n hx hb dX5_restore_28 rfl (lv_at hl 0 rfl) ?_
      refine z_get (T := TX5) (v := .ref (b + 1)) hE hH hC.1 rfl uw_X5 0 (by decide) fkX5_12 rfl dX5_restore_29 ?_
      obtain ⟨tt, htt, hBt, hLt⟩ := id hC.2.2.2.1
      refine z_callV (rest := []) (st2 := []) hE hH hS hB0 hl ca_X1_keep mkX5_53 (c_X1_keep l G B0 M (b + 55) σ.2.1 σ.2.2.1 hC.2.2.2.1 hn6 hhv (b + 1) r σ.1 hW hr hv (by omega) (by omega)) hBt.1 rfl rfl rfl rfl rfl ⟨Nat.le_of_ble_eq_true rfl, Nat.le_of_ble_eq_true rfl⟩ (Nat.le_of_ble_eq_true rfl) ⟨Nat.le_refl _, Nat.le_refl _⟩ dX5_restore_32 (fun H locs M7 hH hp hS => ?_)
      obtain ⟨hK8, hG9⟩ := hp
      have hC10 : Cl G b (σ.1, keepN σ.2.1, keepH σ.2.2.1 σ.2.1 σ.1, σ.2.2.2.1, σ.2.2.2.2.1, σ.2.2.2.2.2.1, σ.2.2.2.2.2.2) M7 := Cl.setH (v := σ.1) (hn := σ.2.1) (hist := σ.2.2.1) (sl := σ.2.2.2.1) (sd := σ.2.2.2.2.1) (len := σ.2.2.2.2.2.1) (ps := σ.2.2.2.2.2.2) hC hv hsv hK8 hG9
      have hW11 := WlR.kept hr hv.1 hW (fun q q1 q2 => hG9 q (by omega))
      have hF12 := fun q hq => (hG9 q (by omega)).trans (hF q hq)
      have hn13 := keepN_le hn6
      have hh14 := keepH_ok hn6 hhv hv
      refine lv_aload_n hx hb dX5_restore_35 rfl (lv_at hl 0 rfl) ?_
      refine z_get (T := TX5) (v := .ref (b + 1)) hE hH hC10.1 rfl uw_X5 0 (by decide) fkX5_12 rfl dX5_restore_36 ?_
      refine lv_aload_n hx hb dX5_restore_39 rfl (lv_at hl 0 rfl) ?_
      refine z_get (T := TX5) (v := .ref (b + 219)) hE hH hC10.1 rfl uw_X5 3 (by decide) fkX5_26 rfl dX5_restore_40 ?_
      refine lv_iload_n hx hb dX5_restore_43 rfl (lv_at hl 1 rfl) ?_
      refine z_aald hE hH hC10.2.2.2.2.1.1 rfl (k := c') (by omega) (by decide) dX5_restore_44 ?_
      obtain ⟨rs, hrs, hWs⟩ := hC10.2.2.2.2.1.2.2.2 c' (by omega) h5
      refine z_callV (rest := []) (st2 := []) hE hH hS hB0 hl ca_X4_copyFrom mkX5_190 (c_X4_copyFrom l G B0 M7 (b + 1) r σ.1 hW11 hr hv.1 (by omega) (b + 220 + 27 * c') rs (σ.2.2.2.1 c') hWs hrs (hsv _ (by omega) h5) (by omega)) hW11.1 rfl rfl rfl rfl rfl ⟨Nat.le_of_ble_eq_true rfl, Nat.le_of_ble_eq_true rfl⟩ (Nat.le_of_ble_eq_true rfl) ⟨Nat.le_refl _, Nat.le_refl _⟩ dX5_restore_45 (fun H locs M15 hH hp hS => ?_)
      obtain ⟨hW16, hG17⟩ := hp
      have hC18 : Cl G b (σ.2.2.2.1 c', keepN σ.2.1, keepH σ.2.2.1 σ.2.1 σ.1, σ.2.2.2.1, σ.2.2.2.2.1, σ.2.2.2.2.2.1, σ.2.2.2.2.2.2) M15 := Cl.setW (v := σ.1) (hn := keepN σ.2.1) (hist := keepH σ.2.2.1 σ.2.1 σ.1) (sl := σ.2.2.2.1) (sd := σ.2.2.2.2.1) (len := σ.2.2.2.2.2.1) (ps := σ.2.2.2.2.2.2) hC10 hn13 hh14 hsv ⟨r, hr, hW16⟩ hG17
      have hF19 := fun q hq => (hG17 q (by omega)).trans (hF12 q hq)
      refine lv_aload_n hx hb dX5_restore_48 rfl (lv_at hl 0 rfl) ?_
      refine z_get (T := TX5) (v := .ref (b + 1)) hE hH hC18.1 rfl uw_X5 0 (by decide) fkX5_12 rfl dX5_restore_49 ?_
      refine z_get (T := TX4) (v := .int (nI ((σ.2.2.2.1 c') 0))) hE hH hW16.1 rfl uw_X4 1 (by decide) fkX5_49 rfl dX5_restore_52 ?_
      have hf : fRestore σ (nI c') = ((nI ((σ.2.2.2.1 c') 0)), (σ.2.2.2.1 c', keepN σ.2.1, keepH σ.2.2.1 σ.2.1 σ.1, σ.2.2.2.1, σ.2.2.2.2.1, σ.2.2.2.2.2.1, σ.2.2.2.2.2.2)) := by
        simp [fRestore, chg, sV, sN, sH, sS, sD, sL, sP, h2, tx3, h5]
        try omega
      rw [hf]
      exact z_iret hE hH hS rfl ⟨hC18, hF19⟩ dX5_restore_55
    · refine lv_bipush (v := (-5)) hx hb dX5_restore_21 (by decide) ?_
      have hf : fRestore σ (nI c') = ((-5), (σ.1, σ.2.1, σ.2.2.1, σ.2.2.2.1, σ.2.2.2.2.1, σ.2.2.2.2.2.1, σ.2.2.2.2.2.2)) := by
        simp [fRestore, chg, sV, sN, sH, sS, sD, sL, sP, h2, tx3, h5]
        try omega
      rw [hf]
      exact z_iret hE hH hS rfl ⟨hC, hF⟩ dX5_restore_23
  · refine lv_bipush (v := (-2)) hx hb dX5_restore_9 (by decide) ?_
    have hf : fRestore σ c = ((-2), (σ.1, σ.2.1, σ.2.2.1, σ.2.2.2.1, σ.2.2.2.2.1, σ.2.2.2.2.2.1, σ.2.2.2.2.2.2)) := by
      simp [fRestore, chg, sV, sN, sH, sS, sD, sL, sP, h2]
      try omega
    rw [hf]
    exact z_iret hE hH hS rfl ⟨hC, hF⟩ dX5_restore_11

set_option maxHeartbeats 4000000 in
set_option maxRecDepth 100000 in
theorem c_X5_buyAll (l : Launch) (G : zG) (B0 : Nat) (M : Mm) (σ : Sg) (b : Nat) (hC : Cl G b σ M) (hok : sOk σ) (hBb : B0 ≤ b) : zMet l yX5_buyAll cX5_buyAll 2 (some .int) 6 0 0 G B0 M [.ref b] (some (.int (fBuyAll σ).1)) (fun M1 => Cl G b (fBuyAll σ).2 M1 ∧ ∀ q, (q < b ∨ b + 278 ≤ q) → M1 q = M q) := by
  refine z_met RX5 [(0, .ref b)] (by decide) rfl (Nat.le_of_ble_eq_true rfl) rfl ?_
  intro pg ev s m below meth cd ls hE hin hB0 hH hl
  have hx := hE.1
  have hb := hE.2.1
  have hv : wOk σ.1 := hok.hw
  have hn : σ.1 0 ≤ 12 := hv.1
  have hdy : σ.1 1 ≤ 9999 := hok.1.2
  have hn6 : σ.2.1 ≤ 6 := hok.2.1
  have hhv : ∀ k, k < σ.2.1 → wOk (σ.2.2.1 k) := hok.hh
  have hsv : ∀ k, k < 2 → σ.2.2.2.2.1 k = true → wOk (σ.2.2.2.1 k) := hok.hs
  have hln : σ.2.2.2.2.2.1 ≤ 60 := hok.2.2.2.2.1
  obtain ⟨r, hr, hW⟩ := hC.2.1
  have hF : ∀ q, (q < b ∨ b + 278 ≤ q) → M q = M q := fun _ _ => rfl
  have hps : ∀ i, i < σ.2.2.2.2.2.1 → σ.2.2.2.2.2.2 i < 128 := fun i hi => Nat.lt_of_le_of_lt (hok.2.2.2.2.2 i hi).2 (by decide)
  have hob : ∀ j, flt σ.2.2.2.2.2.2 σ.2.2.2.2.2.1 = some j → j < 2 ^ 31 := fun j h => by have := flt_le h; omega
  refine z_gen B0 (fun H locs hH hS => ?_) hH
  refine lv_aload_n hx hb dX5_buyAll_0 rfl (lv_at hl 0 rfl) ?_
  refine z_get (T := TX5) (v := .ref (b + 275)) hE hH hC.1 rfl uw_X5 5 (by decide) fkX5_37 rfl dX5_buyAll_1 ?_
  obtain ⟨ga1, gb2, gc3, gd4, hRd5⟩ := hC.2.2.2.2.2.2
  have Kc6 := c_X2_firstFault l G B0 M (b + 275) σ.2.2.2.2.2.1 σ.2.2.2.2.2.2 hC.2.2.2.2.2.1 hln hps (ga1, gb2, gc3, gd4) hRd5 (by omega)
  rw [ffR_eq (ga1, gb2, gc3, gd4) g0] at Kc6
  refine z_callV (rest := []) (st2 := [.int (oI (flt σ.2.2.2.2.2.2 σ.2.2.2.2.2.1))]) hE hH hS hB0 hl ca_X2_firstFault mkX5_96 Kc6 hC.2.2.2.2.2.1.1 rfl rfl rfl rfl rfl ⟨Nat.le_of_ble_eq_true rfl, Nat.le_of_ble_eq_true rfl⟩ (Nat.le_of_ble_eq_true rfl) ⟨Nat.le_refl _, Nat.le_refl _⟩ dX5_buyAll_4 (fun H locs M7 hH hp hS => ?_)
  obtain ⟨hP8, hR9, hG10⟩ := hp
  have hC11 : Cl G b (σ.1, σ.2.1, σ.2.2.1, σ.2.2.2.1, σ.2.2.2.2.1, σ.2.2.2.2.2.1, σ.2.2.2.2.2.2) M7 := Cl.setP (v := σ.1) (hn := σ.2.1) (hist := σ.2.2.1) (sl := σ.2.2.2.1) (sd := σ.2.2.2.2.1) (len := σ.2.2.2.2.2.1) (ps := σ.2.2.2.2.2.2) hC hv hn6 hhv hsv ⟨hP8, hR9⟩ (fun q hq => hG10 q (by omega))
  have hW12 := WlR.kept hr hv.1 hW (fun q q1 q2 => hG10 q (by omega))
  have hF13 := fun q hq => (hG10 q (by omega)).trans (hF q hq)
  refine lv_bipush (v := (-6)) hx hb dX5_buyAll_7 (by decide) ?_
  refine o_cmp_eq (tgt := 15) hx hb (hob) dX5_buyAll_9 (by decide) (fun h14 => ?_) (fun j15 h14 => ?_)
  · refine lv_aload_n hx hb dX5_buyAll_15 rfl (lv_at hl 0 rfl) ?_
    refine z_get (T := TX5) (v := .ref (b + 55)) hE hH hC11.1 rfl uw_X5 2 (by decide) fkX5_22 rfl dX5_buyAll_16 ?_
    refine lv_aload_n hx hb dX5_buyAll_19 rfl (lv_at hl 0 rfl) ?_
    refine z_get (T := TX5) (v := .ref (b + 1)) hE hH hC11.1 rfl uw_X5 0 (by decide) fkX5_12 rfl dX5_buyAll_20 ?_
    obtain ⟨tt, htt, hBt, hLt⟩ := id hC11.2.2.2.1
    refine z_callV (rest := []) (st2 := []) hE hH hS hB0 hl ca_X1_keep mkX5_53 (c_X1_keep l G B0 M7 (b + 55) σ.2.1 σ.2.2.1 hC11.2.2.2.1 hn6 hhv (b + 1) r σ.1 hW12 hr hv (by omega) (by omega)) hBt.1 rfl rfl rfl rfl rfl ⟨Nat.le_of_ble_eq_true rfl, Nat.le_of_ble_eq_true rfl⟩ (Nat.le_of_ble_eq_true rfl) ⟨Nat.le_refl _, Nat.le_refl _⟩ dX5_buyAll_23 (fun H locs M17 hH hp hS => ?_)
    obtain ⟨hK18, hG19⟩ := hp
    have hC20 : Cl G b (σ.1, keepN σ.2.1, keepH σ.2.2.1 σ.2.1 σ.1, σ.2.2.2.1, σ.2.2.2.2.1, σ.2.2.2.2.2.1, σ.2.2.2.2.2.2) M17 := Cl.setH (v := σ.1) (hn := σ.2.1) (hist := σ.2.2.1) (sl := σ.2.2.2.1) (sd := σ.2.2.2.2.1) (len := σ.2.2.2.2.2.1) (ps := σ.2.2.2.2.2.2) hC11 hv hsv hK18 hG19
    have hW21 := WlR.kept hr hv.1 hW12 (fun q q1 q2 => hG19 q (by omega))
    have hF22 := fun q hq => (hG19 q (by omega)).trans (hF13 q hq)
    have hn23 := keepN_le hn6
    have hh24 := keepH_ok hn6 hhv hv
    refine lv_aload_n hx hb dX5_buyAll_26 rfl (lv_at hl 0 rfl) ?_
    refine z_get (T := TX5) (v := .ref (b + 275)) hE hH hC20.1 rfl uw_X5 5 (by decide) fkX5_37 rfl dX5_buyAll_27 ?_
    refine lv_aload_n hx hb dX5_buyAll_30 rfl (lv_at hl 0 rfl) ?_
    refine z_get (T := TX5) (v := .ref (b + 1)) hE hH hC20.1 rfl uw_X5 0 (by decide) fkX5_12 rfl dX5_buyAll_31 ?_
    obtain ⟨ga25, gb26, gc27, gd28, hRd29⟩ := hC20.2.2.2.2.2.2
    have hz31 : ffR (ga25, gb26, gc27, gd28) σ.2.2.2.2.2.2 σ.2.2.2.2.2.1 = none := (ffR_eq (ga25, gb26, gc27, gd28) g0 _ _).trans h14
    have Kc30 := c_X2_sendBuyersTo l G B0 M17 (b + 275) σ.2.2.2.2.2.1 σ.2.2.2.2.2.2 hC20.2.2.2.2.2.1 hln hps (ga25, gb26, gc27, gd28) hRd29 (by omega) (b + 1) r σ.1 hW21 hr hv (by omega) (by omega) (txtOk_of hz31)
    rw [sbN_eq g0 σ.1 hz31 _ (Nat.le_refl _), sbV_eq g0 σ.1 hz31 _ (Nat.le_refl _)] at Kc30
    refine z_callV (rest := []) (st2 := [.int (nI (sbN g0 σ.2.2.2.2.2.2 σ.2.2.2.2.2.1 σ.1 σ.2.2.2.2.2.1))]) hE hH hS hB0 hl ca_X2_sendBuyersTo mkX5_100 Kc30 hC20.2.2.2.2.2.1.1 rfl rfl rfl rfl rfl ⟨Nat.le_of_ble_eq_true rfl, Nat.le_of_ble_eq_true rfl⟩ (Nat.le_of_ble_eq_true rfl) ⟨Nat.le_refl _, Nat.le_refl _⟩ dX5_buyAll_34 (fun H locs M32 hH hp hS => ?_)
    obtain ⟨hP33, hR34, hW35, hG36⟩ := hp
    have hC37 : Cl G b (sbV g0 σ.2.2.2.2.2.2 σ.2.2.2.2.2.1 σ.1 σ.2.2.2.2.2.1, keepN σ.2.1, keepH σ.2.2.1 σ.2.1 σ.1, σ.2.2.2.1, σ.2.2.2.2.1, σ.2.2.2.2.2.1, σ.2.2.2.2.2.2) M32 := Cl.setWP (v := σ.1) (hn := keepN σ.2.1) (hist := keepH σ.2.2.1 σ.2.1 σ.1) (sl := σ.2.2.2.1) (sd := σ.2.2.2.2.1) (len := σ.2.2.2.2.2.1) (ps := σ.2.2.2.2.2.2) hC20 hn23 hh24 hsv ⟨r, hr, hW35⟩ ⟨hP33, hR34⟩ hG36
    have hv38 : wOk (sbV g0 σ.2.2.2.2.2.2 σ.2.2.2.2.2.1 σ.1 σ.2.2.2.2.2.1) := (sbV_ok _ _ _ hv _).1
    have hF39 := fun q hq => (hG36 q (by omega)).trans (hF22 q hq)
    refine lv_istore_n (lv' := [(1, .int (nI (sbN g0 σ.2.2.2.2.2.2 σ.2.2.2.2.2.1 σ.1 σ.2.2.2.2.2.1))), (0, .ref b)]) hx hb dX5_buyAll_37 rfl hl (by decide) rfl (fun ls hl => ?_)
    refine lv_aload_n hx hb dX5_buyAll_38 rfl (lv_at hl 1 rfl) ?_
    refine z_get (T := TX5) (v := .ref (b + 275)) hE hH hC37.1 rfl uw_X5 5 (by decide) fkX5_37 rfl dX5_buyAll_39 ?_
    refine n_iconst hx hb 0 dX5_buyAll_42 (by decide) ?_
    refine z_put (T := TX2) hE hH hS hC37.2.2.2.2.2.1.1 rfl uw_X2 tyX2 tyX2_ok nmX2 1 (by decide) fkX5_104 rfl rfl rfl (Nat.le_of_ble_eq_true rfl) (by omega) dX5_buyAll_43 (fun H locs M42 hH hS e40 o41 => ?_)
    obtain ⟨qa, qb, qc, qd, hRq⟩ := hC37.2.2.2.2.2.2
    have hC43 : Cl G b (sbV g0 σ.2.2.2.2.2.2 σ.2.2.2.2.2.1 σ.1 σ.2.2.2.2.2.1, keepN σ.2.1, keepH σ.2.2.1 σ.2.1 σ.1, σ.2.2.2.1, σ.2.2.2.2.1, 0, σ.2.2.2.2.2.2) M42 := Cl.setP (v := sbV g0 σ.2.2.2.2.2.2 σ.2.2.2.2.2.1 σ.1 σ.2.2.2.2.2.1) (hn := keepN σ.2.1) (hist := keepH σ.2.2.1 σ.2.1 σ.1) (sl := σ.2.2.2.1) (sd := σ.2.2.2.2.1) (len := σ.2.2.2.2.2.1) (ps := σ.2.2.2.2.2.2) hC37 hv38 hn23 hh24 hsv ⟨⟨e40, hC37.2.2.2.2.2.1.2.kept (o41 _ (by omega))⟩, qa, qb, qc, qd, by unfold RdM at hRq ⊢; rw [o41 _ (by omega)]; exact hRq⟩ (fun q hq => o41 q (by omega))
    have hW44 := WlR.kept hr hv38.1 hW35 (fun q q1 q2 => o41 q (by omega))
    have hF45 := fun q hq => (o41 q (by omega)).trans (hF39 q hq)
    refine lv_iload_n hx hb dX5_buyAll_46 rfl (lv_at hl 0 rfl) ?_
    have hf : fBuyAll σ = ((nI (sbN g0 σ.2.2.2.2.2.2 σ.2.2.2.2.2.1 σ.1 σ.2.2.2.2.2.1)), (sbV g0 σ.2.2.2.2.2.2 σ.2.2.2.2.2.1 σ.1 σ.2.2.2.2.2.1, keepN σ.2.1, keepH σ.2.2.1 σ.2.1 σ.1, σ.2.2.2.1, σ.2.2.2.2.1, 0, σ.2.2.2.2.2.2)) := by
      simp [fBuyAll, chg, sV, sN, sH, sS, sD, sL, sP, h14]
      try omega
    rw [hf]
    exact z_iret hE hH hS rfl ⟨hC43, hF45⟩ dX5_buyAll_47
  · replace hl : lv_has ls 2 [(0, .ref b)] := hl
    refine lv_bipush (v := (-3)) hx hb dX5_buyAll_12 (by decide) ?_
    have hf : fBuyAll σ = ((-3), (σ.1, σ.2.1, σ.2.2.1, σ.2.2.2.1, σ.2.2.2.2.1, σ.2.2.2.2.2.1, σ.2.2.2.2.2.2)) := by
      simp [fBuyAll, chg, sV, sN, sH, sS, sD, sL, sP, h14]
      try omega
    rw [hf]
    exact z_iret hE hH hS rfl ⟨hC11, hF13⟩ dX5_buyAll_14
