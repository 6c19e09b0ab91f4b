set_option maxHeartbeats 4000000 in
set_option maxRecDepth 100000 in
theorem c_X6_coat (l : Launch) (G : zG) (B0 : Nat) (M : Mm) (d : Nat) (σ : Sg) (hC : Mo G d σ M) (hok : sOk σ) (hBd : B0 ≤ d) (p c : Int32) : zMet l yX6_coat cX6_coat 6 (some .int) 5 0 0 G B0 M [.ref d, .int p, .int c] (some (.int (fCoat σ p c).1)) (fun M1 => Mo G d (fCoat σ p c).2 M1 ∧ ∀ q, (q < d ∨ d + 10 ≤ q) → M1 q = M q) := by
  refine z_met RX6 [(0, .ref d), (1, .int p), (2, .int c)] (by decide) rfl (Nat.le_of_ble_eq_true rfl) rfl ?_
  intro pg ev s m below meth cd ls hE hin hB0 hH hl
  have hx := hE.1
  have hb := hE.2.1
  have hv : wOk σ.1 := hok.hw
  have hn : σ.1 0 ≤ 12 := hv.1
  have hdy : σ.1 1 ≤ 9999 := hok.1.2
  have hn6 : σ.2.1 ≤ 6 := hok.2.1
  have hhv : ∀ k, k < σ.2.1 → wOk (σ.2.2.1 k) := hok.hh
  have hsv : ∀ k, k < 2 → σ.2.2.2.2.1 k = true → wOk (σ.2.2.2.1 k) := hok.hs
  have hln : σ.2.2.2.2.2.1 ≤ 60 := hok.2.2.2.2.1
  have hpc : ∀ i, i < σ.2.2.2.2.2.1 → σ.2.2.2.2.2.2 i < 128 := fun i hi => by have h7 := (hok.2.2.2.2.2 i hi).2; exact Nat.lt_of_le_of_lt h7 (by decide)
  obtain ⟨t, at', w, bm, A, U, L, K, SE, SH, BU, hM, hU, hL, hK⟩ := hC
  have hA : zArr G 0 M (d + 1) 818 (fun i => nI (σ.1 i)) := hM.s (fun _ _ => rfl)
  have hF : ∀ q, (q < d ∨ d + 10 ≤ q) → M q = M q := fun _ _ => rfl
  refine z_gen B0 (fun H locs hH hS => ?_) hH
  refine lv_aload_n hx hb dX6_coat_0 rfl (lv_at hl 0 rfl) ?_
  refine n_iconst hx hb 0 dX6_coat_1 (by decide) ?_
  refine z_put (T := TX6) hE hH hS hM.1 rfl uw_X6 tyX6 tyX6_ok nmX6 0 (by decide) fkX6_38 rfl rfl rfl (Nat.le_of_ble_eq_true rfl) (by omega) dX6_coat_2 (fun H locs M3 hH hS e1 o2 => ?_)
  have hM4 : Md G d (sg (nI 0) (nI σ.2.1) (nI σ.2.2.2.2.2.1) at' w bm) (xs σ.1 A U L K (fun i => nI (σ.2.2.2.2.2.2 i)) SE SH BU) M3 := Md.setC hM e1 o2
  have hA5 := hM4.s (fun _ _ => rfl)
  have hF6 := fun q hq => (o2 q (by omega)).trans (hF q hq)
  refine lv_aload_n hx hb dX6_coat_5 rfl (lv_at hl 0 rfl) ?_
  refine lv_iload_n hx hb dX6_coat_6 rfl (lv_at hl 1 rfl) ?_
  refine z_callV (rest := []) (st2 := [.int (zb (isP σ.1 p))]) hE hH hS hB0 hl ca_X6_isPoster mkX6_84 (c_X6_isPoster l G B0 M3 d (sg (nI 0) (nI σ.2.1) (nI σ.2.2.2.2.2.1) at' w bm) (xs σ.1 A U L K (fun i => nI (σ.2.2.2.2.2.2 i)) SE SH BU) hM4 σ.1 (fun _ _ => rfl) hv p) hM4.1 rfl rfl rfl rfl rfl ⟨Nat.le_of_ble_eq_true rfl, Nat.le_of_ble_eq_true rfl⟩ (Nat.le_of_ble_eq_true rfl) ⟨Nat.le_refl _, Nat.le_refl _⟩ dX6_coat_7 (fun H locs M1 hH hp hS => ?_)
  subst hp
  refine b_if_ne (tgt := 15) hx hb dX6_coat_10 (by decide) (fun h8 => ?_) (fun h8 => ?_)
  · obtain ⟨p', rfl, p2⟩ := isP_nat hn h8
    have tx9 : tn (nI p') = p' := tn_nI (by omega)
    refine lv_iload_n hx hb dX6_coat_15 rfl (lv_at hl 2 rfl) ?_
    refine n_iconst hx hb 1 dX6_coat_16 (by decide) ?_
    refine n_bipush hx hb 99 dX6_coat_17 (by decide) ?_
    refine z_callS (rest := []) (st2 := [.int (zb (wi c (nI 1) (nI 99)))]) hE hH hS hB0 hl ca_X6_in mkX6_42 (c_X6_in l G B0 M3 c (nI 1) (nI 99)) rfl rfl rfl ⟨Nat.le_of_ble_eq_true rfl, Nat.le_of_ble_eq_true rfl⟩ (Nat.le_of_ble_eq_true rfl) ⟨Nat.le_refl _, Nat.le_refl _⟩ dX6_coat_19 (fun H locs M1 hH hp hS => ?_)
    subst hp
    refine b_if_ne (tgt := 28) hx hb dX6_coat_22 (by decide) (fun h11 => ?_) (fun h11 => ?_)
    · obtain ⟨c', rfl, c1, c2⟩ := wi_nat (by decide) (by decide) h11
      have tx12 : tn (nI c') = c' := tn_nI (by omega)
      refine lv_aload_n hx hb dX6_coat_28 rfl (lv_at hl 0 rfl) ?_
      refine z_callV (rest := []) (st2 := []) hE hH hS hB0 hl ca_X6_records mkX6_81 (c_X6_records l G B0 M3 d (nI 0) (nI σ.2.2.2.2.2.1) at' w bm σ.2.1 σ.2.2.1 σ.1 A U L K (fun i => nI (σ.2.2.2.2.2.2 i)) SE SH BU hM4 hv (by omega) hn6 hU) hM4.1 rfl rfl rfl rfl rfl ⟨Nat.le_of_ble_eq_true rfl, Nat.le_of_ble_eq_true rfl⟩ (Nat.le_of_ble_eq_true rfl) ⟨Nat.le_refl _, Nat.le_refl _⟩ dX6_coat_29 (fun H locs M13 hH hp hS => ?_)
      obtain ⟨U14, hM15, hU18, hG16⟩ := hp
      have hA19 := hM15.s (fun _ _ => rfl)
      have hF17 := fun q hq => (hG16 q hq).trans (hF6 q hq)
      refine n_iconst hx hb 0 dX6_coat_32 (by decide) ?_
      refine lv_istore_n (lv' := [(3, .int (nI 0)), (0, .ref d), (1, .int (nI p')), (2, .int (nI c'))]) hx hb dX6_coat_33 rfl hl (by decide) rfl (fun ls hl => ?_)
      refine n_iconst hx hb 0 dX6_coat_34 (by decide) ?_
      refine lv_istore (lv' := [(4, .int (nI 0)), (3, .int (nI 0)), (0, .ref d), (1, .int (nI p')), (2, .int (nI c'))]) hx hb dX6_coat_35 hl (by decide) rfl (fun ls hl => ?_)
      have L37 : ∀ (dd : Nat) (k : Nat) (a : Nat) (u : Wv) (M1 : Mm), 60 < k + dd → (k ≤ 60) → (Md G d (sg (nI 0) (nI (keepN σ.2.1)) (nI σ.2.2.2.2.2.1) at' w bm) (xs u A U14 L K (fun i => nI (σ.2.2.2.2.2.2 i)) SE SH BU) M1) → (∀ q, (q < d ∨ d + 10 ≤ q) → M1 q = M q) → (u = coatV σ.1 p' c' k) → (a = zcnt (fun k => decide (seen (coatV σ.1 p' c' k) (-6) k = some p')) k) → (a ≤ k) → ∀ (H : Heap) (locs : List Loc), zH G M1 H → zS 0 B0 s.heap H locs → ∀ (ls : Array Slot), lv_has ls 6 [(0, .ref d), (1, .int (nI p')), (2, .int (nI c')), (3, .int (nI a)), (4, .int (nI k))] → zW pg l ev 5 0 0 s m [.ref d, .int (nI p'), .int (nI c')] below meth cd H locs 0 0 G B0 (some (.int (fCoat σ (nI p') (nI c')).1)) (fun M1 => Mo G d (fCoat σ (nI p') (nI c')).2 M1 ∧ ∀ q, (q < d ∨ d + 10 ≤ q) → M1 q = M q) (F0 m 37 ls []) := by
        intro dd
        induction dd with
        | zero =>
          intro k a u M1 hdd hk hM1 hF1 hu ha ha9
          exact absurd hdd (by omega)
        | succ dd ih =>
          intro k a u M1 hdd hk hM1 hF1 hu ha ha9 H locs hH hS ls hl
          have hA1 : zArr G 0 M1 (d + 1) 818 (fun i => nI (u i)) := hM1.s (fun _ _ => rfl)
          have hvu : wOk u := by rw [hu]; exact coatV_ok hv p' c' k hk
          have hu0 : u 0 = σ.1 0 := by rw [hu]; exact coatV_0 σ.1 p' c' k
          refine lv_iload hx hb dX6_coat_37 (lv_at hl 4 rfl) ?_
          refine n_bipush hx hb 60 dX6_coat_39 (by decide) ?_
          refine n_cmp_ge (tgt := 97) hx hb (by omega) (by decide) dX6_coat_41 (by decide) (fun h20 => ?_) (fun h20 => ?_)
          · refine lv_iload_n hx hb dX6_coat_97 rfl (lv_at hl 3 rfl) ?_
            have hf : fCoat σ (nI p') (nI c') = ((nI a), (u, keepN σ.2.1, keepH σ.2.2.1 σ.2.1 σ.1, σ.2.2.2.1, σ.2.2.2.2.1, σ.2.2.2.2.2.1, σ.2.2.2.2.2.2)) := by
              have hkk : k = 60 := by omega
              subst hkk
              rw [hu, ha]
              simp [fCoat, coatN, chg, sV, sN, sH, sS, sD, sL, sP, h8, tx9, h11, tx12, h20]
            rw [hf]
            exact z_iret hE hH hS rfl ⟨⟨_, _, _, _, _, _, _, _, _, _, _, hM1, hU18, hL, hK⟩, hF1⟩ dX6_coat_98
          · refine lv_aload_n hx hb dX6_coat_44 rfl (lv_at hl 0 rfl) ?_
            refine lv_iload hx hb dX6_coat_45 (lv_at hl 4 rfl) ?_
            refine lv_bipush (v := (-6)) hx hb dX6_coat_47 (by decide) ?_
            refine z_callV (rest := []) (st2 := [.int (oI (seen u (-6) k))]) hE hH hS hB0 hl ca_X6_seenAt mkX6_60 (c_X6_seenAt l G B0 M1 d (sg (nI 0) (nI (keepN σ.2.1)) (nI σ.2.2.2.2.2.1) at' w bm) (xs u A U14 L K (fun i => nI (σ.2.2.2.2.2.2 i)) SE SH BU) hM1 u (fun _ _ => rfl) hvu k (-6) (by omega)) hM1.1 rfl rfl rfl rfl rfl ⟨Nat.le_of_ble_eq_true rfl, Nat.le_of_ble_eq_true rfl⟩ (Nat.le_of_ble_eq_true rfl) ⟨Nat.le_refl _, Nat.le_refl _⟩ dX6_coat_49 (fun H locs M1 hH hp hS => ?_)
            subst hp
            refine lv_iload_n hx hb dX6_coat_52 rfl (lv_at hl 1 rfl) ?_
            refine on_cmp_ne (tgt := 91) hx hb (seen_ob hvu) (by omega) dX6_coat_53 (by decide) (fun h21 => ?_) (fun h21 => ?_)
            · refine lv_iinc (v := (nI (k + 1))) (lv' := [(4, .int (nI (k + 1))), (0, .ref d), (1, .int (nI p')), (2, .int (nI c')), (3, .int (nI a))]) hx hb dX6_coat_91 hl (k := 4) rfl (nI_inc _) (by decide) rfl (fun ls hl => ?_)
              refine lv_goto (tgt := 37) hx hb dX6_coat_94 (by decide) ?_
              exact ih  (k + 1) a u M1 (by omega) (by omega) hM1 hF1 (by rw [coatV_succ, ← hu, if_neg h21]) (by unfold zcnt; rw [← ha, ← hu, decide_eq_false h21]; rfl) (by omega) _ _ hH hS _ (lv_sub hl [1, 2, 3, 4, 0] rfl)
            · refine lv_aload_n hx hb dX6_coat_56 rfl (lv_at hl 0 rfl) ?_
              refine lv_iload_n hx hb dX6_coat_57 rfl (lv_at hl 1 rfl) ?_
              refine lv_iload hx hb dX6_coat_58 (lv_at hl 4 rfl) ?_
              refine z_callV (rest := []) (st2 := [.int (nI (cv u p' k))]) hE hH hS hB0 hl ca_X6_has mkX6_57 (c_X6_has l G B0 M1 d (sg (nI 0) (nI (keepN σ.2.1)) (nI σ.2.2.2.2.2.1) at' w bm) (xs u A U14 L K (fun i => nI (σ.2.2.2.2.2.2 i)) SE SH BU) hM1 u (fun _ _ => rfl) hvu p' k (by omega) (by omega)) hM1.1 rfl rfl rfl rfl rfl ⟨Nat.le_of_ble_eq_true rfl, Nat.le_of_ble_eq_true rfl⟩ (Nat.le_of_ble_eq_true rfl) ⟨Nat.le_refl _, Nat.le_refl _⟩ dX6_coat_60 (fun H locs M1 hH hp hS => ?_)
              subst hp
              have q22 := hvu.coat (j := p') (c := k) (by omega) (by omega)
              refine lv_iload_n hx hb dX6_coat_63 rfl (lv_at hl 2 rfl) ?_
              refine n_iadd hx hb dX6_coat_64 ?_
              refine lv_istore (lv' := [(5, .int (nI ((cv u p' k) + c'))), (0, .ref d), (1, .int (nI p')), (2, .int (nI c')), (3, .int (nI a)), (4, .int (nI k))]) hx hb dX6_coat_65 hl (by decide) rfl (fun ls hl => ?_)
              refine lv_aload_n hx hb dX6_coat_67 rfl (lv_at hl 1 rfl) ?_
              refine lv_iload_n hx hb dX6_coat_68 rfl (lv_at hl 2 rfl) ?_
              refine lv_iload hx hb dX6_coat_69 (lv_at hl 5 rfl) ?_
              refine lv_iload hx hb dX6_coat_71 (lv_at hl 0 rfl) ?_
              refine n_bipush hx hb 99 dX6_coat_73 (by decide) ?_
              refine n_cmp_le (tgt := 83) hx hb (by omega) (by decide) dX6_coat_75 (by decide) (fun h23 => ?_) (fun h23 => ?_)
              · refine lv_iload hx hb dX6_coat_83 (lv_at hl 0 rfl) ?_
                refine z_callV (rest := []) (st2 := []) hE hH hS hB0 hl ca_X6_lays mkX6_63 (c_X6_lays0 l G B0 M1 d (sg (nI 0) (nI (keepN σ.2.1)) (nI σ.2.2.2.2.2.1) at' w bm) u A U14 L K (fun i => nI (σ.2.2.2.2.2.2 i)) SE SH BU hM1 (by omega) p' k ((cv u p' k) + c') (by omega) (by omega)) hM1.1 rfl rfl rfl rfl rfl ⟨Nat.le_of_ble_eq_true rfl, Nat.le_of_ble_eq_true rfl⟩ (Nat.le_of_ble_eq_true rfl) ⟨Nat.le_refl _, Nat.le_refl _⟩ dX6_coat_85 (fun H locs M24 hH hp hS => ?_)
                obtain ⟨hM25, hG26⟩ := hp
                have hA28 := hM25.s (fun _ _ => rfl)
                have hF27 := fun q hq => (hG26 q hq).trans (hF1 q hq)
                refine lv_iinc (v := (nI (a + 1))) (lv' := [(3, .int (nI (a + 1))), (5, .int (nI ((cv u p' k) + c'))), (0, .ref d), (1, .int (nI p')), (2, .int (nI c')), (4, .int (nI k))]) hx hb dX6_coat_88 hl (k := 4) rfl (nI_inc _) (by decide) rfl (fun ls hl => ?_)
                refine lv_iinc (v := (nI (k + 1))) (lv' := [(4, .int (nI (k + 1))), (3, .int (nI (a + 1))), (5, .int (nI ((cv u p' k) + c'))), (0, .ref d), (1, .int (nI p')), (2, .int (nI c'))]) hx hb dX6_coat_91 hl (k := 5) rfl (nI_inc _) (by decide) rfl (fun ls hl => ?_)
                refine lv_goto (tgt := 37) hx hb dX6_coat_94 (by decide) ?_
                exact ih  (k + 1) (a + 1) (vset u (98 + 60 * p' + k) ((cv u p' k) + c')) M24 (by omega) (by omega) hM25 hF27 (by rw [coatV_succ, ← hu, if_pos h21, show min (cv u p' k + c') 99 = cv u p' k + c' from by omega]) (by unfold zcnt; rw [← ha, ← hu, decide_eq_true h21]; rfl) (by omega) _ _ hH hS _ (lv_sub hl [3, 4, 5, 1, 0] rfl)
              · refine n_bipush hx hb 99 dX6_coat_78 (by decide) ?_
                refine lv_goto (tgt := 85) hx hb dX6_coat_80 (by decide) ?_
                refine z_callV (rest := []) (st2 := []) hE hH hS hB0 hl ca_X6_lays mkX6_63 (c_X6_lays0 l G B0 M1 d (sg (nI 0) (nI (keepN σ.2.1)) (nI σ.2.2.2.2.2.1) at' w bm) u A U14 L K (fun i => nI (σ.2.2.2.2.2.2 i)) SE SH BU hM1 (by omega) p' k 99 (by omega) (by omega)) hM1.1 rfl rfl rfl rfl rfl ⟨Nat.le_of_ble_eq_true rfl, Nat.le_of_ble_eq_true rfl⟩ (Nat.le_of_ble_eq_true rfl) ⟨Nat.le_refl _, Nat.le_refl _⟩ dX6_coat_85 (fun H locs M29 hH hp hS => ?_)
                obtain ⟨hM30, hG31⟩ := hp
                have hA33 := hM30.s (fun _ _ => rfl)
                have hF32 := fun q hq => (hG31 q hq).trans (hF1 q hq)
                refine lv_iinc (v := (nI (a + 1))) (lv' := [(3, .int (nI (a + 1))), (5, .int (nI ((cv u p' k) + c'))), (0, .ref d), (1, .int (nI p')), (2, .int (nI c')), (4, .int (nI k))]) hx hb dX6_coat_88 hl (k := 4) rfl (nI_inc _) (by decide) rfl (fun ls hl => ?_)
                refine lv_iinc (v := (nI (k + 1))) (lv' := [(4, .int (nI (k + 1))), (3, .int (nI (a + 1))), (5, .int (nI ((cv u p' k) + c'))), (0, .ref d), (1, .int (nI p')), (2, .int (nI c'))]) hx hb dX6_coat_91 hl (k := 5) rfl (nI_inc _) (by decide) rfl (fun ls hl => ?_)
                refine lv_goto (tgt := 37) hx hb dX6_coat_94 (by decide) ?_
                exact ih  (k + 1) (a + 1) (vset u (98 + 60 * p' + k) 99) M29 (by omega) (by omega) hM30 hF32 (by rw [coatV_succ, ← hu, if_pos h21, show min (cv u p' k + c') 99 = 99 from by omega]) (by unfold zcnt; rw [← ha, ← hu, decide_eq_true h21]; rfl) (by omega) _ _ hH hS _ (lv_sub hl [3, 4, 5, 1, 0] rfl)
      exact L37 61 0 0 σ.1 M13 (by omega) (by omega) hM15 hF17 rfl rfl (by omega) _ _ hH hS _ (lv_sub hl [2, 3, 4, 1, 0] rfl)
    · refine lv_bipush (v := (-2)) hx hb dX6_coat_25 (by decide) ?_
      have hf : fCoat σ (nI p') c = ((-2), (σ.1, σ.2.1, σ.2.2.1, σ.2.2.2.1, σ.2.2.2.2.1, σ.2.2.2.2.2.1, σ.2.2.2.2.2.2)) := by
        simp [fCoat, chg, sV, sN, sH, sS, sD, sL, sP, h8, tx9, h11]
        try omega
      rw [hf]
      exact z_iret hE hH hS rfl ⟨⟨_, _, _, _, _, _, _, _, _, _, _, hM4, hU, hL, hK⟩, hF6⟩ dX6_coat_27
  · refine lv_iconst (v := (-1)) hx hb dX6_coat_13 (by decide) ?_
    have hf : fCoat σ p c = ((-1), (σ.1, σ.2.1, σ.2.2.1, σ.2.2.2.1, σ.2.2.2.2.1, σ.2.2.2.2.2.1, σ.2.2.2.2.2.2)) := by
      simp [fCoat, chg, sV, sN, sH, sS, sD, sL, sP, h8]
      try omega
    rw [hf]
    exact z_iret hE hH hS rfl ⟨⟨_, _, _, _, _, _, _, _, _, _, _, hM4, hU, hL, hK⟩, hF6⟩ dX6_coat_14

set_option maxHeartbeats 4000000 in
set_option maxRecDepth 100000 in
theorem c_X6_scrape (l : Launch) (G : zG) (B0 : Nat) (M : Mm) (d : Nat) (σ : Sg) (hC : Mo G d σ M) (hok : sOk σ) (hBd : B0 ≤ d) (x y c : Int32) : zMet l yX6_scrape cX6_scrape 9 (some .int) 5 0 0 G B0 M [.ref d, .int x, .int y, .int c] (some (.int (fScrape σ x y c).1)) (fun M1 => Mo G d (fScrape σ x y c).2 M1 ∧ ∀ q, (q < d ∨ d + 10 ≤ q) → M1 q = M q) := by
  refine z_met RX6 [(0, .ref d), (1, .int x), (2, .int y), (3, .int c)] (by decide) rfl (Nat.le_of_ble_eq_true rfl) rfl ?_
  intro pg ev s m below meth cd ls hE hin hB0 hH hl
  have hx := hE.1
  have hb := hE.2.1
  have hv : wOk σ.1 := hok.hw
  have hn : σ.1 0 ≤ 12 := hv.1
  have hdy : σ.1 1 ≤ 9999 := hok.1.2
  have hn6 : σ.2.1 ≤ 6 := hok.2.1
  have hhv : ∀ k, k < σ.2.1 → wOk (σ.2.2.1 k) := hok.hh
  have hsv : ∀ k, k < 2 → σ.2.2.2.2.1 k = true → wOk (σ.2.2.2.1 k) := hok.hs
  have hln : σ.2.2.2.2.2.1 ≤ 60 := hok.2.2.2.2.1
  have hpc : ∀ i, i < σ.2.2.2.2.2.1 → σ.2.2.2.2.2.2 i < 128 := fun i hi => by have h7 := (hok.2.2.2.2.2 i hi).2; exact Nat.lt_of_le_of_lt h7 (by decide)
  obtain ⟨t, at', w, bm, A, U, L, K, SE, SH, BU, hM, hU, hL, hK⟩ := hC
  have hA : zArr G 0 M (d + 1) 818 (fun i => nI (σ.1 i)) := hM.s (fun _ _ => rfl)
  have hF : ∀ q, (q < d ∨ d + 10 ≤ q) → M q = M q := fun _ _ => rfl
  refine z_gen B0 (fun H locs hH hS => ?_) hH
  refine lv_aload_n hx hb dX6_scrape_0 rfl (lv_at hl 0 rfl) ?_
  refine n_iconst hx hb 0 dX6_scrape_1 (by decide) ?_
  refine z_put (T := TX6) hE hH hS hM.1 rfl uw_X6 tyX6 tyX6_ok nmX6 0 (by decide) fkX6_38 rfl rfl rfl (Nat.le_of_ble_eq_true rfl) (by omega) dX6_scrape_2 (fun H locs M3 hH hS e1 o2 => ?_)
  have hM4 : Md G d (sg (nI 0) (nI σ.2.1) (nI σ.2.2.2.2.2.1) at' w bm) (xs σ.1 A U L K (fun i => nI (σ.2.2.2.2.2.2 i)) SE SH BU) M3 := Md.setC hM e1 o2
  have hA5 := hM4.s (fun _ _ => rfl)
  have hF6 := fun q hq => (o2 q (by omega)).trans (hF q hq)
  refine lv_iload_n hx hb dX6_scrape_5 rfl (lv_at hl 1 rfl) ?_
  refine lv_iload_n hx hb dX6_scrape_6 rfl (lv_at hl 2 rfl) ?_
  refine z_callS (rest := []) (st2 := [.int (zb (isC x y))]) hE hH hS hB0 hl ca_X6_isCell mkX6_78 (c_X6_isCell l G B0 M3 x y) rfl rfl rfl ⟨Nat.le_of_ble_eq_true rfl, Nat.le_of_ble_eq_true rfl⟩ (Nat.le_of_ble_eq_true rfl) ⟨Nat.le_refl _, Nat.le_refl _⟩ dX6_scrape_7 (fun H locs M1 hH hp hS => ?_)
  subst hp
  refine b_if_ne (tgt := 15) hx hb dX6_scrape_10 (by decide) (fun h8 => ?_) (fun h8 => ?_)
  · obtain ⟨x', y', rfl, rfl, x9, y9⟩ := isC_nat h8
    have tx9 : tn (nI x') = x' := tn_nI (by omega)
    have tx10 : tn (nI y') = y' := tn_nI (by omega)
    refine lv_iload_n hx hb dX6_scrape_15 rfl (lv_at hl 3 rfl) ?_
    refine n_iconst hx hb 1 dX6_scrape_16 (by decide) ?_
    refine n_sipush hx hb 300 dX6_scrape_17 (by decide) ?_
    refine z_callS (rest := []) (st2 := [.int (zb (wi c (nI 1) (nI 300)))]) hE hH hS hB0 hl ca_X6_in mkX6_42 (c_X6_in l G B0 M3 c (nI 1) (nI 300)) rfl rfl rfl ⟨Nat.le_of_ble_eq_true rfl, Nat.le_of_ble_eq_true rfl⟩ (Nat.le_of_ble_eq_true rfl) ⟨Nat.le_refl _, Nat.le_refl _⟩ dX6_scrape_20 (fun H locs M1 hH hp hS => ?_)
    subst hp
    refine b_if_ne (tgt := 29) hx hb dX6_scrape_23 (by decide) (fun h12 => ?_) (fun h12 => ?_)
    · obtain ⟨c', rfl, c1, c2⟩ := wi_nat (by decide) (by decide) h12
      have tx13 : tn (nI c') = c' := tn_nI (by omega)
      refine n_bipush hx hb 10 dX6_scrape_29 (by decide) ?_
      refine lv_iload_n hx hb dX6_scrape_31 rfl (lv_at hl 2 rfl) ?_
      refine n_imul hx hb dX6_scrape_32 ?_
      refine lv_iload_n hx hb dX6_scrape_33 rfl (lv_at hl 1 rfl) ?_
      refine n_iadd hx hb dX6_scrape_34 ?_
      refine z_topeq (show nI ((10 * y') + x') = nI (y' * 10 + x') from by rw [show (10 * y') + x' = y' * 10 + x' by omega]) ?_
      refine lv_istore (lv' := [(4, .int (nI (y' * 10 + x'))), (0, .ref d), (1, .int (nI x')), (2, .int (nI y')), (3, .int (nI c'))]) hx hb dX6_scrape_35 hl (by decide) rfl (fun ls hl => ?_)
      refine lv_aload_n hx hb dX6_scrape_37 rfl (lv_at hl 1 rfl) ?_
      refine lv_iload hx hb dX6_scrape_38 (lv_at hl 0 rfl) ?_
      refine lv_bipush (v := (-6)) hx hb dX6_scrape_40 (by decide) ?_
      refine z_callV (rest := []) (st2 := [.int (oI (seen σ.1 (-6) (y' * 10 + x')))]) hE hH hS hB0 hl ca_X6_seenAt mkX6_60 (c_X6_seenAt l G B0 M3 d (sg (nI 0) (nI σ.2.1) (nI σ.2.2.2.2.2.1) at' w bm) (xs σ.1 A U L K (fun i => nI (σ.2.2.2.2.2.2 i)) SE SH BU) hM4 σ.1 (fun _ _ => rfl) hv (y' * 10 + x') (-6) (by omega)) hM4.1 rfl rfl rfl rfl rfl ⟨Nat.le_of_ble_eq_true rfl, Nat.le_of_ble_eq_true rfl⟩ (Nat.le_of_ble_eq_true rfl) ⟨Nat.le_refl _, Nat.le_refl _⟩ dX6_scrape_42 (fun H locs M1 hH hp hS => ?_)
      subst hp
      have hob := seen_ob hv (but := -6) (c := (y' * 10 + x'))
      refine lv_istore (lv' := [(5, .int (oI (seen σ.1 (-6) (y' * 10 + x')))), (4, .int (nI (y' * 10 + x'))), (0, .ref d), (1, .int (nI x')), (2, .int (nI y')), (3, .int (nI c'))]) hx hb dX6_scrape_45 hl (by decide) rfl (fun ls hl => ?_)
      refine lv_iload hx hb dX6_scrape_47 (lv_at hl 0 rfl) ?_
      refine lv_bipush (v := (-6)) hx hb dX6_scrape_49 (by decide) ?_
      refine o_cmp_ne (tgt := 57) hx hb (hob) dX6_scrape_51 (by decide) (fun j15 h14 => ?_) (fun h14 => ?_)
      · rw [h14] at hl
        replace hl : lv_has ls 9 [(5, .int (nI j15)), (4, .int (nI (y' * 10 + x'))), (0, .ref d), (1, .int (nI x')), (2, .int (nI y')), (3, .int (nI c'))] := hl
        refine lv_aload_n hx hb dX6_scrape_57 rfl (lv_at hl 2 rfl) ?_
        refine z_callV (rest := []) (st2 := []) hE hH hS hB0 hl ca_X6_records mkX6_81 (c_X6_records l G B0 M3 d (nI 0) (nI σ.2.2.2.2.2.1) at' w bm σ.2.1 σ.2.2.1 σ.1 A U L K (fun i => nI (σ.2.2.2.2.2.2 i)) SE SH BU hM4 hv (by omega) hn6 hU) hM4.1 rfl rfl rfl rfl rfl ⟨Nat.le_of_ble_eq_true rfl, Nat.le_of_ble_eq_true rfl⟩ (Nat.le_of_ble_eq_true rfl) ⟨Nat.le_refl _, Nat.le_refl _⟩ dX6_scrape_58 (fun H locs M16 hH hp hS => ?_)
        obtain ⟨U17, hM18, hU21, hG19⟩ := hp
        have hA22 := hM18.s (fun _ _ => rfl)
        have hF20 := fun q hq => (hG19 q hq).trans (hF6 q hq)
        refine lv_iload_n hx hb dX6_scrape_61 rfl (lv_at hl 5 rfl) ?_
        refine lv_istore (lv' := [(6, .int (nI c')), (5, .int (nI j15)), (4, .int (nI (y' * 10 + x'))), (0, .ref d), (1, .int (nI x')), (2, .int (nI y')), (3, .int (nI c'))]) hx hb dX6_scrape_62 hl (by decide) rfl (fun ls hl => ?_)
        refine n_iconst hx hb 0 dX6_scrape_64 (by decide) ?_
        refine lv_istore (lv' := [(7, .int (nI 0)), (6, .int (nI c')), (5, .int (nI j15)), (4, .int (nI (y' * 10 + x'))), (0, .ref d), (1, .int (nI x')), (2, .int (nI y')), (3, .int (nI c'))]) hx hb dX6_scrape_65 hl (by decide) rfl (fun ls hl => ?_)
        have L67 : ∀ (dd : Nat) (n : Nat) (a : Nat) (t : Nat) (o : Option Nat) (u : Wv) (M1 : Mm), n < dd → (Md G d (sg (nI 0) (nI (keepN σ.2.1)) (nI σ.2.2.2.2.2.1) at' w bm) (xs u A U17 L K (fun i => nI (σ.2.2.2.2.2.2 i)) SE SH BU) M1) → (∀ q, (q < d ∨ d + 10 ≤ q) → M1 q = M q) → (wOk u) → (u 0 = σ.1 0) → (o = seen u (-6) (y' * 10 + x')) → (n ≤ σ.1 0) → (0 < t → o = seenGo u (-6) (y' * 10 + x') n) → (scrV (y' * 10 + x') n u t = scrV (y' * 10 + x') (σ.1 0) σ.1 c') → (a + scrN (y' * 10 + x') n u t = scrN (y' * 10 + x') (σ.1 0) σ.1 c') → (t ≤ 300) → (a + n ≤ 12) → ∀ (H : Heap) (locs : List Loc), zH G M1 H → zS 0 B0 s.heap H locs → ∀ (ls : Array Slot), lv_has ls 9 [(0, .ref d), (4, .int (nI (y' * 10 + x'))), (5, .int (oI o)), (6, .int (nI t)), (7, .int (nI a))] → zW pg l ev 5 0 0 s m [.ref d, .int (nI x'), .int (nI y'), .int (nI c')] below meth cd H locs 0 0 G B0 (some (.int (fScrape σ (nI x') (nI y') (nI c')).1)) (fun M1 => Mo G d (fScrape σ (nI x') (nI y') (nI c')).2 M1 ∧ ∀ q, (q < d ∨ d + 10 ≤ q) → M1 q = M q) (F0 m 67 ls []) := by
          intro dd
          induction dd with
          | zero =>
            intro n a t o u M1 hdd hM1 hF1 hvu hu0 ho hnl hn hV hN ht3 ha9
            exact absurd hdd (by omega)
          | succ dd ih =>
            intro n a t o u M1 hdd hM1 hF1 hvu hu0 ho hnl hn hV hN ht3 ha9 H locs hH hS ls hl
            have hA1 : zArr G 0 M1 (d + 1) 818 (fun i => nI (u i)) := hM1.s (fun _ _ => rfl)
            have hob : ∀ j, o = some j → j < 2 ^ 31 := by rw [ho]; exact seen_ob hvu
            refine lv_iload hx hb dX6_scrape_67 (lv_at hl 2 rfl) ?_
            refine lv_bipush (v := (-6)) hx hb dX6_scrape_69 (by decide) ?_
            refine o_cmp_eq (tgt := 144) hx hb (hob) dX6_scrape_71 (by decide) (fun h23 => ?_) (fun j24 h23 => ?_)
            · refine lv_iload hx hb dX6_scrape_144 (lv_at hl 4 rfl) ?_
              have hf : fScrape σ (nI x') (nI y') (nI c') = ((nI a), (u, keepN σ.2.1, keepH σ.2.2.1 σ.2.1 σ.1, σ.2.2.2.1, σ.2.2.2.2.1, σ.2.2.2.2.2.1, σ.2.2.2.2.2.2)) := by
                have hVN : scrV (y' * 10 + x') n u t = u ∧ scrN (y' * 10 + x') n u t = 0 := by
                  rcases Nat.eq_zero_or_pos t with q | q
                  · subst q; exact ⟨scrV_z _ _ _, scrN_z _ _ _⟩
                  · first | exact absurd q (by omega) | exact (scr_go n u t (by omega)).1 ((hn q).symm.trans h23)
                have e1 : u = scrV (y' * 10 + x') (σ.1 0) σ.1 c' := by rw [← hV]; exact hVN.1.symm
                have e2 : a = scrN (y' * 10 + x') (σ.1 0) σ.1 c' := by have := hVN.2; omega
                rw [e1, e2]
                simp [fScrape, prc, chg, sV, sN, sH, sS, sD, sL, sP, h8, tx9, tx10, h12, tx13, h14, h23]
              rw [hf]
              exact z_iret hE hH hS rfl ⟨⟨_, _, _, _, _, _, _, _, _, _, _, hM1, hU21, hL, hK⟩, hF1⟩ dX6_scrape_146
            · rw [h23] at hl
              replace hl : lv_has ls 9 [(0, .ref d), (4, .int (nI (y' * 10 + x'))), (5, .int (nI j24)), (6, .int (nI t)), (7, .int (nI a))] := hl
              have hso : seen u (-6) (y' * 10 + x') = some j24 := by rw [← ho]; exact h23
              have hjl := seen_lt hso
              have hjp := seen_pos hso
              have hjc := hvu.coat (j := j24) (c := (y' * 10 + x')) (by omega) (by omega)
              refine lv_iload hx hb dX6_scrape_74 (lv_at hl 3 rfl) ?_
              refine n_if_le (tgt := 144) hx hb (by omega) dX6_scrape_76 (by decide) (fun h25 => ?_) (fun h25 => ?_)
              · refine lv_iload hx hb dX6_scrape_144 (lv_at hl 4 rfl) ?_
                have hf : fScrape σ (nI x') (nI y') (nI c') = ((nI a), (u, keepN σ.2.1, keepH σ.2.2.1 σ.2.1 σ.1, σ.2.2.2.1, σ.2.2.2.2.1, σ.2.2.2.2.2.1, σ.2.2.2.2.2.2)) := by
                  have hVN : scrV (y' * 10 + x') n u t = u ∧ scrN (y' * 10 + x') n u t = 0 := by
                    rcases Nat.eq_zero_or_pos t with q | q
                    · subst q; exact ⟨scrV_z _ _ _, scrN_z _ _ _⟩
                    · first | exact absurd q (by omega) | exact (scr_go n u t (by omega)).1 ((hn q).symm.trans h25)
                  have e1 : u = scrV (y' * 10 + x') (σ.1 0) σ.1 c' := by rw [← hV]; exact hVN.1.symm
                  have e2 : a = scrN (y' * 10 + x') (σ.1 0) σ.1 c' := by have := hVN.2; omega
                  rw [e1, e2]
                  simp [fScrape, prc, chg, sV, sN, sH, sS, sD, sL, sP, h8, tx9, tx10, h12, tx13, h14, h23, h25]
                rw [hf]
                exact z_iret hE hH hS rfl ⟨⟨_, _, _, _, _, _, _, _, _, _, _, hM1, hU21, hL, hK⟩, hF1⟩ dX6_scrape_146
              · have hjn := (seenGo_some ((hn (by omega)).symm.trans h23)).1
                refine lv_aload_n hx hb dX6_scrape_79 rfl (lv_at hl 0 rfl) ?_
                refine lv_iload hx hb dX6_scrape_80 (lv_at hl 2 rfl) ?_
                refine lv_iload hx hb dX6_scrape_82 (lv_at hl 1 rfl) ?_
                refine z_callV (rest := []) (st2 := [.int (nI (cv u j24 (y' * 10 + x')))]) hE hH hS hB0 hl ca_X6_has mkX6_57 (c_X6_has l G B0 M1 d (sg (nI 0) (nI (keepN σ.2.1)) (nI σ.2.2.2.2.2.1) at' w bm) (xs u A U17 L K (fun i => nI (σ.2.2.2.2.2.2 i)) SE SH BU) hM1 u (fun _ _ => rfl) hvu j24 (y' * 10 + x') (by omega) (by omega)) hM1.1 rfl rfl rfl rfl rfl ⟨Nat.le_of_ble_eq_true rfl, Nat.le_of_ble_eq_true rfl⟩ (Nat.le_of_ble_eq_true rfl) ⟨Nat.le_refl _, Nat.le_refl _⟩ dX6_scrape_84 (fun H locs M1 hH hp hS => ?_)
                subst hp
                have q26 := hvu.coat (j := j24) (c := y' * 10 + x') (by omega) (by omega)
                refine lv_istore (lv' := [(8, .int (nI (cv u j24 (y' * 10 + x')))), (0, .ref d), (4, .int (nI (y' * 10 + x'))), (5, .int (nI j24)), (6, .int (nI t)), (7, .int (nI a))]) hx hb dX6_scrape_87 hl (by decide) rfl (fun ls hl => ?_)
                refine lv_iload hx hb dX6_scrape_89 (lv_at hl 5 rfl) ?_
                refine lv_aload_n hx hb dX6_scrape_91 rfl (lv_at hl 1 rfl) ?_
                refine lv_iload hx hb dX6_scrape_92 (lv_at hl 3 rfl) ?_
                refine lv_iload hx hb dX6_scrape_94 (lv_at hl 2 rfl) ?_
                refine lv_iload hx hb dX6_scrape_96 (lv_at hl 4 rfl) ?_
                refine z_callV (rest := [.int (nI a)]) (st2 := [.int (zb (decide (cv u j24 (y' * 10 + x') ≤ t))), .int (nI a)]) hE hH hS hB0 hl ca_X6_loses mkX6_67 (c_X6_loses l G B0 M1 d (sg (nI 0) (nI (keepN σ.2.1)) (nI σ.2.2.2.2.2.1) at' w bm) u A U17 L K (fun i => nI (σ.2.2.2.2.2.2 i)) SE SH BU hM1 hvu (by omega) j24 (y' * 10 + x') t (by omega) (by omega) (by omega)) hM1.1 rfl rfl rfl rfl rfl ⟨Nat.le_of_ble_eq_true rfl, Nat.le_of_ble_eq_true rfl⟩ (Nat.le_of_ble_eq_true rfl) ⟨Nat.le_refl _, Nat.le_refl _⟩ dX6_scrape_98 (fun H locs M27 hH hp hS => ?_)
                obtain ⟨hM28, hG29⟩ := hp
                have hv31 : wOk (vset u (98 + 60 * j24 + (y' * 10 + x')) (cv u j24 (y' * 10 + x') - t)) := hvu.decC (by omega) (by omega) (Nat.sub_le _ _)
                have hA32 := hM28.s (fun _ _ => rfl)
                have hF30 := fun q hq => (hG29 q hq).trans (hF1 q hq)
                refine b_if_eq (tgt := 108) hx hb dX6_scrape_101 (by decide) (fun h34 => ?_) (fun h34 => ?_)
                · refine n_iconst hx hb 0 dX6_scrape_108 (by decide) ?_
                  refine n_iadd hx hb dX6_scrape_109 ?_
                  refine lv_istore (lv' := [(7, .int (nI (a + 0))), (8, .int (nI (cv u j24 (y' * 10 + x')))), (0, .ref d), (4, .int (nI (y' * 10 + x'))), (5, .int (nI j24)), (6, .int (nI t))]) hx hb dX6_scrape_110 hl (by decide) rfl (fun ls hl => ?_)
                  refine lv_iload hx hb dX6_scrape_112 (lv_at hl 5 rfl) ?_
                  refine lv_iload hx hb dX6_scrape_114 (lv_at hl 1 rfl) ?_
                  refine lv_iload hx hb dX6_scrape_116 (lv_at hl 5 rfl) ?_
                  refine n_cmp_ge (tgt := 126) hx hb (by omega) (by omega) dX6_scrape_118 (by decide) (fun h35 => ?_) (fun h35 => ?_)
                  · refine lv_iload hx hb dX6_scrape_126 (lv_at hl 5 rfl) ?_
                    refine n_isub hx hb (by omega) dX6_scrape_128 ?_
                    refine lv_istore (lv' := [(6, .int (nI (t - t))), (7, .int (nI (a + 0))), (8, .int (nI (cv u j24 (y' * 10 + x')))), (0, .ref d), (4, .int (nI (y' * 10 + x'))), (5, .int (nI j24))]) hx hb dX6_scrape_129 hl (by decide) rfl (fun ls hl => ?_)
                    refine lv_aload_n hx hb dX6_scrape_131 rfl (lv_at hl 3 rfl) ?_
                    refine lv_iload hx hb dX6_scrape_132 (lv_at hl 4 rfl) ?_
                    refine lv_bipush (v := (-6)) hx hb dX6_scrape_134 (by decide) ?_
                    refine z_callV (rest := []) (st2 := [.int (oI (seen (vset u (98 + 60 * j24 + (y' * 10 + x')) (cv u j24 (y' * 10 + x') - t)) (-6) (y' * 10 + x')))]) hE hH hS hB0 hl ca_X6_seenAt mkX6_60 (c_X6_seenAt l G B0 M27 d (sg (nI 0) (nI (keepN σ.2.1)) (nI σ.2.2.2.2.2.1) at' w bm) (xs (vset u (98 + 60 * j24 + (y' * 10 + x')) (cv u j24 (y' * 10 + x') - t)) A U17 L K (fun i => nI (σ.2.2.2.2.2.2 i)) SE SH BU) hM28 (vset u (98 + 60 * j24 + (y' * 10 + x')) (cv u j24 (y' * 10 + x') - t)) (fun _ _ => rfl) hv31 (y' * 10 + x') (-6) (by omega)) hM28.1 rfl rfl rfl rfl rfl ⟨Nat.le_of_ble_eq_true rfl, Nat.le_of_ble_eq_true rfl⟩ (Nat.le_of_ble_eq_true rfl) ⟨Nat.le_refl _, Nat.le_refl _⟩ dX6_scrape_136 (fun H locs M1 hH hp hS => ?_)
                    subst hp
                    refine lv_istore (lv' := [(5, .int (oI (seen (vset u (98 + 60 * j24 + (y' * 10 + x')) (cv u j24 (y' * 10 + x') - t)) (-6) (y' * 10 + x')))), (6, .int (nI (t - t))), (7, .int (nI (a + 0))), (8, .int (nI (cv u j24 (y' * 10 + x')))), (0, .ref d), (4, .int (nI (y' * 10 + x')))]) hx hb dX6_scrape_139 hl (by decide) rfl (fun ls hl => ?_)
                    refine lv_goto (tgt := 67) hx hb dX6_scrape_141 (by decide) ?_
                    exact ih  j24 (a + 0) (t - t) (seen (vset u (98 + 60 * j24 + (y' * 10 + x')) (cv u j24 (y' * 10 + x') - t)) (-6) (y' * 10 + x')) (vset u (98 + 60 * j24 + (y' * 10 + x')) (cv u j24 (y' * 10 + x') - t)) M27 (by omega) hM28 hF30 hv31 ((fset_ne _ _ (by omega)).trans hu0) rfl (by omega) (fun q => (show seenGo (vset u (98 + 60 * j24 + (y' * 10 + x')) (cv u j24 (y' * 10 + x') - t)) (-6) (y' * 10 + x') ((vset u (98 + 60 * j24 + (y' * 10 + x')) (cv u j24 (y' * 10 + x') - t)) 0) = seenGo (vset u (98 + 60 * j24 + (y' * 10 + x')) (cv u j24 (y' * 10 + x') - t)) (-6) (y' * 10 + x') j24 from by rw [show (vset u (98 + 60 * j24 + (y' * 10 + x')) (cv u j24 (y' * 10 + x') - t)) 0 = u 0 from fset_ne _ _ (by omega)]; exact seen_cut (n := 0) (by omega) hjl hso (by omega))) (by have q1 := ((scr_go n u t (by omega)).2 j24 ((hn (by omega)).symm.trans (h23))).1; have q2 := (scr_step (c := (y' * 10 + x')) (u := u) hjp (t := t) (by omega)).1; rw [show t - t = t - min (cv u j24 (y' * 10 + x')) t from by omega]; rw [← q2, ← q1]; exact hV) (by have q1 := ((scr_go n u t (by omega)).2 j24 ((hn (by omega)).symm.trans (h23))).2; have q2 := (scr_step (c := (y' * 10 + x')) (u := u) hjp (t := t) (by omega)).2; rw [show t - t = t - min (cv u j24 (y' * 10 + x')) t from by omega]; rw [q1, q2] at hN; rw [show (if cv u j24 (y' * 10 + x') ≤ t then 1 else 0) = 0 from if_neg (of_decide_eq_false h34)] at hN; omega) (by omega) (by omega) _ _ hH hS _ (lv_sub hl [4, 5, 0, 1, 2] rfl)
                  · refine lv_iload hx hb dX6_scrape_121 (lv_at hl 1 rfl) ?_
                    refine lv_goto (tgt := 128) hx hb dX6_scrape_123 (by decide) ?_
                    refine n_isub hx hb (by omega) dX6_scrape_128 ?_
                    refine lv_istore (lv' := [(6, .int (nI (t - (cv u j24 (y' * 10 + x'))))), (7, .int (nI (a + 0))), (8, .int (nI (cv u j24 (y' * 10 + x')))), (0, .ref d), (4, .int (nI (y' * 10 + x'))), (5, .int (nI j24))]) hx hb dX6_scrape_129 hl (by decide) rfl (fun ls hl => ?_)
                    refine lv_aload_n hx hb dX6_scrape_131 rfl (lv_at hl 3 rfl) ?_
                    refine lv_iload hx hb dX6_scrape_132 (lv_at hl 4 rfl) ?_
                    refine lv_bipush (v := (-6)) hx hb dX6_scrape_134 (by decide) ?_
                    refine z_callV (rest := []) (st2 := [.int (oI (seen (vset u (98 + 60 * j24 + (y' * 10 + x')) (cv u j24 (y' * 10 + x') - t)) (-6) (y' * 10 + x')))]) hE hH hS hB0 hl ca_X6_seenAt mkX6_60 (c_X6_seenAt l G B0 M27 d (sg (nI 0) (nI (keepN σ.2.1)) (nI σ.2.2.2.2.2.1) at' w bm) (xs (vset u (98 + 60 * j24 + (y' * 10 + x')) (cv u j24 (y' * 10 + x') - t)) A U17 L K (fun i => nI (σ.2.2.2.2.2.2 i)) SE SH BU) hM28 (vset u (98 + 60 * j24 + (y' * 10 + x')) (cv u j24 (y' * 10 + x') - t)) (fun _ _ => rfl) hv31 (y' * 10 + x') (-6) (by omega)) hM28.1 rfl rfl rfl rfl rfl ⟨Nat.le_of_ble_eq_true rfl, Nat.le_of_ble_eq_true rfl⟩ (Nat.le_of_ble_eq_true rfl) ⟨Nat.le_refl _, Nat.le_refl _⟩ dX6_scrape_136 (fun H locs M1 hH hp hS => ?_)
                    subst hp
                    refine lv_istore (lv' := [(5, .int (oI (seen (vset u (98 + 60 * j24 + (y' * 10 + x')) (cv u j24 (y' * 10 + x') - t)) (-6) (y' * 10 + x')))), (6, .int (nI (t - (cv u j24 (y' * 10 + x'))))), (7, .int (nI (a + 0))), (8, .int (nI (cv u j24 (y' * 10 + x')))), (0, .ref d), (4, .int (nI (y' * 10 + x')))]) hx hb dX6_scrape_139 hl (by decide) rfl (fun ls hl => ?_)
                    refine lv_goto (tgt := 67) hx hb dX6_scrape_141 (by decide) ?_
                    exact ih  j24 (a + 0) (t - (cv u j24 (y' * 10 + x'))) (seen (vset u (98 + 60 * j24 + (y' * 10 + x')) (cv u j24 (y' * 10 + x') - t)) (-6) (y' * 10 + x')) (vset u (98 + 60 * j24 + (y' * 10 + x')) (cv u j24 (y' * 10 + x') - t)) M27 (by omega) hM28 hF30 hv31 ((fset_ne _ _ (by omega)).trans hu0) rfl (by omega) (fun q => (show seenGo (vset u (98 + 60 * j24 + (y' * 10 + x')) (cv u j24 (y' * 10 + x') - t)) (-6) (y' * 10 + x') ((vset u (98 + 60 * j24 + (y' * 10 + x')) (cv u j24 (y' * 10 + x') - t)) 0) = seenGo (vset u (98 + 60 * j24 + (y' * 10 + x')) (cv u j24 (y' * 10 + x') - t)) (-6) (y' * 10 + x') j24 from by rw [show (vset u (98 + 60 * j24 + (y' * 10 + x')) (cv u j24 (y' * 10 + x') - t)) 0 = u 0 from fset_ne _ _ (by omega)]; exact seen_cut (n := 0) (by omega) hjl hso (by omega))) (by have q1 := ((scr_go n u t (by omega)).2 j24 ((hn (by omega)).symm.trans (h23))).1; have q2 := (scr_step (c := (y' * 10 + x')) (u := u) hjp (t := t) (by omega)).1; rw [show t - (cv u j24 (y' * 10 + x')) = t - min (cv u j24 (y' * 10 + x')) t from by omega]; rw [← q2, ← q1]; exact hV) (by have q1 := ((scr_go n u t (by omega)).2 j24 ((hn (by omega)).symm.trans (h23))).2; have q2 := (scr_step (c := (y' * 10 + x')) (u := u) hjp (t := t) (by omega)).2; rw [show t - (cv u j24 (y' * 10 + x')) = t - min (cv u j24 (y' * 10 + x')) t from by omega]; rw [q1, q2] at hN; rw [show (if cv u j24 (y' * 10 + x') ≤ t then 1 else 0) = 0 from if_neg (of_decide_eq_false h34)] at hN; omega) (by omega) (by omega) _ _ hH hS _ (lv_sub hl [4, 5, 0, 1, 2] rfl)
                · refine n_iconst hx hb 1 dX6_scrape_104 (by decide) ?_
                  refine lv_goto (tgt := 109) hx hb dX6_scrape_105 (by decide) ?_
                  refine n_iadd hx hb dX6_scrape_109 ?_
                  refine lv_istore (lv' := [(7, .int (nI (a + 1))), (8, .int (nI (cv u j24 (y' * 10 + x')))), (0, .ref d), (4, .int (nI (y' * 10 + x'))), (5, .int (nI j24)), (6, .int (nI t))]) hx hb dX6_scrape_110 hl (by decide) rfl (fun ls hl => ?_)
                  refine lv_iload hx hb dX6_scrape_112 (lv_at hl 5 rfl) ?_
                  refine lv_iload hx hb dX6_scrape_114 (lv_at hl 1 rfl) ?_
                  refine lv_iload hx hb dX6_scrape_116 (lv_at hl 5 rfl) ?_
                  refine n_cmp_ge (tgt := 126) hx hb (by omega) (by omega) dX6_scrape_118 (by decide) (fun h36 => ?_) (fun h36 => ?_)
                  · refine lv_iload hx hb dX6_scrape_126 (lv_at hl 5 rfl) ?_
                    refine n_isub hx hb (by omega) dX6_scrape_128 ?_
                    refine lv_istore (lv' := [(6, .int (nI (t - t))), (7, .int (nI (a + 1))), (8, .int (nI (cv u j24 (y' * 10 + x')))), (0, .ref d), (4, .int (nI (y' * 10 + x'))), (5, .int (nI j24))]) hx hb dX6_scrape_129 hl (by decide) rfl (fun ls hl => ?_)
                    refine lv_aload_n hx hb dX6_scrape_131 rfl (lv_at hl 3 rfl) ?_
                    refine lv_iload hx hb dX6_scrape_132 (lv_at hl 4 rfl) ?_
                    refine lv_bipush (v := (-6)) hx hb dX6_scrape_134 (by decide) ?_
                    refine z_callV (rest := []) (st2 := [.int (oI (seen (vset u (98 + 60 * j24 + (y' * 10 + x')) (cv u j24 (y' * 10 + x') - t)) (-6) (y' * 10 + x')))]) hE hH hS hB0 hl ca_X6_seenAt mkX6_60 (c_X6_seenAt l G B0 M27 d (sg (nI 0) (nI (keepN σ.2.1)) (nI σ.2.2.2.2.2.1) at' w bm) (xs (vset u (98 + 60 * j24 + (y' * 10 + x')) (cv u j24 (y' * 10 + x') - t)) A U17 L K (fun i => nI (σ.2.2.2.2.2.2 i)) SE SH BU) hM28 (vset u (98 + 60 * j24 + (y' * 10 + x')) (cv u j24 (y' * 10 + x') - t)) (fun _ _ => rfl) hv31 (y' * 10 + x') (-6) (by omega)) hM28.1 rfl rfl rfl rfl rfl ⟨Nat.le_of_ble_eq_true rfl, Nat.le_of_ble_eq_true rfl⟩ (Nat.le_of_ble_eq_true rfl) ⟨Nat.le_refl _, Nat.le_refl _⟩ dX6_scrape_136 (fun H locs M1 hH hp hS => ?_)
                    subst hp
                    refine lv_istore (lv' := [(5, .int (oI (seen (vset u (98 + 60 * j24 + (y' * 10 + x')) (cv u j24 (y' * 10 + x') - t)) (-6) (y' * 10 + x')))), (6, .int (nI (t - t))), (7, .int (nI (a + 1))), (8, .int (nI (cv u j24 (y' * 10 + x')))), (0, .ref d), (4, .int (nI (y' * 10 + x')))]) hx hb dX6_scrape_139 hl (by decide) rfl (fun ls hl => ?_)
                    refine lv_goto (tgt := 67) hx hb dX6_scrape_141 (by decide) ?_
                    exact ih  j24 (a + 1) (t - t) (seen (vset u (98 + 60 * j24 + (y' * 10 + x')) (cv u j24 (y' * 10 + x') - t)) (-6) (y' * 10 + x')) (vset u (98 + 60 * j24 + (y' * 10 + x')) (cv u j24 (y' * 10 + x') - t)) M27 (by omega) hM28 hF30 hv31 ((fset_ne _ _ (by omega)).trans hu0) rfl (by omega) (fun q => (show seenGo (vset u (98 + 60 * j24 + (y' * 10 + x')) (cv u j24 (y' * 10 + x') - t)) (-6) (y' * 10 + x') ((vset u (98 + 60 * j24 + (y' * 10 + x')) (cv u j24 (y' * 10 + x') - t)) 0) = seenGo (vset u (98 + 60 * j24 + (y' * 10 + x')) (cv u j24 (y' * 10 + x') - t)) (-6) (y' * 10 + x') j24 from by rw [show (vset u (98 + 60 * j24 + (y' * 10 + x')) (cv u j24 (y' * 10 + x') - t)) 0 = u 0 from fset_ne _ _ (by omega)]; exact seen_cut (n := 0) (by omega) hjl hso (by omega))) (by have q1 := ((scr_go n u t (by omega)).2 j24 ((hn (by omega)).symm.trans (h23))).1; have q2 := (scr_step (c := (y' * 10 + x')) (u := u) hjp (t := t) (by omega)).1; rw [show t - t = t - min (cv u j24 (y' * 10 + x')) t from by omega]; rw [← q2, ← q1]; exact hV) (by have q1 := ((scr_go n u t (by omega)).2 j24 ((hn (by omega)).symm.trans (h23))).2; have q2 := (scr_step (c := (y' * 10 + x')) (u := u) hjp (t := t) (by omega)).2; rw [show t - t = t - min (cv u j24 (y' * 10 + x')) t from by omega]; rw [q1, q2] at hN; rw [show (if cv u j24 (y' * 10 + x') ≤ t then 1 else 0) = 1 from if_pos (of_decide_eq_true h34)] at hN; omega) (by omega) (by omega) _ _ hH hS _ (lv_sub hl [4, 5, 0, 1, 2] rfl)
                  · refine lv_iload hx hb dX6_scrape_121 (lv_at hl 1 rfl) ?_
                    refine lv_goto (tgt := 128) hx hb dX6_scrape_123 (by decide) ?_
                    refine n_isub hx hb (by omega) dX6_scrape_128 ?_
                    refine lv_istore (lv' := [(6, .int (nI (t - (cv u j24 (y' * 10 + x'))))), (7, .int (nI (a + 1))), (8, .int (nI (cv u j24 (y' * 10 + x')))), (0, .ref d), (4, .int (nI (y' * 10 + x'))), (5, .int (nI j24))]) hx hb dX6_scrape_129 hl (by decide) rfl (fun ls hl => ?_)
                    refine lv_aload_n hx hb dX6_scrape_131 rfl (lv_at hl 3 rfl) ?_
                    refine lv_iload hx hb dX6_scrape_132 (lv_at hl 4 rfl) ?_
                    refine lv_bipush (v := (-6)) hx hb dX6_scrape_134 (by decide) ?_
                    refine z_callV (rest := []) (st2 := [.int (oI (seen (vset u (98 + 60 * j24 + (y' * 10 + x')) (cv u j24 (y' * 10 + x') - t)) (-6) (y' * 10 + x')))]) hE hH hS hB0 hl ca_X6_seenAt mkX6_60 (c_X6_seenAt l G B0 M27 d (sg (nI 0) (nI (keepN σ.2.1)) (nI σ.2.2.2.2.2.1) at' w bm) (xs (vset u (98 + 60 * j24 + (y' * 10 + x')) (cv u j24 (y' * 10 + x') - t)) A U17 L K (fun i => nI (σ.2.2.2.2.2.2 i)) SE SH BU) hM28 (vset u (98 + 60 * j24 + (y' * 10 + x')) (cv u j24 (y' * 10 + x') - t)) (fun _ _ => rfl) hv31 (y' * 10 + x') (-6) (by omega)) hM28.1 rfl rfl rfl rfl rfl ⟨Nat.le_of_ble_eq_true rfl, Nat.le_of_ble_eq_true rfl⟩ (Nat.le_of_ble_eq_true rfl) ⟨Nat.le_refl _, Nat.le_refl _⟩ dX6_scrape_136 (fun H locs M1 hH hp hS => ?_)
                    subst hp
                    refine lv_istore (lv' := [(5, .int (oI (seen (vset u (98 + 60 * j24 + (y' * 10 + x')) (cv u j24 (y' * 10 + x') - t)) (-6) (y' * 10 + x')))), (6, .int (nI (t - (cv u j24 (y' * 10 + x'))))), (7, .int (nI (a + 1))), (8, .int (nI (cv u j24 (y' * 10 + x')))), (0, .ref d), (4, .int (nI (y' * 10 + x')))]) hx hb dX6_scrape_139 hl (by decide) rfl (fun ls hl => ?_)
                    refine lv_goto (tgt := 67) hx hb dX6_scrape_141 (by decide) ?_
                    exact ih  j24 (a + 1) (t - (cv u j24 (y' * 10 + x'))) (seen (vset u (98 + 60 * j24 + (y' * 10 + x')) (cv u j24 (y' * 10 + x') - t)) (-6) (y' * 10 + x')) (vset u (98 + 60 * j24 + (y' * 10 + x')) (cv u j24 (y' * 10 + x') - t)) M27 (by omega) hM28 hF30 hv31 ((fset_ne _ _ (by omega)).trans hu0) rfl (by omega) (fun q => (show seenGo (vset u (98 + 60 * j24 + (y' * 10 + x')) (cv u j24 (y' * 10 + x') - t)) (-6) (y' * 10 + x') ((vset u (98 + 60 * j24 + (y' * 10 + x')) (cv u j24 (y' * 10 + x') - t)) 0) = seenGo (vset u (98 + 60 * j24 + (y' * 10 + x')) (cv u j24 (y' * 10 + x') - t)) (-6) (y' * 10 + x') j24 from by rw [show (vset u (98 + 60 * j24 + (y' * 10 + x')) (cv u j24 (y' * 10 + x') - t)) 0 = u 0 from fset_ne _ _ (by omega)]; exact seen_cut (n := 0) (by omega) hjl hso (by omega))) (by have q1 := ((scr_go n u t (by omega)).2 j24 ((hn (by omega)).symm.trans (h23))).1; have q2 := (scr_step (c := (y' * 10 + x')) (u := u) hjp (t := t) (by omega)).1; rw [show t - (cv u j24 (y' * 10 + x')) = t - min (cv u j24 (y' * 10 + x')) t from by omega]; rw [← q2, ← q1]; exact hV) (by have q1 := ((scr_go n u t (by omega)).2 j24 ((hn (by omega)).symm.trans (h23))).2; have q2 := (scr_step (c := (y' * 10 + x')) (u := u) hjp (t := t) (by omega)).2; rw [show t - (cv u j24 (y' * 10 + x')) = t - min (cv u j24 (y' * 10 + x')) t from by omega]; rw [q1, q2] at hN; rw [show (if cv u j24 (y' * 10 + x') ≤ t then 1 else 0) = 1 from if_pos (of_decide_eq_true h34)] at hN; omega) (by omega) (by omega) _ _ hH hS _ (lv_sub hl [4, 5, 0, 1, 2] rfl)
        exact L67 (σ.1 0 + 1) (σ.1 0) 0 c' (some j15) σ.1 M16 (by omega) hM18 hF20 hv rfl (h14).symm (Nat.le_refl _) (fun _ => (h14).symm) rfl (Nat.zero_add _) (by omega) (by omega) _ _ hH hS _ (lv_sub hl [4, 3, 2, 1, 0] rfl)
      · refine lv_bipush (v := (-5)) hx hb dX6_scrape_54 (by decide) ?_
        have hf : fScrape σ (nI x') (nI y') (nI c') = ((-5), (σ.1, σ.2.1, σ.2.2.1, σ.2.2.2.1, σ.2.2.2.2.1, σ.2.2.2.2.2.1, σ.2.2.2.2.2.2)) := by
          simp [fScrape, prc, chg, sV, sN, sH, sS, sD, sL, sP, h8, tx9, tx10, h12, tx13, h14]
        rw [hf]
        exact z_iret hE hH hS rfl ⟨⟨_, _, _, _, _, _, _, _, _, _, _, hM4, hU, hL, hK⟩, hF6⟩ dX6_scrape_56
    · refine lv_bipush (v := (-2)) hx hb dX6_scrape_26 (by decide) ?_
      have hf : fScrape σ (nI x') (nI y') c = ((-2), (σ.1, σ.2.1, σ.2.2.1, σ.2.2.2.1, σ.2.2.2.2.1, σ.2.2.2.2.2.1, σ.2.2.2.2.2.2)) := by
        simp [fScrape, chg, sV, sN, sH, sS, sD, sL, sP, h8, tx9, tx10, h12]
        try omega
      rw [hf]
      exact z_iret hE hH hS rfl ⟨⟨_, _, _, _, _, _, _, _, _, _, _, hM4, hU, hL, hK⟩, hF6⟩ dX6_scrape_28
  · refine lv_iconst (v := (-1)) hx hb dX6_scrape_13 (by decide) ?_
    have hf : fScrape σ x y c = ((-1), (σ.1, σ.2.1, σ.2.2.1, σ.2.2.2.1, σ.2.2.2.2.1, σ.2.2.2.2.2.1, σ.2.2.2.2.2.2)) := by
      simp [fScrape, chg, sV, sN, sH, sS, sD, sL, sP, h8]
      try omega
    rw [hf]
    exact z_iret hE hH hS rfl ⟨⟨_, _, _, _, _, _, _, _, _, _, _, hM4, hU, hL, hK⟩, hF6⟩ dX6_scrape_14

set_option maxHeartbeats 4000000 in
set_option maxRecDepth 100000 in
theorem c_X6_buy (l : Launch) (G : zG) (B0 : Nat) (M : Mm) (d : Nat) (σ : Sg) (hC : Mo G d σ M) (hok : sOk σ) (hBd : B0 ≤ d) (x y c : Int32) : zMet l yX6_buy cX6_buy 6 (some .int) 5 0 0 G B0 M [.ref d, .int x, .int y, .int c] (some (.int (fBuy σ x y c).1)) (fun M1 => Mo G d (fBuy σ x y c).2 M1 ∧ ∀ q, (q < d ∨ d + 10 ≤ q) → M1 q = M q) := by
  refine z_met RX6 [(0, .ref d), (1, .int x), (2, .int y), (3, .int c)] (by decide) rfl (Nat.le_of_ble_eq_true rfl) rfl ?_
  intro pg ev s m below meth cd ls hE hin hB0 hH hl
  have hx := hE.1
  have hb := hE.2.1
  have hv : wOk σ.1 := hok.hw
  have hn : σ.1 0 ≤ 12 := hv.1
  have hdy : σ.1 1 ≤ 9999 := hok.1.2
  have hn6 : σ.2.1 ≤ 6 := hok.2.1
  have hhv : ∀ k, k < σ.2.1 → wOk (σ.2.2.1 k) := hok.hh
  have hsv : ∀ k, k < 2 → σ.2.2.2.2.1 k = true → wOk (σ.2.2.2.1 k) := hok.hs
  have hln : σ.2.2.2.2.2.1 ≤ 60 := hok.2.2.2.2.1
  have hpc : ∀ i, i < σ.2.2.2.2.2.1 → σ.2.2.2.2.2.2 i < 128 := fun i hi => by have h7 := (hok.2.2.2.2.2 i hi).2; exact Nat.lt_of_le_of_lt h7 (by decide)
  obtain ⟨t, at', w, bm, A, U, L, K, SE, SH, BU, hM, hU, hL, hK⟩ := hC
  have hA : zArr G 0 M (d + 1) 818 (fun i => nI (σ.1 i)) := hM.s (fun _ _ => rfl)
  have hF : ∀ q, (q < d ∨ d + 10 ≤ q) → M q = M q := fun _ _ => rfl
  refine z_gen B0 (fun H locs hH hS => ?_) hH
  refine lv_aload_n hx hb dX6_buy_0 rfl (lv_at hl 0 rfl) ?_
  refine n_iconst hx hb 0 dX6_buy_1 (by decide) ?_
  refine z_put (T := TX6) hE hH hS hM.1 rfl uw_X6 tyX6 tyX6_ok nmX6 0 (by decide) fkX6_38 rfl rfl rfl (Nat.le_of_ble_eq_true rfl) (by omega) dX6_buy_2 (fun H locs M3 hH hS e1 o2 => ?_)
  have hM4 : Md G d (sg (nI 0) (nI σ.2.1) (nI σ.2.2.2.2.2.1) at' w bm) (xs σ.1 A U L K (fun i => nI (σ.2.2.2.2.2.2 i)) SE SH BU) M3 := Md.setC hM e1 o2
  have hA5 := hM4.s (fun _ _ => rfl)
  have hF6 := fun q hq => (o2 q (by omega)).trans (hF q hq)
  refine lv_iload_n hx hb dX6_buy_5 rfl (lv_at hl 1 rfl) ?_
  refine lv_iload_n hx hb dX6_buy_6 rfl (lv_at hl 2 rfl) ?_
  refine z_callS (rest := []) (st2 := [.int (zb (isC x y))]) hE hH hS hB0 hl ca_X6_isCell mkX6_78 (c_X6_isCell l G B0 M3 x y) rfl rfl rfl ⟨Nat.le_of_ble_eq_true rfl, Nat.le_of_ble_eq_true rfl⟩ (Nat.le_of_ble_eq_true rfl) ⟨Nat.le_refl _, Nat.le_refl _⟩ dX6_buy_7 (fun H locs M1 hH hp hS => ?_)
  subst hp
  refine b_if_ne (tgt := 15) hx hb dX6_buy_10 (by decide) (fun h8 => ?_) (fun h8 => ?_)
  · obtain ⟨x', y', rfl, rfl, x9, y9⟩ := isC_nat h8
    have tx9 : tn (nI x') = x' := tn_nI (by omega)
    have tx10 : tn (nI y') = y' := tn_nI (by omega)
    refine lv_iload_n hx hb dX6_buy_15 rfl (lv_at hl 3 rfl) ?_
    refine n_iconst hx hb 0 dX6_buy_16 (by decide) ?_
    refine n_sipush hx hb 999 dX6_buy_17 (by decide) ?_
    refine z_callS (rest := []) (st2 := [.int (zb (wi c (nI 0) (nI 999)))]) hE hH hS hB0 hl ca_X6_in mkX6_42 (c_X6_in l G B0 M3 c (nI 0) (nI 999)) rfl rfl rfl ⟨Nat.le_of_ble_eq_true rfl, Nat.le_of_ble_eq_true rfl⟩ (Nat.le_of_ble_eq_true rfl) ⟨Nat.le_refl _, Nat.le_refl _⟩ dX6_buy_20 (fun H locs M1 hH hp hS => ?_)
    subst hp
    refine b_if_ne (tgt := 29) hx hb dX6_buy_23 (by decide) (fun h12 => ?_) (fun h12 => ?_)
    · obtain ⟨c', rfl, c1, c2⟩ := wi_nat (by decide) (by decide) h12
      have tx13 : tn (nI c') = c' := tn_nI (by omega)
      refine n_bipush hx hb 10 dX6_buy_29 (by decide) ?_
      refine lv_iload_n hx hb dX6_buy_31 rfl (lv_at hl 2 rfl) ?_
      refine n_imul hx hb dX6_buy_32 ?_
      refine lv_iload_n hx hb dX6_buy_33 rfl (lv_at hl 1 rfl) ?_
      refine n_iadd hx hb dX6_buy_34 ?_
      refine z_topeq (show nI ((10 * y') + x') = nI (y' * 10 + x') from by rw [show (10 * y') + x' = y' * 10 + x' by omega]) ?_
      refine lv_istore (lv' := [(4, .int (nI (y' * 10 + x'))), (0, .ref d), (1, .int (nI x')), (2, .int (nI y')), (3, .int (nI c'))]) hx hb dX6_buy_35 hl (by decide) rfl (fun ls hl => ?_)
      refine lv_aload_n hx hb dX6_buy_37 rfl (lv_at hl 1 rfl) ?_
      refine lv_iload hx hb dX6_buy_38 (lv_at hl 0 rfl) ?_
      refine z_callV (rest := []) (st2 := [.int (oI (prc σ.1 (-6) (y' * 10 + x')))]) hE hH hS hB0 hl ca_X6_priceAt mkX6_74 (c_X6_priceAt l G B0 M3 d (sg (nI 0) (nI σ.2.1) (nI σ.2.2.2.2.2.1) at' w bm) (xs σ.1 A U L K (fun i => nI (σ.2.2.2.2.2.2 i)) SE SH BU) hM4 σ.1 (fun _ _ => rfl) hv (y' * 10 + x') (by omega)) hM4.1 rfl rfl rfl rfl rfl ⟨Nat.le_of_ble_eq_true rfl, Nat.le_of_ble_eq_true rfl⟩ (Nat.le_of_ble_eq_true rfl) ⟨Nat.le_refl _, Nat.le_refl _⟩ dX6_buy_40 (fun H locs M1 hH hp hS => ?_)
      subst hp
      refine lv_istore (lv' := [(5, .int (oI (prc σ.1 (-6) (y' * 10 + x')))), (4, .int (nI (y' * 10 + x'))), (0, .ref d), (1, .int (nI x')), (2, .int (nI y')), (3, .int (nI c'))]) hx hb dX6_buy_43 hl (by decide) rfl (fun ls hl => ?_)
      refine lv_iload hx hb dX6_buy_45 (lv_at hl 0 rfl) ?_
      refine lv_bipush (v := (-6)) hx hb dX6_buy_47 (by decide) ?_
      refine o_cmp_eq (tgt := 58) hx hb (prc_ob31 hv) dX6_buy_49 (by decide) (fun h14 => ?_) (fun j15 h14 => ?_)
      · refine lv_bipush (v := (-5)) hx hb dX6_buy_58 (by decide) ?_
        have hf : fBuy σ (nI x') (nI y') (nI c') = ((-5), (σ.1, σ.2.1, σ.2.2.1, σ.2.2.2.1, σ.2.2.2.2.1, σ.2.2.2.2.2.1, σ.2.2.2.2.2.2)) := by
          simp [fBuy, chg, sV, sN, sH, sS, sD, sL, sP, h8, tx9, tx10, h12, tx13, h14]
          try omega
        rw [hf]
        exact z_iret hE hH hS rfl ⟨⟨_, _, _, _, _, _, _, _, _, _, _, hM4, hU, hL, hK⟩, hF6⟩ dX6_buy_60
      · rw [h14] at hl
        replace hl : lv_has ls 6 [(5, .int (nI j15)), (4, .int (nI (y' * 10 + x'))), (0, .ref d), (1, .int (nI x')), (2, .int (nI y')), (3, .int (nI c'))] := hl
        have j15_b := prc_ob hv _ h14
        refine lv_iload hx hb dX6_buy_52 (lv_at hl 0 rfl) ?_
        refine lv_iload_n hx hb dX6_buy_54 rfl (lv_at hl 5 rfl) ?_
        refine n_cmp_le (tgt := 61) hx hb (by omega) (by omega) dX6_buy_55 (by decide) (fun h16 => ?_) (fun h16 => ?_)
        · refine lv_aload_n hx hb dX6_buy_61 rfl (lv_at hl 2 rfl) ?_
          refine z_callV (rest := []) (st2 := []) hE hH hS hB0 hl ca_X6_records mkX6_81 (c_X6_records l G B0 M3 d (nI 0) (nI σ.2.2.2.2.2.1) at' w bm σ.2.1 σ.2.2.1 σ.1 A U L K (fun i => nI (σ.2.2.2.2.2.2 i)) SE SH BU hM4 hv (by omega) hn6 hU) hM4.1 rfl rfl rfl rfl rfl ⟨Nat.le_of_ble_eq_true rfl, Nat.le_of_ble_eq_true rfl⟩ (Nat.le_of_ble_eq_true rfl) ⟨Nat.le_refl _, Nat.le_refl _⟩ dX6_buy_62 (fun H locs M17 hH hp hS => ?_)
          obtain ⟨U18, hM19, hU22, hG20⟩ := hp
          have hA23 := hM19.s (fun _ _ => rfl)
          have hF21 := fun q hq => (hG20 q hq).trans (hF6 q hq)
          refine lv_aload_n hx hb dX6_buy_65 rfl (lv_at hl 2 rfl) ?_
          refine lv_iload hx hb dX6_buy_66 (lv_at hl 1 rfl) ?_
          refine lv_iload_n hx hb dX6_buy_68 rfl (lv_at hl 5 rfl) ?_
          refine z_callV (rest := []) (st2 := [.int (zb (sells σ.1 (y' * 10 + x') c'))]) hE hH hS hB0 hl ca_X6_pays mkX6_98 (c_X6_pays l G B0 M17 d (sg (nI 0) (nI (keepN σ.2.1)) (nI σ.2.2.2.2.2.1) at' w bm) σ.1 A U18 L K (fun i => nI (σ.2.2.2.2.2.2 i)) SE SH BU hM19 hv (by omega) (y' * 10 + x') c' (by omega) (by omega)) hM19.1 rfl rfl rfl rfl rfl ⟨Nat.le_of_ble_eq_true rfl, Nat.le_of_ble_eq_true rfl⟩ (Nat.le_of_ble_eq_true rfl) ⟨Nat.le_refl _, Nat.le_refl _⟩ dX6_buy_69 (fun H locs M24 hH hp hS => ?_)
          obtain ⟨hM25, hG26⟩ := hp
          have hv28 : wOk (sellV σ.1 (y' * 10 + x') c') := (sellV_ok hv _ _).1
          have hA29 := hM25.s (fun _ _ => rfl)
          have hF27 := fun q hq => (hG26 q hq).trans (hF21 q hq)
          refine lv_pop hx hb dX6_buy_72 rfl ?_
          refine lv_iload hx hb dX6_buy_73 (lv_at hl 0 rfl) ?_
          have hf : fBuy σ (nI x') (nI y') (nI c') = ((nI j15), (sellV σ.1 (y' * 10 + x') c', keepN σ.2.1, keepH σ.2.2.1 σ.2.1 σ.1, σ.2.2.2.1, σ.2.2.2.2.1, σ.2.2.2.2.2.1, σ.2.2.2.2.2.2)) := by
            simp [fBuy, chg, sV, sN, sH, sS, sD, sL, sP, h8, tx9, tx10, h12, tx13, h14, h16]
            try omega
          rw [hf]
          exact z_iret hE hH hS rfl ⟨⟨_, _, _, _, _, _, _, _, _, _, _, hM25, hU22, hL, hK⟩, hF27⟩ dX6_buy_75
        · refine lv_bipush (v := (-5)) hx hb dX6_buy_58 (by decide) ?_
          have hf : fBuy σ (nI x') (nI y') (nI c') = ((-5), (σ.1, σ.2.1, σ.2.2.1, σ.2.2.2.1, σ.2.2.2.2.1, σ.2.2.2.2.2.1, σ.2.2.2.2.2.2)) := by
            simp [fBuy, chg, sV, sN, sH, sS, sD, sL, sP, h8, tx9, tx10, h12, tx13, h14, h16]
            try omega
          rw [hf]
          exact z_iret hE hH hS rfl ⟨⟨_, _, _, _, _, _, _, _, _, _, _, hM4, hU, hL, hK⟩, hF6⟩ dX6_buy_60
    · refine lv_bipush (v := (-2)) hx hb dX6_buy_26 (by decide) ?_
      have hf : fBuy σ (nI x') (nI y') c = ((-2), (σ.1, σ.2.1, σ.2.2.1, σ.2.2.2.1, σ.2.2.2.2.1, σ.2.2.2.2.2.1, σ.2.2.2.2.2.2)) := by
        simp [fBuy, chg, sV, sN, sH, sS, sD, sL, sP, h8, tx9, tx10, h12]
        try omega
      rw [hf]
      exact z_iret hE hH hS rfl ⟨⟨_, _, _, _, _, _, _, _, _, _, _, hM4, hU, hL, hK⟩, hF6⟩ dX6_buy_28
  · refine lv_iconst (v := (-1)) hx hb dX6_buy_13 (by decide) ?_
    have hf : fBuy σ x y c = ((-1), (σ.1, σ.2.1, σ.2.2.1, σ.2.2.2.1, σ.2.2.2.2.1, σ.2.2.2.2.2.1, σ.2.2.2.2.2.2)) := by
      simp [fBuy, chg, sV, sN, sH, sS, sD, sL, sP, h8]
      try omega
    rw [hf]
    exact z_iret hE hH hS rfl ⟨⟨_, _, _, _, _, _, _, _, _, _, _, hM4, hU, hL, hK⟩, hF6⟩ dX6_buy_14

set_option maxHeartbeats 4000000 in
set_option maxRecDepth 100000 in
theorem c_X6_buyAll (l : Launch) (G : zG) (B0 : Nat) (M : Mm) (d : Nat) (σ : Sg) (hC : Mo G d σ M) (hok : sOk σ) (hBd : B0 ≤ d) : zMet l yX6_buyAll cX6_buyAll 3 (some .int) 5 0 0 G B0 M [.ref d] (some (.int (fBuyAll σ).1)) (fun M1 => Mo G d (fBuyAll σ).2 M1 ∧ ∀ q, (q < d ∨ d + 10 ≤ q) → M1 q = M q) := by
  refine z_met RX6 [(0, .ref d)] (by decide) rfl (Nat.le_of_ble_eq_true rfl) rfl ?_
  intro pg ev s m below meth cd ls hE hin hB0 hH hl
  have hx := hE.1
  have hb := hE.2.1
  have hv : wOk σ.1 := hok.hw
  have hn : σ.1 0 ≤ 12 := hv.1
  have hdy : σ.1 1 ≤ 9999 := hok.1.2
  have hn6 : σ.2.1 ≤ 6 := hok.2.1
  have hhv : ∀ k, k < σ.2.1 → wOk (σ.2.2.1 k) := hok.hh
  have hsv : ∀ k, k < 2 → σ.2.2.2.2.1 k = true → wOk (σ.2.2.2.1 k) := hok.hs
  have hln : σ.2.2.2.2.2.1 ≤ 60 := hok.2.2.2.2.1
  have hpc : ∀ i, i < σ.2.2.2.2.2.1 → σ.2.2.2.2.2.2 i < 128 := fun i hi => by have h7 := (hok.2.2.2.2.2 i hi).2; exact Nat.lt_of_le_of_lt h7 (by decide)
  obtain ⟨t, at', w, bm, A, U, L, K, SE, SH, BU, hM, hU, hL, hK⟩ := hC
  have hA : zArr G 0 M (d + 1) 818 (fun i => nI (σ.1 i)) := hM.s (fun _ _ => rfl)
  have hF : ∀ q, (q < d ∨ d + 10 ≤ q) → M q = M q := fun _ _ => rfl
  refine z_gen B0 (fun H locs hH hS => ?_) hH
  refine lv_aload_n hx hb dX6_buyAll_0 rfl (lv_at hl 0 rfl) ?_
  refine n_iconst hx hb 0 dX6_buyAll_1 (by decide) ?_
  refine z_put (T := TX6) hE hH hS hM.1 rfl uw_X6 tyX6 tyX6_ok nmX6 0 (by decide) fkX6_38 rfl rfl rfl (Nat.le_of_ble_eq_true rfl) (by omega) dX6_buyAll_2 (fun H locs M3 hH hS e1 o2 => ?_)
  have hM4 : Md G d (sg (nI 0) (nI σ.2.1) (nI σ.2.2.2.2.2.1) at' w bm) (xs σ.1 A U L K (fun i => nI (σ.2.2.2.2.2.2 i)) SE SH BU) M3 := Md.setC hM e1 o2
  have hA5 := hM4.s (fun _ _ => rfl)
  have hF6 := fun q hq => (o2 q (by omega)).trans (hF q hq)
  refine lv_aload_n hx hb dX6_buyAll_5 rfl (lv_at hl 0 rfl) ?_
  refine z_callV (rest := []) (st2 := [.int (oI (flt σ.2.2.2.2.2.2 σ.2.2.2.2.2.1))]) hE hH hS hB0 hl ca_X6_reads mkX6_101 (c_X6_reads l G B0 M3 d (nI 0) (nI σ.2.1) at' w bm σ.2.2.2.2.2.1 σ.2.2.2.2.2.2 σ.1 A U L K SE SH BU hM4 hv (by omega) hln hpc) hM4.1 rfl rfl rfl rfl rfl ⟨Nat.le_of_ble_eq_true rfl, Nat.le_of_ble_eq_true rfl⟩ (Nat.le_of_ble_eq_true rfl) ⟨Nat.le_refl _, Nat.le_refl _⟩ dX6_buyAll_6 (fun H locs M7 hH hp hS => ?_)
  obtain ⟨a1, w1, bm1, BU1, hM8, hfl, hG9⟩ := hp
  have hA11 := hM8.s (fun _ _ => rfl)
  have hF10 := fun q hq => (hG9 q hq).trans (hF6 q hq)
  refine lv_bipush (v := (-6)) hx hb dX6_buyAll_9 (by decide) ?_
  refine o_cmp_eq (tgt := 17) hx hb ((fun j h => by have := flt_le h; omega)) dX6_buyAll_11 (by decide) (fun h12 => ?_) (fun j13 h12 => ?_)
  · obtain ⟨bc, bu, hb12, hBo, hsb⟩ := hfl h12
    refine lv_aload_n hx hb dX6_buyAll_17 rfl (lv_at hl 0 rfl) ?_
    refine z_callV (rest := []) (st2 := []) hE hH hS hB0 hl ca_X6_records mkX6_81 (c_X6_records l G B0 M7 d (nI 0) (nI σ.2.2.2.2.2.1) a1 w1 (nI bm1) σ.2.1 σ.2.2.1 σ.1 A U L K (fun i => nI (σ.2.2.2.2.2.2 i)) SE SH BU1 hM8 hv (by omega) hn6 hU) hM8.1 rfl rfl rfl rfl rfl ⟨Nat.le_of_ble_eq_true rfl, Nat.le_of_ble_eq_true rfl⟩ (Nat.le_of_ble_eq_true rfl) ⟨Nat.le_refl _, Nat.le_refl _⟩ dX6_buyAll_18 (fun H locs M14 hH hp hS => ?_)
    obtain ⟨U15, hM16, hU19, hG17⟩ := hp
    have hA20 := hM16.s (fun _ _ => rfl)
    have hF18 := fun q hq => (hG17 q hq).trans (hF10 q hq)
    refine lv_aload_n hx hb dX6_buyAll_21 rfl (lv_at hl 0 rfl) ?_
    refine n_iconst hx hb 0 dX6_buyAll_22 (by decide) ?_
    refine z_put (T := TX6) hE hH hS hM16.1 rfl uw_X6 tyX6 tyX6_ok nmX6 8 (by decide) fkX6_104 rfl rfl rfl (Nat.le_of_ble_eq_true rfl) (by omega) dX6_buyAll_23 (fun H locs M23 hH hS e21 o22 => ?_)
    have hM24 : Md G d (sg (nI 0) (nI (keepN σ.2.1)) (nI 0) a1 w1 (nI bm1)) (xs σ.1 A U15 L K (fun i => nI (σ.2.2.2.2.2.2 i)) SE SH BU1) M23 := Md.setC hM16 e21 o22
    have hA25 := hM24.s (fun _ _ => rfl)
    have hF26 := fun q hq => (o22 q (by omega)).trans (hF18 q hq)
    refine n_iconst hx hb 0 dX6_buyAll_26 (by decide) ?_
    refine lv_istore_n (lv' := [(1, .int (nI 0)), (0, .ref d)]) hx hb dX6_buyAll_27 rfl hl (by decide) rfl (fun ls hl => ?_)
    refine n_iconst hx hb 0 dX6_buyAll_28 (by decide) ?_
    refine lv_istore_n (lv' := [(2, .int (nI 0)), (1, .int (nI 0)), (0, .ref d)]) hx hb dX6_buyAll_29 rfl hl (by decide) rfl (fun ls hl => ?_)
    have L30 : ∀ (dd : Nat) (k : Nat) (a : Nat) (u : Wv) (M1 : Mm), bm1 < k + dd → (k ≤ bm1) → (Md G d (sg (nI 0) (nI (keepN σ.2.1)) (nI 0) a1 w1 (nI bm1)) (xs u A U15 L K (fun i => nI (σ.2.2.2.2.2.2 i)) SE SH BU1) M1) → (∀ q, (q < d ∨ d + 10 ≤ q) → M1 q = M q) → (u = mV bc bu σ.1 k) → (a = mN bc bu σ.1 k) → (a ≤ k) → ∀ (H : Heap) (locs : List Loc), zH G M1 H → zS 0 B0 s.heap H locs → ∀ (ls : Array Slot), lv_has ls 3 [(0, .ref d), (1, .int (nI a)), (2, .int (nI k))] → zW pg l ev 5 0 0 s m [.ref d] below meth cd H locs 0 0 G B0 (some (.int (fBuyAll σ).1)) (fun M1 => Mo G d (fBuyAll σ).2 M1 ∧ ∀ q, (q < d ∨ d + 10 ≤ q) → M1 q = M q) (F0 m 30 ls []) := by
      intro dd
      induction dd with
      | zero =>
        intro k a u M1 hdd hk hM1 hF1 hu ha ha9
        exact absurd hdd (by omega)
      | succ dd ih =>
        intro k a u M1 hdd hk hM1 hF1 hu ha ha9 H locs hH hS ls hl
        have hA1 : zArr G 0 M1 (d + 1) 818 (fun i => nI (u i)) := hM1.s (fun _ _ => rfl)
        have hvu : wOk u := by rw [hu]; exact (mV_ok bc bu hv k).1
        refine lv_iload_n hx hb dX6_buyAll_30 rfl (lv_at hl 2 rfl) ?_
        refine lv_aload_n hx hb dX6_buyAll_31 rfl (lv_at hl 0 rfl) ?_
        refine z_get (T := TX6) (v := .int (nI bm1)) hE hH hM1.1 rfl uw_X6 14 (by decide) fkX6_107 rfl dX6_buyAll_32 ?_
        refine n_cmp_ge (tgt := 77) hx hb (by omega) (by omega) dX6_buyAll_35 (by decide) (fun h27 => ?_) (fun h27 => ?_)
        · refine lv_iload_n hx hb dX6_buyAll_77 rfl (lv_at hl 1 rfl) ?_
          have hf : fBuyAll σ = ((nI a), (u, keepN σ.2.1, keepH σ.2.2.1 σ.2.1 σ.1, σ.2.2.2.1, σ.2.2.2.2.1, 0, σ.2.2.2.2.2.2)) := by
            have hkk : k = bm1 := by omega
            subst hkk
            unfold fBuyAll
            rw [if_pos h12]
            show (nI (sbN g0 σ.2.2.2.2.2.2 σ.2.2.2.2.2.1 σ.1 σ.2.2.2.2.2.1), (sbV g0 σ.2.2.2.2.2.2 σ.2.2.2.2.2.1 σ.1 σ.2.2.2.2.2.1, _)) = _
            rw [(hsb σ.1).1, (hsb σ.1).2, hu, ha]
          rw [hf]
          exact z_iret hE hH hS rfl ⟨⟨_, _, _, _, _, _, _, _, _, _, _, hM1, hU19, hL, hK⟩, hF1⟩ dX6_buyAll_78
        · refine lv_iload_n hx hb dX6_buyAll_38 rfl (lv_at hl 1 rfl) ?_
          refine lv_aload_n hx hb dX6_buyAll_39 rfl (lv_at hl 0 rfl) ?_
          refine lv_aload_n hx hb dX6_buyAll_40 rfl (lv_at hl 0 rfl) ?_
          refine z_get (T := TX6) (v := .ref (d + 9)) hE hH hM1.1 rfl uw_X6 13 (by decide) fkX6_35 rfl dX6_buyAll_41 ?_
          refine n_iconst hx hb 2 dX6_buyAll_44 (by decide) ?_
          refine lv_iload_n hx hb dX6_buyAll_45 rfl (lv_at hl 2 rfl) ?_
          refine n_imul hx hb dX6_buyAll_46 ?_
          refine z_iald hE hH (show zArr G 0 M1 (d + 9) 64 BU1 from hM1.2 9 (by decide) (by decide)) (k := 2 * k) (by omega) (by decide) dX6_buyAll_47 ?_
          refine z_topeq (show BU1 (2 * k) = nI (bc k) from (hBo k (by omega)).1) ?_
          have hbk := (hBo k (by omega)).2.2
          refine lv_aload_n hx hb dX6_buyAll_48 rfl (lv_at hl 0 rfl) ?_
          refine z_get (T := TX6) (v := .ref (d + 9)) hE hH hM1.1 rfl uw_X6 13 (by decide) fkX6_35 rfl dX6_buyAll_49 ?_
          refine n_iconst hx hb 2 dX6_buyAll_52 (by decide) ?_
          refine lv_iload_n hx hb dX6_buyAll_53 rfl (lv_at hl 2 rfl) ?_
          refine n_imul hx hb dX6_buyAll_54 ?_
          refine n_iconst hx hb 1 dX6_buyAll_55 (by decide) ?_
          refine n_iadd hx hb dX6_buyAll_56 ?_
          refine z_iald hE hH (show zArr G 0 M1 (d + 9) 64 BU1 from hM1.2 9 (by decide) (by decide)) (k := (2 * k) + 1) (by omega) (by decide) dX6_buyAll_57 ?_
          refine z_topeq (show BU1 (2 * k + 1) = nI (bu k) from (hBo k (by omega)).2.1) ?_
          refine z_callV (rest := [.int (nI a)]) (st2 := [.int (zb (sells u (bc k) (bu k))), .int (nI a)]) hE hH hS hB0 hl ca_X6_pays mkX6_98 (c_X6_pays l G B0 M1 d (sg (nI 0) (nI (keepN σ.2.1)) (nI 0) a1 w1 (nI bm1)) u A U15 L K (fun i => nI (σ.2.2.2.2.2.2 i)) SE SH BU1 hM1 hvu (by omega) (bc k) (bu k) (by omega) (by omega)) hM1.1 rfl rfl rfl rfl rfl ⟨Nat.le_of_ble_eq_true rfl, Nat.le_of_ble_eq_true rfl⟩ (Nat.le_of_ble_eq_true rfl) ⟨Nat.le_refl _, Nat.le_refl _⟩ dX6_buyAll_58 (fun H locs M28 hH hp hS => ?_)
          obtain ⟨hM29, hG30⟩ := hp
          have hv32 : wOk (sellV u (bc k) (bu k)) := (sellV_ok hvu _ _).1
          have hA33 := hM29.s (fun _ _ => rfl)
          have hF31 := fun q hq => (hG30 q hq).trans (hF1 q hq)
          refine b_if_eq (tgt := 68) hx hb dX6_buyAll_61 (by decide) (fun h35 => ?_) (fun h35 => ?_)
          · refine n_iconst hx hb 0 dX6_buyAll_68 (by decide) ?_
            refine n_iadd hx hb dX6_buyAll_69 ?_
            refine lv_istore_n (lv' := [(1, .int (nI (a + 0))), (0, .ref d), (2, .int (nI k))]) hx hb dX6_buyAll_70 rfl hl (by decide) rfl (fun ls hl => ?_)
            refine lv_iinc (v := (nI (k + 1))) (lv' := [(2, .int (nI (k + 1))), (1, .int (nI (a + 0))), (0, .ref d)]) hx hb dX6_buyAll_71 hl (k := 2) rfl (nI_inc _) (by decide) rfl (fun ls hl => ?_)
            refine lv_goto (tgt := 30) hx hb dX6_buyAll_74 (by decide) ?_
            exact ih  (k + 1) (a + 0) (sellV u (bc k) (bu k)) M28 (by omega) (by omega) hM29 hF31 (by rw [hu]; rfl) (by show _ = mN bc bu σ.1 k + (if sells (mV bc bu σ.1 k) (bc k) (bu k) = true then 1 else 0); rw [← hu, ← ha, h35]; rfl) (by omega) _ _ hH hS _ (lv_sub hl [2, 1, 0] rfl)
          · refine n_iconst hx hb 1 dX6_buyAll_64 (by decide) ?_
            refine lv_goto (tgt := 69) hx hb dX6_buyAll_65 (by decide) ?_
            refine n_iadd hx hb dX6_buyAll_69 ?_
            refine lv_istore_n (lv' := [(1, .int (nI (a + 1))), (0, .ref d), (2, .int (nI k))]) hx hb dX6_buyAll_70 rfl hl (by decide) rfl (fun ls hl => ?_)
            refine lv_iinc (v := (nI (k + 1))) (lv' := [(2, .int (nI (k + 1))), (1, .int (nI (a + 1))), (0, .ref d)]) hx hb dX6_buyAll_71 hl (k := 2) rfl (nI_inc _) (by decide) rfl (fun ls hl => ?_)
            refine lv_goto (tgt := 30) hx hb dX6_buyAll_74 (by decide) ?_
            exact ih  (k + 1) (a + 1) (sellV u (bc k) (bu k)) M28 (by omega) (by omega) hM29 hF31 (by rw [hu]; rfl) (by show _ = mN bc bu σ.1 k + (if sells (mV bc bu σ.1 k) (bc k) (bu k) = true then 1 else 0); rw [← hu, ← ha, h35]; rfl) (by omega) _ _ hH hS _ (lv_sub hl [2, 1, 0] rfl)
    exact L30 (bm1 + 1) 0 0 σ.1 M23 (by omega) (by omega) hM24 hF26 rfl rfl (by omega) _ _ hH hS _ (lv_sub hl [2, 1, 0] rfl)
  · replace hl : lv_has ls 3 [(0, .ref d)] := hl
    refine lv_bipush (v := (-3)) hx hb dX6_buyAll_14 (by decide) ?_
    have hf : fBuyAll σ = ((-3), (σ.1, σ.2.1, σ.2.2.1, σ.2.2.2.1, σ.2.2.2.2.1, σ.2.2.2.2.2.1, σ.2.2.2.2.2.2)) := by
      unfold fBuyAll
      rw [if_neg (by rw [h12]; intro q; cases q)]
    rw [hf]
    exact z_iret hE hH hS rfl ⟨⟨_, _, _, _, _, _, _, _, _, _, _, hM8, hU, hL, hK⟩, hF10⟩ dX6_buyAll_16

set_option maxHeartbeats 4000000 in
set_option maxRecDepth 100000 in
theorem c_X6_pass (l : Launch) (G : zG) (B0 : Nat) (M : Mm) (d : Nat) (σ : Sg) (hC : Mo G d σ M) (hok : sOk σ) (hBd : B0 ≤ d) (dd0 : Int32) : zMet l yX6_pass cX6_pass 2 (some .int) 5 0 0 G B0 M [.ref d, .int dd0] (some (.int (fPass σ dd0).1)) (fun M1 => Mo G d (fPass σ dd0).2 M1 ∧ ∀ q, (q < d ∨ d + 10 ≤ q) → M1 q = M q) := by
  refine z_met RX6 [(0, .ref d), (1, .int dd0)] (by decide) rfl (Nat.le_of_ble_eq_true rfl) rfl ?_
  intro pg ev s m below meth cd ls hE hin hB0 hH hl
  have hx := hE.1
  have hb := hE.2.1
  have hv : wOk σ.1 := hok.hw
  have hn : σ.1 0 ≤ 12 := hv.1
  have hdy : σ.1 1 ≤ 9999 := hok.1.2
  have hn6 : σ.2.1 ≤ 6 := hok.2.1
  have hhv : ∀ k, k < σ.2.1 → wOk (σ.2.2.1 k) := hok.hh
  have hsv : ∀ k, k < 2 → σ.2.2.2.2.1 k = true → wOk (σ.2.2.2.1 k) := hok.hs
  have hln : σ.2.2.2.2.2.1 ≤ 60 := hok.2.2.2.2.1
  have hpc : ∀ i, i < σ.2.2.2.2.2.1 → σ.2.2.2.2.2.2 i < 128 := fun i hi => by have h7 := (hok.2.2.2.2.2 i hi).2; exact Nat.lt_of_le_of_lt h7 (by decide)
  obtain ⟨t, at', w, bm, A, U, L, K, SE, SH, BU, hM, hU, hL, hK⟩ := hC
  have hA : zArr G 0 M (d + 1) 818 (fun i => nI (σ.1 i)) := hM.s (fun _ _ => rfl)
  have hF : ∀ q, (q < d ∨ d + 10 ≤ q) → M q = M q := fun _ _ => rfl
  refine z_gen B0 (fun H locs hH hS => ?_) hH
  refine lv_aload_n hx hb dX6_pass_0 rfl (lv_at hl 0 rfl) ?_
  refine n_iconst hx hb 0 dX6_pass_1 (by decide) ?_
  refine z_put (T := TX6) hE hH hS hM.1 rfl uw_X6 tyX6 tyX6_ok nmX6 0 (by decide) fkX6_38 rfl rfl rfl (Nat.le_of_ble_eq_true rfl) (by omega) dX6_pass_2 (fun H locs M3 hH hS e1 o2 => ?_)
  have hM4 : Md G d (sg (nI 0) (nI σ.2.1) (nI σ.2.2.2.2.2.1) at' w bm) (xs σ.1 A U L K (fun i => nI (σ.2.2.2.2.2.2 i)) SE SH BU) M3 := Md.setC hM e1 o2
  have hA5 := hM4.s (fun _ _ => rfl)
  have hF6 := fun q hq => (o2 q (by omega)).trans (hF q hq)
  refine lv_iload_n hx hb dX6_pass_5 rfl (lv_at hl 1 rfl) ?_
  refine n_iconst hx hb 1 dX6_pass_6 (by decide) ?_
  refine n_bipush hx hb 100 dX6_pass_7 (by decide) ?_
  refine z_callS (rest := []) (st2 := [.int (zb (wi dd0 (nI 1) (nI 100)))]) hE hH hS hB0 hl ca_X6_in mkX6_42 (c_X6_in l G B0 M3 dd0 (nI 1) (nI 100)) rfl rfl rfl ⟨Nat.le_of_ble_eq_true rfl, Nat.le_of_ble_eq_true rfl⟩ (Nat.le_of_ble_eq_true rfl) ⟨Nat.le_refl _, Nat.le_refl _⟩ dX6_pass_9 (fun H locs M1 hH hp hS => ?_)
  subst hp
  refine b_if_ne (tgt := 18) hx hb dX6_pass_12 (by decide) (fun h8 => ?_) (fun h8 => ?_)
  · obtain ⟨dd0', rfl, dd01, dd02⟩ := wi_nat (by decide) (by decide) h8
    have tx9 : tn (nI dd0') = dd0' := tn_nI (by omega)
    refine lv_aload_n hx hb dX6_pass_18 rfl (lv_at hl 0 rfl) ?_
    refine z_get (T := TX6) (v := .ref (d + 1)) hE hH hM4.1 rfl uw_X6 1 (by decide) fkX6_7 rfl dX6_pass_19 ?_
    refine n_iconst hx hb 1 dX6_pass_22 (by decide) ?_
    refine z_iald hE hH hA5 (k := 1) (by omega) (by decide) dX6_pass_23 ?_
    refine lv_iload_n hx hb dX6_pass_24 rfl (lv_at hl 1 rfl) ?_
    refine n_iadd hx hb dX6_pass_25 ?_
    refine n_sipush hx hb 9999 dX6_pass_26 (by decide) ?_
    refine n_cmp_le (tgt := 35) hx hb (by omega) (by decide) dX6_pass_29 (by decide) (fun h10 => ?_) (fun h10 => ?_)
    · refine lv_aload_n hx hb dX6_pass_35 rfl (lv_at hl 0 rfl) ?_
      refine z_callV (rest := []) (st2 := []) hE hH hS hB0 hl ca_X6_records mkX6_81 (c_X6_records l G B0 M3 d (nI 0) (nI σ.2.2.2.2.2.1) at' w bm σ.2.1 σ.2.2.1 σ.1 A U L K (fun i => nI (σ.2.2.2.2.2.2 i)) SE SH BU hM4 hv (by omega) hn6 hU) hM4.1 rfl rfl rfl rfl rfl ⟨Nat.le_of_ble_eq_true rfl, Nat.le_of_ble_eq_true rfl⟩ (Nat.le_of_ble_eq_true rfl) ⟨Nat.le_refl _, Nat.le_refl _⟩ dX6_pass_36 (fun H locs M11 hH hp hS => ?_)
      obtain ⟨U12, hM13, hU16, hG14⟩ := hp
      have hA17 := hM13.s (fun _ _ => rfl)
      have hF15 := fun q hq => (hG14 q hq).trans (hF6 q hq)
      refine lv_aload_n hx hb dX6_pass_39 rfl (lv_at hl 0 rfl) ?_
      refine lv_iload_n hx hb dX6_pass_40 rfl (lv_at hl 1 rfl) ?_
      refine z_callV (rest := []) (st2 := [.int (nI (dysN σ.1 dd0'))]) hE hH hS hB0 hl ca_X6_days mkX6_110 (c_X6_days l G B0 M11 d (sg (nI 0) (nI (keepN σ.2.1)) (nI σ.2.2.2.2.2.1) at' w bm) σ.1 A U12 L K (fun i => nI (σ.2.2.2.2.2.2 i)) SE SH BU hM13 hv (by omega) dd0' (by omega) (by omega)) hM13.1 rfl rfl rfl rfl rfl ⟨Nat.le_of_ble_eq_true rfl, Nat.le_of_ble_eq_true rfl⟩ (Nat.le_of_ble_eq_true rfl) ⟨Nat.le_refl _, Nat.le_refl _⟩ dX6_pass_41 (fun H locs M18 hH hp hS => ?_)
      obtain ⟨SE19, hM20, hG21⟩ := hp
      have hv23 : wOk (dysV σ.1 dd0') := (dysV_ok hv _ (by omega)).1
      have hA24 := hM20.s (fun _ _ => rfl)
      have hF22 := fun q hq => (hG21 q hq).trans (hF15 q hq)
      have hf : fPass σ (nI dd0') = ((nI (dysN σ.1 dd0')), (dysV σ.1 dd0', keepN σ.2.1, keepH σ.2.2.1 σ.2.1 σ.1, σ.2.2.2.1, σ.2.2.2.2.1, σ.2.2.2.2.2.1, σ.2.2.2.2.2.2)) := by
        have e := dys_fad (v := σ.1) hn (t := dd0') (by omega)
        rw [e.1, e.2.1]
        simp [fPass, chg, sV, sN, sH, sS, sD, sL, sP, h8, tx9, h10]
        try omega
      rw [hf]
      exact z_iret hE hH hS rfl ⟨⟨_, _, _, _, _, _, _, _, _, _, _, hM20, hU16, hL, hK⟩, hF22⟩ dX6_pass_44
    · refine lv_bipush (v := (-4)) hx hb dX6_pass_32 (by decide) ?_
      have hf : fPass σ (nI dd0') = ((-4), (σ.1, σ.2.1, σ.2.2.1, σ.2.2.2.1, σ.2.2.2.2.1, σ.2.2.2.2.2.1, σ.2.2.2.2.2.2)) := by
        simp [fPass, chg, sV, sN, sH, sS, sD, sL, sP, h8, tx9, h10]
        try omega
      rw [hf]
      exact z_iret hE hH hS rfl ⟨⟨_, _, _, _, _, _, _, _, _, _, _, hM4, hU, hL, hK⟩, hF6⟩ dX6_pass_34
  · refine lv_bipush (v := (-2)) hx hb dX6_pass_15 (by decide) ?_
    have hf : fPass σ dd0 = ((-2), (σ.1, σ.2.1, σ.2.2.1, σ.2.2.2.1, σ.2.2.2.2.1, σ.2.2.2.2.2.1, σ.2.2.2.2.2.2)) := by
      simp [fPass, chg, sV, sN, sH, sS, sD, sL, sP, h8]
      try omega
    rw [hf]
    exact z_iret hE hH hS rfl ⟨⟨_, _, _, _, _, _, _, _, _, _, _, hM4, hU, hL, hK⟩, hF6⟩ dX6_pass_17
