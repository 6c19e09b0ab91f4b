def lieCells (v : Wv) (j : Nat) : Nat := zcnt (fun k => liesN (pv v j) (k % 10) (k / 10)) 60
def clrCnt (v : Wv) (j : Nat) : Nat := zcnt (fun k => liesN (pv v j) (k % 10) (k / 10) && decide (cv v j k = 0)) 60
def lyC (v : Wv) (c u : Nat) : Nat := zcnt (fun j => liesN (pv v j) (c % 10) (c / 10) && (decide (u = 0) || decide (0 < cv v j c))) (v 0)
theorem oo_cmp_ne {p : Program} {l : Launch} {e : Env} {R : Room} {s : State} {m : MethodId} {args : Array Value} {below : List Frame} {meth : Method} {c : Code} {H : Heap} {locs : List Loc} {cells slots : Nat} {Q : State → Prop} {cc : ByteArray} {pc tgt : Nat} {off : Int} {ls : Array Slot} {rest : List Value} {o o' : Option Nat} (hx : p.tables.exec = Jvm.exec) (hb : c.code = cc) (ho : ∀ j, o = some j → j < 2 ^ 31) (ho' : ∀ j, o' = some j → j < 2 ^ 31) (hdg : decode cc pc = .ok (.if_icmp .ne off, 3)) (ht : (pc : Int) + off = (tgt : Int)) (kt : o ≠ o' → W p l e R s m args below meth c H locs cells slots Q (F0 m tgt ls rest)) (kf : o = o' → W p l e R s m args below meth c H locs cells slots Q (F0 m (pc + 3) ls rest)) : W p l e R s m args below meth c H locs cells slots Q (F0 m pc ls (.int (oI o') :: .int (oI o) :: rest)) :=
  lv_icmp_ne hx hb hdg ht (fun h => kt (fun q => h ((oI_lt ho ho').mpr q))) (fun h => kf ((oI_lt ho ho').mp h))
theorem lieCells_le (v : Wv) (j : Nat) : lieCells v j ≤ 60 := zcnt_le _ _
theorem clrCnt_le (v : Wv) (j : Nat) : clrCnt v j ≤ 60 := zcnt_le _ _

set_option maxHeartbeats 4000000 in
set_option maxRecDepth 100000 in
theorem c_X6_overCells_5 (l : Launch) (G : zG) (B0 : Nat) (M : Mm) (d : Nat) (sc : Nat → Int32) (X : Nat → Nat → Int32) (hM : Md G d sc X M) (v : Wv) (hms : MS v X) (hv : wOk v) (j : Nat) (hj : j < v 0) : zMet l yX6_overCells cX6_overCells 6 (some .int) 3 0 0 G B0 M [.ref d, .int (nI j), .int (nI 5)] (some (.int (nI (seenCnt v j)))) (fun M1 => M = M1) := by
  refine z_met RX6 [(0, .ref d), (1, .int (nI j)), (2, .int (nI 5))] (by decide) rfl (Nat.le_of_ble_eq_true rfl) rfl ?_
  intro pg ev s m below meth cd ls hE hin hB0 hH hl
  have hx := hE.1
  have hb := hE.2.1
  have hn : v 0 ≤ 12 := hv.1
  have hA := hM.s hms
  refine z_gen B0 (fun H locs hH hS => ?_) hH
  refine n_iconst hx hb 0 dX6_overCells_0 (by decide) ?_
  refine lv_istore_n (lv' := [(3, .int (nI 0)), (0, .ref d), (1, .int (nI j)), (2, .int (nI 5))]) hx hb dX6_overCells_1 rfl hl (by decide) rfl (fun ls hl => ?_)
  refine n_iconst hx hb 0 dX6_overCells_2 (by decide) ?_
  refine lv_istore (lv' := [(4, .int (nI 0)), (3, .int (nI 0)), (0, .ref d), (1, .int (nI j)), (2, .int (nI 5))]) hx hb dX6_overCells_3 hl (by decide) rfl (fun ls hl => ?_)
  have L5 : ∀ (dd : Nat) (k : Nat) (a : Nat), 60 < k + dd → (k ≤ 60) → (a = zcnt (fun c => decide (seen v (-6) c = some j)) k) → ∀ (H : Heap) (locs : List Loc), zH G M H → zS 0 B0 s.heap H locs → ∀ (ls : Array Slot), lv_has ls 6 [(0, .ref d), (1, .int (nI j)), (2, .int (nI 5)), (3, .int (nI a)), (4, .int (nI k))] → zW pg l ev 3 0 0 s m [.ref d, .int (nI j), .int (nI 5)] below meth cd H locs 0 0 G B0 (some (.int (nI (seenCnt v j)))) (fun M1 => M = M1) (F0 m 5 ls []) := by
    intro dd
    induction dd with
    | zero =>
      intro k a hdd hk ha
      exact absurd hdd (by omega)
    | succ dd ih =>
      intro k a hdd hk ha H locs hH hS ls hl
      refine lv_iload hx hb dX6_overCells_5 (lv_at hl 4 rfl) ?_
      refine n_bipush hx hb 60 dX6_overCells_7 (by decide) ?_
      refine n_cmp_ge (tgt := 105) hx hb (by omega) (by decide) dX6_overCells_9 (by decide) (fun h1 => ?_) (fun h1 => ?_)
      · refine lv_iload_n hx hb dX6_overCells_105 rfl (lv_at hl 3 rfl) ?_
        exact z_iret hE hH hS (by have hkk : k = 60 := (by omega); subst hkk; rw [ha]; first | done | rfl) rfl dX6_overCells_106
      · refine lv_iload_n hx hb dX6_overCells_12 rfl (lv_at hl 2 rfl) ?_
        refine n_iconst hx hb 5 dX6_overCells_13 (by decide) ?_
        refine n_cmp_ne (tgt := 37) hx hb (by decide) (by decide) dX6_overCells_14 (by decide) (fun h => absurd rfl h) (fun _ => ?_)
        refine lv_aload_n hx hb dX6_overCells_17 rfl (lv_at hl 0 rfl) ?_
        refine lv_iload hx hb dX6_overCells_18 (lv_at hl 4 rfl) ?_
        refine lv_bipush (v := (-6)) hx hb dX6_overCells_20 (by decide) ?_
        refine z_callV (rest := []) (st2 := [.int (oI (seen v (-6) k))]) hE hH hS hB0 hl ca_X6_seenAt mkX6_60 (c_X6_seenAt l G B0 M d sc X hM v hms hv k (-6) (by omega)) hM.1 rfl rfl rfl rfl rfl ⟨Nat.le_of_ble_eq_true rfl, Nat.le_of_ble_eq_true rfl⟩ (Nat.le_of_ble_eq_true rfl) ⟨Nat.le_refl _, Nat.le_refl _⟩ dX6_overCells_22 (fun H locs M1 hH hp hS => ?_)
        subst hp
        refine lv_iload_n hx hb dX6_overCells_25 rfl (lv_at hl 1 rfl) ?_
        refine on_cmp_ne (tgt := 33) hx hb (seen_ob hv) (by omega) dX6_overCells_26 (by decide) (fun h2 => ?_) (fun h2 => ?_)
        · refine n_iconst hx hb 0 dX6_overCells_33 (by decide) ?_
          refine lv_goto (tgt := 78) hx hb dX6_overCells_34 (by decide) ?_
          refine lv_istore (lv' := [(5, .int (nI 0)), (0, .ref d), (1, .int (nI j)), (2, .int (nI 5)), (3, .int (nI a)), (4, .int (nI k))]) hx hb dX6_overCells_78 hl (by decide) rfl (fun ls hl => ?_)
          refine lv_iload_n hx hb dX6_overCells_80 rfl (lv_at hl 4 rfl) ?_
          refine lv_aload_n hx hb dX6_overCells_81 rfl (lv_at hl 1 rfl) ?_
          refine lv_iload_n hx hb dX6_overCells_82 rfl (lv_at hl 2 rfl) ?_
          refine lv_iload hx hb dX6_overCells_83 (lv_at hl 5 rfl) ?_
          refine z_callV (rest := [.int (nI a)]) (st2 := [.int (zb (liesN (pv v j) (k % 10) (k / 10))), .int (nI a)]) hE hH hS hB0 hl ca_X6_lies mkX6_53 (c_X6_lies l G B0 M d sc X hM v hms hv j k (by omega) (by omega)) hM.1 rfl rfl rfl rfl rfl ⟨Nat.le_of_ble_eq_true rfl, Nat.le_of_ble_eq_true rfl⟩ (Nat.le_of_ble_eq_true rfl) ⟨Nat.le_refl _, Nat.le_refl _⟩ dX6_overCells_85 (fun H locs M1 hH hp hS => ?_)
          subst hp
          refine b_if_eq (tgt := 96) hx hb dX6_overCells_88 (by decide) (fun h3 => ?_) (fun h3 => ?_)
          · refine n_iconst hx hb 0 dX6_overCells_96 (by decide) ?_
            refine n_iadd hx hb dX6_overCells_97 ?_
            refine lv_istore_n (lv' := [(3, .int (nI (a + 0))), (5, .int (nI 0)), (0, .ref d), (1, .int (nI j)), (2, .int (nI 5)), (4, .int (nI k))]) hx hb dX6_overCells_98 rfl hl (by decide) rfl (fun ls hl => ?_)
            refine lv_iinc (v := (nI (k + 1))) (lv' := [(4, .int (nI (k + 1))), (3, .int (nI (a + 0))), (5, .int (nI 0)), (0, .ref d), (1, .int (nI j)), (2, .int (nI 5))]) hx hb dX6_overCells_99 hl (k := 5) rfl (nI_inc _) (by decide) rfl (fun ls hl => ?_)
            refine lv_goto (tgt := 5) hx hb dX6_overCells_102 (by decide) ?_
            exact ih  (k + 1) (a + 0) (by omega) (by omega) (by unfold zcnt; rw [← ha]; first | (simp [h2, h3]; done) | (exfalso; exact absurd (hv.lies (by omega) (by omega) (seen_pos h2)) (by rw [h3]; decide))) _ _ hH hS _ (lv_sub hl [3, 4, 5, 1, 0] rfl)
          · refine lv_iload hx hb dX6_overCells_91 (lv_at hl 0 rfl) ?_
            refine lv_goto (tgt := 97) hx hb dX6_overCells_93 (by decide) ?_
            refine n_iadd hx hb dX6_overCells_97 ?_
            refine lv_istore_n (lv' := [(3, .int (nI (a + 0))), (5, .int (nI 0)), (0, .ref d), (1, .int (nI j)), (2, .int (nI 5)), (4, .int (nI k))]) hx hb dX6_overCells_98 rfl hl (by decide) rfl (fun ls hl => ?_)
            refine lv_iinc (v := (nI (k + 1))) (lv' := [(4, .int (nI (k + 1))), (3, .int (nI (a + 0))), (5, .int (nI 0)), (0, .ref d), (1, .int (nI j)), (2, .int (nI 5))]) hx hb dX6_overCells_99 hl (k := 5) rfl (nI_inc _) (by decide) rfl (fun ls hl => ?_)
            refine lv_goto (tgt := 5) hx hb dX6_overCells_102 (by decide) ?_
            exact ih  (k + 1) (a + 0) (by omega) (by omega) (by unfold zcnt; rw [← ha]; first | (simp [h2, h3]; done) | (exfalso; exact absurd (hv.lies (by omega) (by omega) (seen_pos h2)) (by rw [h3]; decide))) _ _ hH hS _ (lv_sub hl [3, 4, 5, 1, 0] rfl)
        · refine n_iconst hx hb 1 dX6_overCells_29 (by decide) ?_
          refine lv_goto (tgt := 78) hx hb dX6_overCells_30 (by decide) ?_
          refine lv_istore (lv' := [(5, .int (nI 1)), (0, .ref d), (1, .int (nI j)), (2, .int (nI 5)), (3, .int (nI a)), (4, .int (nI k))]) hx hb dX6_overCells_78 hl (by decide) rfl (fun ls hl => ?_)
          refine lv_iload_n hx hb dX6_overCells_80 rfl (lv_at hl 4 rfl) ?_
          refine lv_aload_n hx hb dX6_overCells_81 rfl (lv_at hl 1 rfl) ?_
          refine lv_iload_n hx hb dX6_overCells_82 rfl (lv_at hl 2 rfl) ?_
          refine lv_iload hx hb dX6_overCells_83 (lv_at hl 5 rfl) ?_
          refine z_callV (rest := [.int (nI a)]) (st2 := [.int (zb (liesN (pv v j) (k % 10) (k / 10))), .int (nI a)]) hE hH hS hB0 hl ca_X6_lies mkX6_53 (c_X6_lies l G B0 M d sc X hM v hms hv j k (by omega) (by omega)) hM.1 rfl rfl rfl rfl rfl ⟨Nat.le_of_ble_eq_true rfl, Nat.le_of_ble_eq_true rfl⟩ (Nat.le_of_ble_eq_true rfl) ⟨Nat.le_refl _, Nat.le_refl _⟩ dX6_overCells_85 (fun H locs M1 hH hp hS => ?_)
          subst hp
          refine b_if_eq (tgt := 96) hx hb dX6_overCells_88 (by decide) (fun h4 => ?_) (fun h4 => ?_)
          · refine n_iconst hx hb 0 dX6_overCells_96 (by decide) ?_
            refine n_iadd hx hb dX6_overCells_97 ?_
            refine lv_istore_n (lv' := [(3, .int (nI (a + 0))), (5, .int (nI 1)), (0, .ref d), (1, .int (nI j)), (2, .int (nI 5)), (4, .int (nI k))]) hx hb dX6_overCells_98 rfl hl (by decide) rfl (fun ls hl => ?_)
            refine lv_iinc (v := (nI (k + 1))) (lv' := [(4, .int (nI (k + 1))), (3, .int (nI (a + 0))), (5, .int (nI 1)), (0, .ref d), (1, .int (nI j)), (2, .int (nI 5))]) hx hb dX6_overCells_99 hl (k := 5) rfl (nI_inc _) (by decide) rfl (fun ls hl => ?_)
            refine lv_goto (tgt := 5) hx hb dX6_overCells_102 (by decide) ?_
            exact ih  (k + 1) (a + 0) (by omega) (by omega) (by unfold zcnt; rw [← ha]; first | (simp [h2, h4]; done) | (exfalso; exact absurd (hv.lies (by omega) (by omega) (seen_pos h2)) (by rw [h4]; decide))) _ _ hH hS _ (lv_sub hl [3, 4, 5, 1, 0] rfl)
          · refine lv_iload hx hb dX6_overCells_91 (lv_at hl 0 rfl) ?_
            refine lv_goto (tgt := 97) hx hb dX6_overCells_93 (by decide) ?_
            refine n_iadd hx hb dX6_overCells_97 ?_
            refine lv_istore_n (lv' := [(3, .int (nI (a + 1))), (5, .int (nI 1)), (0, .ref d), (1, .int (nI j)), (2, .int (nI 5)), (4, .int (nI k))]) hx hb dX6_overCells_98 rfl hl (by decide) rfl (fun ls hl => ?_)
            refine lv_iinc (v := (nI (k + 1))) (lv' := [(4, .int (nI (k + 1))), (3, .int (nI (a + 1))), (5, .int (nI 1)), (0, .ref d), (1, .int (nI j)), (2, .int (nI 5))]) hx hb dX6_overCells_99 hl (k := 5) rfl (nI_inc _) (by decide) rfl (fun ls hl => ?_)
            refine lv_goto (tgt := 5) hx hb dX6_overCells_102 (by decide) ?_
            exact ih  (k + 1) (a + 1) (by omega) (by omega) (by unfold zcnt; rw [← ha]; first | (simp [h2, h4]; done) | (exfalso; exact absurd (hv.lies (by omega) (by omega) (seen_pos h2)) (by rw [h4]; decide))) _ _ hH hS _ (lv_sub hl [3, 4, 5, 1, 0] rfl)
  exact L5 61 0 0 (by omega) (by omega) rfl _ _ hH hS _ (lv_sub hl [2, 3, 4, 1, 0] rfl)

set_option maxHeartbeats 4000000 in
set_option maxRecDepth 100000 in
theorem c_X6_overCells_6 (l : Launch) (G : zG) (B0 : Nat) (M : Mm) (d : Nat) (sc : Nat → Int32) (X : Nat → Nat → Int32) (hM : Md G d sc X M) (v : Wv) (hms : MS v X) (hv : wOk v) (j : Nat) (hj : j < v 0) : zMet l yX6_overCells cX6_overCells 6 (some .int) 3 0 0 G B0 M [.ref d, .int (nI j), .int (nI 6)] (some (.int (nI (clrCnt v j)))) (fun M1 => M = M1) := by
  refine z_met RX6 [(0, .ref d), (1, .int (nI j)), (2, .int (nI 6))] (by decide) rfl (Nat.le_of_ble_eq_true rfl) rfl ?_
  intro pg ev s m below meth cd ls hE hin hB0 hH hl
  have hx := hE.1
  have hb := hE.2.1
  have hn : v 0 ≤ 12 := hv.1
  have hA := hM.s hms
  refine z_gen B0 (fun H locs hH hS => ?_) hH
  refine n_iconst hx hb 0 dX6_overCells_0 (by decide) ?_
  refine lv_istore_n (lv' := [(3, .int (nI 0)), (0, .ref d), (1, .int (nI j)), (2, .int (nI 6))]) hx hb dX6_overCells_1 rfl hl (by decide) rfl (fun ls hl => ?_)
  refine n_iconst hx hb 0 dX6_overCells_2 (by decide) ?_
  refine lv_istore (lv' := [(4, .int (nI 0)), (3, .int (nI 0)), (0, .ref d), (1, .int (nI j)), (2, .int (nI 6))]) hx hb dX6_overCells_3 hl (by decide) rfl (fun ls hl => ?_)
  have L5 : ∀ (dd : Nat) (k : Nat) (a : Nat), 60 < k + dd → (k ≤ 60) → (a = zcnt (fun k => liesN (pv v j) (k % 10) (k / 10) && decide (cv v j k = 0)) k) → ∀ (H : Heap) (locs : List Loc), zH G M H → zS 0 B0 s.heap H locs → ∀ (ls : Array Slot), lv_has ls 6 [(0, .ref d), (1, .int (nI j)), (2, .int (nI 6)), (3, .int (nI a)), (4, .int (nI k))] → zW pg l ev 3 0 0 s m [.ref d, .int (nI j), .int (nI 6)] below meth cd H locs 0 0 G B0 (some (.int (nI (clrCnt v j)))) (fun M1 => M = M1) (F0 m 5 ls []) := by
    intro dd
    induction dd with
    | zero =>
      intro k a hdd hk ha
      exact absurd hdd (by omega)
    | succ dd ih =>
      intro k a hdd hk ha H locs hH hS ls hl
      refine lv_iload hx hb dX6_overCells_5 (lv_at hl 4 rfl) ?_
      refine n_bipush hx hb 60 dX6_overCells_7 (by decide) ?_
      refine n_cmp_ge (tgt := 105) hx hb (by omega) (by decide) dX6_overCells_9 (by decide) (fun h1 => ?_) (fun h1 => ?_)
      · refine lv_iload_n hx hb dX6_overCells_105 rfl (lv_at hl 3 rfl) ?_
        exact z_iret hE hH hS (by have hkk : k = 60 := (by omega); subst hkk; rw [ha]; first | done | rfl) rfl dX6_overCells_106
      · refine lv_iload_n hx hb dX6_overCells_12 rfl (lv_at hl 2 rfl) ?_
        refine n_iconst hx hb 5 dX6_overCells_13 (by decide) ?_
        refine n_cmp_ne (tgt := 37) hx hb (by decide) (by decide) dX6_overCells_14 (by decide) (fun _ => ?_) (fun h => absurd h (by decide))
        refine lv_iload_n hx hb dX6_overCells_37 rfl (lv_at hl 2 rfl) ?_
        refine n_bipush hx hb 6 dX6_overCells_38 (by decide) ?_
        refine n_cmp_ne (tgt := 61) hx hb (by decide) (by decide) dX6_overCells_40 (by decide) (fun h => absurd rfl h) (fun _ => ?_)
        refine lv_aload_n hx hb dX6_overCells_43 rfl (lv_at hl 0 rfl) ?_
        refine lv_iload_n hx hb dX6_overCells_44 rfl (lv_at hl 1 rfl) ?_
        refine lv_iload hx hb dX6_overCells_45 (lv_at hl 4 rfl) ?_
        refine z_callV (rest := []) (st2 := [.int (nI (cv v j k))]) hE hH hS hB0 hl ca_X6_has mkX6_57 (c_X6_has l G B0 M d sc X hM v hms hv j k (by omega) (by omega)) hM.1 rfl rfl rfl rfl rfl ⟨Nat.le_of_ble_eq_true rfl, Nat.le_of_ble_eq_true rfl⟩ (Nat.le_of_ble_eq_true rfl) ⟨Nat.le_refl _, Nat.le_refl _⟩ dX6_overCells_47 (fun H locs M1 hH hp hS => ?_)
        subst hp
        have q2 := hv.coat (j := j) (c := k) (by omega) (by omega)
        refine n_if_ne (tgt := 57) hx hb (by omega) dX6_overCells_50 (by decide) (fun h3 => ?_) (fun h3 => ?_)
        · refine n_iconst hx hb 0 dX6_overCells_57 (by decide) ?_
          refine lv_goto (tgt := 78) hx hb dX6_overCells_58 (by decide) ?_
          refine lv_istore (lv' := [(5, .int (nI 0)), (0, .ref d), (1, .int (nI j)), (2, .int (nI 6)), (3, .int (nI a)), (4, .int (nI k))]) hx hb dX6_overCells_78 hl (by decide) rfl (fun ls hl => ?_)
          refine lv_iload_n hx hb dX6_overCells_80 rfl (lv_at hl 4 rfl) ?_
          refine lv_aload_n hx hb dX6_overCells_81 rfl (lv_at hl 1 rfl) ?_
          refine lv_iload_n hx hb dX6_overCells_82 rfl (lv_at hl 2 rfl) ?_
          refine lv_iload hx hb dX6_overCells_83 (lv_at hl 5 rfl) ?_
          refine z_callV (rest := [.int (nI a)]) (st2 := [.int (zb (liesN (pv v j) (k % 10) (k / 10))), .int (nI a)]) hE hH hS hB0 hl ca_X6_lies mkX6_53 (c_X6_lies l G B0 M d sc X hM v hms hv j k (by omega) (by omega)) hM.1 rfl rfl rfl rfl rfl ⟨Nat.le_of_ble_eq_true rfl, Nat.le_of_ble_eq_true rfl⟩ (Nat.le_of_ble_eq_true rfl) ⟨Nat.le_refl _, Nat.le_refl _⟩ dX6_overCells_85 (fun H locs M1 hH hp hS => ?_)
          subst hp
          refine b_if_eq (tgt := 96) hx hb dX6_overCells_88 (by decide) (fun h4 => ?_) (fun h4 => ?_)
          · refine n_iconst hx hb 0 dX6_overCells_96 (by decide) ?_
            refine n_iadd hx hb dX6_overCells_97 ?_
            refine lv_istore_n (lv' := [(3, .int (nI (a + 0))), (5, .int (nI 0)), (0, .ref d), (1, .int (nI j)), (2, .int (nI 6)), (4, .int (nI k))]) hx hb dX6_overCells_98 rfl hl (by decide) rfl (fun ls hl => ?_)
            refine lv_iinc (v := (nI (k + 1))) (lv' := [(4, .int (nI (k + 1))), (3, .int (nI (a + 0))), (5, .int (nI 0)), (0, .ref d), (1, .int (nI j)), (2, .int (nI 6))]) hx hb dX6_overCells_99 hl (k := 5) rfl (nI_inc _) (by decide) rfl (fun ls hl => ?_)
            refine lv_goto (tgt := 5) hx hb dX6_overCells_102 (by decide) ?_
            exact ih  (k + 1) (a + 0) (by omega) (by omega) (by unfold zcnt; rw [← ha]; simp [h3, h4]; try omega) _ _ hH hS _ (lv_sub hl [3, 4, 5, 1, 0] rfl)
          · refine lv_iload hx hb dX6_overCells_91 (lv_at hl 0 rfl) ?_
            refine lv_goto (tgt := 97) hx hb dX6_overCells_93 (by decide) ?_
            refine n_iadd hx hb dX6_overCells_97 ?_
            refine lv_istore_n (lv' := [(3, .int (nI (a + 0))), (5, .int (nI 0)), (0, .ref d), (1, .int (nI j)), (2, .int (nI 6)), (4, .int (nI k))]) hx hb dX6_overCells_98 rfl hl (by decide) rfl (fun ls hl => ?_)
            refine lv_iinc (v := (nI (k + 1))) (lv' := [(4, .int (nI (k + 1))), (3, .int (nI (a + 0))), (5, .int (nI 0)), (0, .ref d), (1, .int (nI j)), (2, .int (nI 6))]) hx hb dX6_overCells_99 hl (k := 5) rfl (nI_inc _) (by decide) rfl (fun ls hl => ?_)
            refine lv_goto (tgt := 5) hx hb dX6_overCells_102 (by decide) ?_
            exact ih  (k + 1) (a + 0) (by omega) (by omega) (by unfold zcnt; rw [← ha]; simp [h3, h4]; try omega) _ _ hH hS _ (lv_sub hl [3, 4, 5, 1, 0] rfl)
        · refine n_iconst hx hb 1 dX6_overCells_53 (by decide) ?_
          refine lv_goto (tgt := 78) hx hb dX6_overCells_54 (by decide) ?_
          refine lv_istore (lv' := [(5, .int (nI 1)), (0, .ref d), (1, .int (nI j)), (2, .int (nI 6)), (3, .int (nI a)), (4, .int (nI k))]) hx hb dX6_overCells_78 hl (by decide) rfl (fun ls hl => ?_)
          refine lv_iload_n hx hb dX6_overCells_80 rfl (lv_at hl 4 rfl) ?_
          refine lv_aload_n hx hb dX6_overCells_81 rfl (lv_at hl 1 rfl) ?_
          refine lv_iload_n hx hb dX6_overCells_82 rfl (lv_at hl 2 rfl) ?_
          refine lv_iload hx hb dX6_overCells_83 (lv_at hl 5 rfl) ?_
          refine z_callV (rest := [.int (nI a)]) (st2 := [.int (zb (liesN (pv v j) (k % 10) (k / 10))), .int (nI a)]) hE hH hS hB0 hl ca_X6_lies mkX6_53 (c_X6_lies l G B0 M d sc X hM v hms hv j k (by omega) (by omega)) hM.1 rfl rfl rfl rfl rfl ⟨Nat.le_of_ble_eq_true rfl, Nat.le_of_ble_eq_true rfl⟩ (Nat.le_of_ble_eq_true rfl) ⟨Nat.le_refl _, Nat.le_refl _⟩ dX6_overCells_85 (fun H locs M1 hH hp hS => ?_)
          subst hp
          refine b_if_eq (tgt := 96) hx hb dX6_overCells_88 (by decide) (fun h5 => ?_) (fun h5 => ?_)
          · refine n_iconst hx hb 0 dX6_overCells_96 (by decide) ?_
            refine n_iadd hx hb dX6_overCells_97 ?_
            refine lv_istore_n (lv' := [(3, .int (nI (a + 0))), (5, .int (nI 1)), (0, .ref d), (1, .int (nI j)), (2, .int (nI 6)), (4, .int (nI k))]) hx hb dX6_overCells_98 rfl hl (by decide) rfl (fun ls hl => ?_)
            refine lv_iinc (v := (nI (k + 1))) (lv' := [(4, .int (nI (k + 1))), (3, .int (nI (a + 0))), (5, .int (nI 1)), (0, .ref d), (1, .int (nI j)), (2, .int (nI 6))]) hx hb dX6_overCells_99 hl (k := 5) rfl (nI_inc _) (by decide) rfl (fun ls hl => ?_)
            refine lv_goto (tgt := 5) hx hb dX6_overCells_102 (by decide) ?_
            exact ih  (k + 1) (a + 0) (by omega) (by omega) (by unfold zcnt; rw [← ha]; simp [h3, h5]; try omega) _ _ hH hS _ (lv_sub hl [3, 4, 5, 1, 0] rfl)
          · refine lv_iload hx hb dX6_overCells_91 (lv_at hl 0 rfl) ?_
            refine lv_goto (tgt := 97) hx hb dX6_overCells_93 (by decide) ?_
            refine n_iadd hx hb dX6_overCells_97 ?_
            refine lv_istore_n (lv' := [(3, .int (nI (a + 1))), (5, .int (nI 1)), (0, .ref d), (1, .int (nI j)), (2, .int (nI 6)), (4, .int (nI k))]) hx hb dX6_overCells_98 rfl hl (by decide) rfl (fun ls hl => ?_)
            refine lv_iinc (v := (nI (k + 1))) (lv' := [(4, .int (nI (k + 1))), (3, .int (nI (a + 1))), (5, .int (nI 1)), (0, .ref d), (1, .int (nI j)), (2, .int (nI 6))]) hx hb dX6_overCells_99 hl (k := 5) rfl (nI_inc _) (by decide) rfl (fun ls hl => ?_)
            refine lv_goto (tgt := 5) hx hb dX6_overCells_102 (by decide) ?_
            exact ih  (k + 1) (a + 1) (by omega) (by omega) (by unfold zcnt; rw [← ha]; simp [h3, h5]; try omega) _ _ hH hS _ (lv_sub hl [3, 4, 5, 1, 0] rfl)
  exact L5 61 0 0 (by omega) (by omega) rfl _ _ hH hS _ (lv_sub hl [2, 3, 4, 1, 0] rfl)

set_option maxHeartbeats 4000000 in
set_option maxRecDepth 100000 in
theorem c_X6_overCells_7 (l : Launch) (G : zG) (B0 : Nat) (M : Mm) (d : Nat) (sc : Nat → Int32) (X : Nat → Nat → Int32) (hM : Md G d sc X M) (v : Wv) (hms : MS v X) (hv : wOk v) (j : Nat) (hj : j < v 0) : zMet l yX6_overCells cX6_overCells 6 (some .int) 3 0 0 G B0 M [.ref d, .int (nI j), .int (nI 7)] (some (.int (nI (lieCells v j)))) (fun M1 => M = M1) := by
  refine z_met RX6 [(0, .ref d), (1, .int (nI j)), (2, .int (nI 7))] (by decide) rfl (Nat.le_of_ble_eq_true rfl) rfl ?_
  intro pg ev s m below meth cd ls hE hin hB0 hH hl
  have hx := hE.1
  have hb := hE.2.1
  have hn : v 0 ≤ 12 := hv.1
  have hA := hM.s hms
  refine z_gen B0 (fun H locs hH hS => ?_) hH
  refine n_iconst hx hb 0 dX6_overCells_0 (by decide) ?_
  refine lv_istore_n (lv' := [(3, .int (nI 0)), (0, .ref d), (1, .int (nI j)), (2, .int (nI 7))]) hx hb dX6_overCells_1 rfl hl (by decide) rfl (fun ls hl => ?_)
  refine n_iconst hx hb 0 dX6_overCells_2 (by decide) ?_
  refine lv_istore (lv' := [(4, .int (nI 0)), (3, .int (nI 0)), (0, .ref d), (1, .int (nI j)), (2, .int (nI 7))]) hx hb dX6_overCells_3 hl (by decide) rfl (fun ls hl => ?_)
  have L5 : ∀ (dd : Nat) (k : Nat) (a : Nat), 60 < k + dd → (k ≤ 60) → (a = zcnt (fun k => liesN (pv v j) (k % 10) (k / 10)) k) → ∀ (H : Heap) (locs : List Loc), zH G M H → zS 0 B0 s.heap H locs → ∀ (ls : Array Slot), lv_has ls 6 [(0, .ref d), (1, .int (nI j)), (2, .int (nI 7)), (3, .int (nI a)), (4, .int (nI k))] → zW pg l ev 3 0 0 s m [.ref d, .int (nI j), .int (nI 7)] below meth cd H locs 0 0 G B0 (some (.int (nI (lieCells v j)))) (fun M1 => M = M1) (F0 m 5 ls []) := by
    intro dd
    induction dd with
    | zero =>
      intro k a hdd hk ha
      exact absurd hdd (by omega)
    | succ dd ih =>
      intro k a hdd hk ha H locs hH hS ls hl
      refine lv_iload hx hb dX6_overCells_5 (lv_at hl 4 rfl) ?_
      refine n_bipush hx hb 60 dX6_overCells_7 (by decide) ?_
      refine n_cmp_ge (tgt := 105) hx hb (by omega) (by decide) dX6_overCells_9 (by decide) (fun h1 => ?_) (fun h1 => ?_)
      · refine lv_iload_n hx hb dX6_overCells_105 rfl (lv_at hl 3 rfl) ?_
        exact z_iret hE hH hS (by have hkk : k = 60 := (by omega); subst hkk; rw [ha]; first | done | rfl) rfl dX6_overCells_106
      · refine lv_iload_n hx hb dX6_overCells_12 rfl (lv_at hl 2 rfl) ?_
        refine n_iconst hx hb 5 dX6_overCells_13 (by decide) ?_
        refine n_cmp_ne (tgt := 37) hx hb (by decide) (by decide) dX6_overCells_14 (by decide) (fun _ => ?_) (fun h => absurd h (by decide))
        refine lv_iload_n hx hb dX6_overCells_37 rfl (lv_at hl 2 rfl) ?_
        refine n_bipush hx hb 6 dX6_overCells_38 (by decide) ?_
        refine n_cmp_ne (tgt := 61) hx hb (by decide) (by decide) dX6_overCells_40 (by decide) (fun _ => ?_) (fun h => absurd h (by decide))
        refine lv_iload_n hx hb dX6_overCells_61 rfl (lv_at hl 2 rfl) ?_
        refine n_bipush hx hb 7 dX6_overCells_62 (by decide) ?_
        refine n_cmp_ne (tgt := 71) hx hb (by decide) (by decide) dX6_overCells_64 (by decide) (fun h => absurd rfl h) (fun _ => ?_)
        refine n_iconst hx hb 1 dX6_overCells_67 (by decide) ?_
        refine lv_goto (tgt := 78) hx hb dX6_overCells_68 (by decide) ?_
        refine lv_istore (lv' := [(5, .int (nI 1)), (0, .ref d), (1, .int (nI j)), (2, .int (nI 7)), (3, .int (nI a)), (4, .int (nI k))]) hx hb dX6_overCells_78 hl (by decide) rfl (fun ls hl => ?_)
        refine lv_iload_n hx hb dX6_overCells_80 rfl (lv_at hl 4 rfl) ?_
        refine lv_aload_n hx hb dX6_overCells_81 rfl (lv_at hl 1 rfl) ?_
        refine lv_iload_n hx hb dX6_overCells_82 rfl (lv_at hl 2 rfl) ?_
        refine lv_iload hx hb dX6_overCells_83 (lv_at hl 5 rfl) ?_
        refine z_callV (rest := [.int (nI a)]) (st2 := [.int (zb (liesN (pv v j) (k % 10) (k / 10))), .int (nI a)]) hE hH hS hB0 hl ca_X6_lies mkX6_53 (c_X6_lies l G B0 M d sc X hM v hms hv j k (by omega) (by omega)) hM.1 rfl rfl rfl rfl rfl ⟨Nat.le_of_ble_eq_true rfl, Nat.le_of_ble_eq_true rfl⟩ (Nat.le_of_ble_eq_true rfl) ⟨Nat.le_refl _, Nat.le_refl _⟩ dX6_overCells_85 (fun H locs M1 hH hp hS => ?_)
        subst hp
        refine b_if_eq (tgt := 96) hx hb dX6_overCells_88 (by decide) (fun h2 => ?_) (fun h2 => ?_)
        · refine n_iconst hx hb 0 dX6_overCells_96 (by decide) ?_
          refine n_iadd hx hb dX6_overCells_97 ?_
          refine lv_istore_n (lv' := [(3, .int (nI (a + 0))), (5, .int (nI 1)), (0, .ref d), (1, .int (nI j)), (2, .int (nI 7)), (4, .int (nI k))]) hx hb dX6_overCells_98 rfl hl (by decide) rfl (fun ls hl => ?_)
          refine lv_iinc (v := (nI (k + 1))) (lv' := [(4, .int (nI (k + 1))), (3, .int (nI (a + 0))), (5, .int (nI 1)), (0, .ref d), (1, .int (nI j)), (2, .int (nI 7))]) hx hb dX6_overCells_99 hl (k := 5) rfl (nI_inc _) (by decide) rfl (fun ls hl => ?_)
          refine lv_goto (tgt := 5) hx hb dX6_overCells_102 (by decide) ?_
          exact ih  (k + 1) (a + 0) (by omega) (by omega) (by unfold zcnt; rw [← ha]; simp [h2]) _ _ hH hS _ (lv_sub hl [3, 4, 5, 1, 0] rfl)
        · refine lv_iload hx hb dX6_overCells_91 (lv_at hl 0 rfl) ?_
          refine lv_goto (tgt := 97) hx hb dX6_overCells_93 (by decide) ?_
          refine n_iadd hx hb dX6_overCells_97 ?_
          refine lv_istore_n (lv' := [(3, .int (nI (a + 1))), (5, .int (nI 1)), (0, .ref d), (1, .int (nI j)), (2, .int (nI 7)), (4, .int (nI k))]) hx hb dX6_overCells_98 rfl hl (by decide) rfl (fun ls hl => ?_)
          refine lv_iinc (v := (nI (k + 1))) (lv' := [(4, .int (nI (k + 1))), (3, .int (nI (a + 1))), (5, .int (nI 1)), (0, .ref d), (1, .int (nI j)), (2, .int (nI 7))]) hx hb dX6_overCells_99 hl (k := 5) rfl (nI_inc _) (by decide) rfl (fun ls hl => ?_)
          refine lv_goto (tgt := 5) hx hb dX6_overCells_102 (by decide) ?_
          exact ih  (k + 1) (a + 1) (by omega) (by omega) (by unfold zcnt; rw [← ha]; simp [h2]) _ _ hH hS _ (lv_sub hl [3, 4, 5, 1, 0] rfl)
  exact L5 61 0 0 (by omega) (by omega) rfl _ _ hH hS _ (lv_sub hl [2, 3, 4, 1, 0] rfl)

set_option maxHeartbeats 4000000 in
set_option maxRecDepth 100000 in
theorem c_X6_overCells_10 (l : Launch) (G : zG) (B0 : Nat) (M : Mm) (d : Nat) (sc : Nat → Int32) (X : Nat → Nat → Int32) (hM : Md G d sc X M) (v : Wv) (hms : MS v X) (hv : wOk v) (j : Nat) (hj : j < v 0) : zMet l yX6_overCells cX6_overCells 6 (some .int) 3 0 0 G B0 M [.ref d, .int (nI j), .int (nI 10)] (some (.int (nI (zsum (cv v j) 60)))) (fun M1 => M = M1) := by
  refine z_met RX6 [(0, .ref d), (1, .int (nI j)), (2, .int (nI 10))] (by decide) rfl (Nat.le_of_ble_eq_true rfl) rfl ?_
  intro pg ev s m below meth cd ls hE hin hB0 hH hl
  have hx := hE.1
  have hb := hE.2.1
  have hn : v 0 ≤ 12 := hv.1
  have hA := hM.s hms
  refine z_gen B0 (fun H locs hH hS => ?_) hH
  refine n_iconst hx hb 0 dX6_overCells_0 (by decide) ?_
  refine lv_istore_n (lv' := [(3, .int (nI 0)), (0, .ref d), (1, .int (nI j)), (2, .int (nI 10))]) hx hb dX6_overCells_1 rfl hl (by decide) rfl (fun ls hl => ?_)
  refine n_iconst hx hb 0 dX6_overCells_2 (by decide) ?_
  refine lv_istore (lv' := [(4, .int (nI 0)), (3, .int (nI 0)), (0, .ref d), (1, .int (nI j)), (2, .int (nI 10))]) hx hb dX6_overCells_3 hl (by decide) rfl (fun ls hl => ?_)
  have L5 : ∀ (dd : Nat) (k : Nat) (a : Nat), 60 < k + dd → (k ≤ 60) → (a = zsum (cv v j) k) → ∀ (H : Heap) (locs : List Loc), zH G M H → zS 0 B0 s.heap H locs → ∀ (ls : Array Slot), lv_has ls 6 [(0, .ref d), (1, .int (nI j)), (2, .int (nI 10)), (3, .int (nI a)), (4, .int (nI k))] → zW pg l ev 3 0 0 s m [.ref d, .int (nI j), .int (nI 10)] below meth cd H locs 0 0 G B0 (some (.int (nI (zsum (cv v j) 60)))) (fun M1 => M = M1) (F0 m 5 ls []) := by
    intro dd
    induction dd with
    | zero =>
      intro k a hdd hk ha
      exact absurd hdd (by omega)
    | succ dd ih =>
      intro k a hdd hk ha H locs hH hS ls hl
      refine lv_iload hx hb dX6_overCells_5 (lv_at hl 4 rfl) ?_
      refine n_bipush hx hb 60 dX6_overCells_7 (by decide) ?_
      refine n_cmp_ge (tgt := 105) hx hb (by omega) (by decide) dX6_overCells_9 (by decide) (fun h1 => ?_) (fun h1 => ?_)
      · refine lv_iload_n hx hb dX6_overCells_105 rfl (lv_at hl 3 rfl) ?_
        exact z_iret hE hH hS (by have hkk : k = 60 := (by omega); subst hkk; rw [ha]; first | done | rfl) rfl dX6_overCells_106
      · refine lv_iload_n hx hb dX6_overCells_12 rfl (lv_at hl 2 rfl) ?_
        refine n_iconst hx hb 5 dX6_overCells_13 (by decide) ?_
        refine n_cmp_ne (tgt := 37) hx hb (by decide) (by decide) dX6_overCells_14 (by decide) (fun _ => ?_) (fun h => absurd h (by decide))
        refine lv_iload_n hx hb dX6_overCells_37 rfl (lv_at hl 2 rfl) ?_
        refine n_bipush hx hb 6 dX6_overCells_38 (by decide) ?_
        refine n_cmp_ne (tgt := 61) hx hb (by decide) (by decide) dX6_overCells_40 (by decide) (fun _ => ?_) (fun h => absurd h (by decide))
        refine lv_iload_n hx hb dX6_overCells_61 rfl (lv_at hl 2 rfl) ?_
        refine n_bipush hx hb 7 dX6_overCells_62 (by decide) ?_
        refine n_cmp_ne (tgt := 71) hx hb (by decide) (by decide) dX6_overCells_64 (by decide) (fun _ => ?_) (fun h => absurd h (by decide))
        refine lv_aload_n hx hb dX6_overCells_71 rfl (lv_at hl 0 rfl) ?_
        refine lv_iload_n hx hb dX6_overCells_72 rfl (lv_at hl 1 rfl) ?_
        refine lv_iload hx hb dX6_overCells_73 (lv_at hl 4 rfl) ?_
        refine z_callV (rest := []) (st2 := [.int (nI (cv v j k))]) hE hH hS hB0 hl ca_X6_has mkX6_57 (c_X6_has l G B0 M d sc X hM v hms hv j k (by omega) (by omega)) hM.1 rfl rfl rfl rfl rfl ⟨Nat.le_of_ble_eq_true rfl, Nat.le_of_ble_eq_true rfl⟩ (Nat.le_of_ble_eq_true rfl) ⟨Nat.le_refl _, Nat.le_refl _⟩ dX6_overCells_75 (fun H locs M1 hH hp hS => ?_)
        subst hp
        have q2 := hv.coat (j := j) (c := k) (by omega) (by omega)
        refine lv_istore (lv' := [(5, .int (nI (cv v j k))), (0, .ref d), (1, .int (nI j)), (2, .int (nI 10)), (3, .int (nI a)), (4, .int (nI k))]) hx hb dX6_overCells_78 hl (by decide) rfl (fun ls hl => ?_)
        refine lv_iload_n hx hb dX6_overCells_80 rfl (lv_at hl 4 rfl) ?_
        refine lv_aload_n hx hb dX6_overCells_81 rfl (lv_at hl 1 rfl) ?_
        refine lv_iload_n hx hb dX6_overCells_82 rfl (lv_at hl 2 rfl) ?_
        refine lv_iload hx hb dX6_overCells_83 (lv_at hl 5 rfl) ?_
        refine z_callV (rest := [.int (nI a)]) (st2 := [.int (zb (liesN (pv v j) (k % 10) (k / 10))), .int (nI a)]) hE hH hS hB0 hl ca_X6_lies mkX6_53 (c_X6_lies l G B0 M d sc X hM v hms hv j k (by omega) (by omega)) hM.1 rfl rfl rfl rfl rfl ⟨Nat.le_of_ble_eq_true rfl, Nat.le_of_ble_eq_true rfl⟩ (Nat.le_of_ble_eq_true rfl) ⟨Nat.le_refl _, Nat.le_refl _⟩ dX6_overCells_85 (fun H locs M1 hH hp hS => ?_)
        subst hp
        refine b_if_eq (tgt := 96) hx hb dX6_overCells_88 (by decide) (fun h3 => ?_) (fun h3 => ?_)
        · refine n_iconst hx hb 0 dX6_overCells_96 (by decide) ?_
          refine n_iadd hx hb dX6_overCells_97 ?_
          refine lv_istore_n (lv' := [(3, .int (nI (a + 0))), (5, .int (nI (cv v j k))), (0, .ref d), (1, .int (nI j)), (2, .int (nI 10)), (4, .int (nI k))]) hx hb dX6_overCells_98 rfl hl (by decide) rfl (fun ls hl => ?_)
          refine lv_iinc (v := (nI (k + 1))) (lv' := [(4, .int (nI (k + 1))), (3, .int (nI (a + 0))), (5, .int (nI (cv v j k))), (0, .ref d), (1, .int (nI j)), (2, .int (nI 10))]) hx hb dX6_overCells_99 hl (k := 5) rfl (nI_inc _) (by decide) rfl (fun ls hl => ?_)
          refine lv_goto (tgt := 5) hx hb dX6_overCells_102 (by decide) ?_
          exact ih  (k + 1) (a + 0) (by omega) (by omega) (by unfold zsum; rw [← ha]; first | done | rfl | (have hz : cv v j k = 0 := Nat.eq_zero_of_not_pos (fun q => absurd (hv.lies (by omega) (by omega) q) (by rw [h3]; decide)); rw [hz])) _ _ hH hS _ (lv_sub hl [3, 4, 5, 1, 0] rfl)
        · refine lv_iload hx hb dX6_overCells_91 (lv_at hl 0 rfl) ?_
          refine lv_goto (tgt := 97) hx hb dX6_overCells_93 (by decide) ?_
          refine n_iadd hx hb dX6_overCells_97 ?_
          refine lv_istore_n (lv' := [(3, .int (nI (a + (cv v j k)))), (5, .int (nI (cv v j k))), (0, .ref d), (1, .int (nI j)), (2, .int (nI 10)), (4, .int (nI k))]) hx hb dX6_overCells_98 rfl hl (by decide) rfl (fun ls hl => ?_)
          refine lv_iinc (v := (nI (k + 1))) (lv' := [(4, .int (nI (k + 1))), (3, .int (nI (a + (cv v j k)))), (5, .int (nI (cv v j k))), (0, .ref d), (1, .int (nI j)), (2, .int (nI 10))]) hx hb dX6_overCells_99 hl (k := 5) rfl (nI_inc _) (by decide) rfl (fun ls hl => ?_)
          refine lv_goto (tgt := 5) hx hb dX6_overCells_102 (by decide) ?_
          exact ih  (k + 1) (a + (cv v j k)) (by omega) (by omega) (by unfold zsum; rw [← ha]; first | done | rfl | (have hz : cv v j k = 0 := Nat.eq_zero_of_not_pos (fun q => absurd (hv.lies (by omega) (by omega) q) (by rw [h3]; decide)); rw [hz])) _ _ hH hS _ (lv_sub hl [3, 4, 5, 1, 0] rfl)
  exact L5 61 0 0 (by omega) (by omega) rfl _ _ hH hS _ (lv_sub hl [2, 3, 4, 1, 0] rfl)

set_option maxHeartbeats 4000000 in
set_option maxRecDepth 100000 in
theorem c_X6_lyingAt (l : Launch) (G : zG) (B0 : Nat) (M : Mm) (d : Nat) (sc : Nat → Int32) (X : Nat → Nat → Int32) (hM : Md G d sc X M) (v : Wv) (hms : MS v X) (hv : wOk v) (c u : Nat) (hc : c < 60) (hu : u ≤ 1) : zMet l yX6_lyingAt cX6_lyingAt 5 (some .int) 2 0 0 G B0 M [.ref d, .int (nI c), .int (nI u)] (some (.int (nI (lyC v c u)))) (fun M1 => M = M1) := by
  refine z_met RX6 [(0, .ref d), (1, .int (nI c)), (2, .int (nI u))] (by decide) rfl (Nat.le_of_ble_eq_true rfl) rfl ?_
  intro pg ev s m below meth cd ls hE hin hB0 hH hl
  have hx := hE.1
  have hb := hE.2.1
  have hn : v 0 ≤ 12 := hv.1
  have hA := hM.s hms
  refine z_gen B0 (fun H locs hH hS => ?_) hH
  refine n_iconst hx hb 0 dX6_lyingAt_0 (by decide) ?_
  refine lv_istore_n (lv' := [(3, .int (nI 0)), (0, .ref d), (1, .int (nI c)), (2, .int (nI u))]) hx hb dX6_lyingAt_1 rfl hl (by decide) rfl (fun ls hl => ?_)
  refine n_iconst hx hb 0 dX6_lyingAt_2 (by decide) ?_
  refine lv_istore (lv' := [(4, .int (nI 0)), (3, .int (nI 0)), (0, .ref d), (1, .int (nI c)), (2, .int (nI u))]) hx hb dX6_lyingAt_3 hl (by decide) rfl (fun ls hl => ?_)
  have L5 : ∀ (dd : Nat) (k : Nat) (a : Nat), v 0 < k + dd → (k ≤ v 0) → (a = zcnt (fun j => liesN (pv v j) (c % 10) (c / 10) && (decide (u = 0) || decide (0 < cv v j c))) k) → ∀ (H : Heap) (locs : List Loc), zH G M H → zS 0 B0 s.heap H locs → ∀ (ls : Array Slot), lv_has ls 5 [(0, .ref d), (1, .int (nI c)), (2, .int (nI u)), (3, .int (nI a)), (4, .int (nI k))] → zW pg l ev 2 0 0 s m [.ref d, .int (nI c), .int (nI u)] below meth cd H locs 0 0 G B0 (some (.int (nI (lyC v c u)))) (fun M1 => M = M1) (F0 m 5 ls []) := by
    intro dd
    induction dd with
    | zero =>
      intro k a hdd hk ha
      exact absurd hdd (by omega)
    | succ dd ih =>
      intro k a hdd hk ha H locs hH hS ls hl
      refine lv_iload hx hb dX6_lyingAt_5 (lv_at hl 4 rfl) ?_
      refine lv_aload_n hx hb dX6_lyingAt_7 rfl (lv_at hl 0 rfl) ?_
      refine z_get (T := TX6) (v := .ref (d + 1)) hE hH hM.1 rfl uw_X6 1 (by decide) fkX6_7 rfl dX6_lyingAt_8 ?_
      refine n_iconst hx hb 0 dX6_lyingAt_11 (by decide) ?_
      refine z_iald hE hH hA (k := 0) (by omega) (by decide) dX6_lyingAt_12 ?_
      refine n_cmp_ge (tgt := 54) hx hb (by omega) (by omega) dX6_lyingAt_13 (by decide) (fun h1 => ?_) (fun h1 => ?_)
      · refine lv_iload_n hx hb dX6_lyingAt_54 rfl (lv_at hl 3 rfl) ?_
        exact z_iret hE hH hS (by have hkk : k = v 0 := (by omega); subst hkk; rw [ha]; first | done | rfl) rfl dX6_lyingAt_55
      · refine lv_iload_n hx hb dX6_lyingAt_16 rfl (lv_at hl 3 rfl) ?_
        refine lv_aload_n hx hb dX6_lyingAt_17 rfl (lv_at hl 0 rfl) ?_
        refine lv_iload hx hb dX6_lyingAt_18 (lv_at hl 4 rfl) ?_
        refine lv_iload_n hx hb dX6_lyingAt_20 rfl (lv_at hl 1 rfl) ?_
        refine z_callV (rest := [.int (nI a)]) (st2 := [.int (zb (liesN (pv v k) (c % 10) (c / 10))), .int (nI a)]) hE hH hS hB0 hl ca_X6_lies mkX6_53 (c_X6_lies l G B0 M d sc X hM v hms hv k c (by omega) (by omega)) hM.1 rfl rfl rfl rfl rfl ⟨Nat.le_of_ble_eq_true rfl, Nat.le_of_ble_eq_true rfl⟩ (Nat.le_of_ble_eq_true rfl) ⟨Nat.le_refl _, Nat.le_refl _⟩ dX6_lyingAt_21 (fun H locs M1 hH hp hS => ?_)
        subst hp
        refine b_if_eq (tgt := 45) hx hb dX6_lyingAt_24 (by decide) (fun h2 => ?_) (fun h2 => ?_)
        · refine n_iconst hx hb 0 dX6_lyingAt_45 (by decide) ?_
          refine n_iadd hx hb dX6_lyingAt_46 ?_
          refine lv_istore_n (lv' := [(3, .int (nI (a + 0))), (0, .ref d), (1, .int (nI c)), (2, .int (nI u)), (4, .int (nI k))]) hx hb dX6_lyingAt_47 rfl hl (by decide) rfl (fun ls hl => ?_)
          refine lv_iinc (v := (nI (k + 1))) (lv' := [(4, .int (nI (k + 1))), (3, .int (nI (a + 0))), (0, .ref d), (1, .int (nI c)), (2, .int (nI u))]) hx hb dX6_lyingAt_48 hl (k := 4) rfl (nI_inc _) (by decide) rfl (fun ls hl => ?_)
          refine lv_goto (tgt := 5) hx hb dX6_lyingAt_51 (by decide) ?_
          exact ih  (k + 1) (a + 0) (by omega) (by omega) (by unfold zcnt; rw [← ha]; simp [h2]; try omega) _ _ hH hS _ (lv_sub hl [2, 3, 4, 1, 0] rfl)
        · refine lv_iload_n hx hb dX6_lyingAt_27 rfl (lv_at hl 2 rfl) ?_
          refine n_if_eq (tgt := 41) hx hb (by omega) dX6_lyingAt_28 (by decide) (fun h3 => ?_) (fun h3 => ?_)
          · refine n_iconst hx hb 1 dX6_lyingAt_41 (by decide) ?_
            refine lv_goto (tgt := 46) hx hb dX6_lyingAt_42 (by decide) ?_
            refine n_iadd hx hb dX6_lyingAt_46 ?_
            refine lv_istore_n (lv' := [(3, .int (nI (a + 1))), (0, .ref d), (1, .int (nI c)), (2, .int (nI u)), (4, .int (nI k))]) hx hb dX6_lyingAt_47 rfl hl (by decide) rfl (fun ls hl => ?_)
            refine lv_iinc (v := (nI (k + 1))) (lv' := [(4, .int (nI (k + 1))), (3, .int (nI (a + 1))), (0, .ref d), (1, .int (nI c)), (2, .int (nI u))]) hx hb dX6_lyingAt_48 hl (k := 4) rfl (nI_inc _) (by decide) rfl (fun ls hl => ?_)
            refine lv_goto (tgt := 5) hx hb dX6_lyingAt_51 (by decide) ?_
            exact ih  (k + 1) (a + 1) (by omega) (by omega) (by unfold zcnt; rw [← ha]; simp [h2, h3]; try omega) _ _ hH hS _ (lv_sub hl [2, 3, 4, 1, 0] rfl)
          · refine lv_aload_n hx hb dX6_lyingAt_31 rfl (lv_at hl 0 rfl) ?_
            refine lv_iload hx hb dX6_lyingAt_32 (lv_at hl 4 rfl) ?_
            refine lv_iload_n hx hb dX6_lyingAt_34 rfl (lv_at hl 1 rfl) ?_
            refine z_callV (rest := [.int (nI a)]) (st2 := [.int (nI (cv v k c)), .int (nI a)]) hE hH hS hB0 hl ca_X6_has mkX6_57 (c_X6_has l G B0 M d sc X hM v hms hv k c (by omega) (by omega)) hM.1 rfl rfl rfl rfl rfl ⟨Nat.le_of_ble_eq_true rfl, Nat.le_of_ble_eq_true rfl⟩ (Nat.le_of_ble_eq_true rfl) ⟨Nat.le_refl _, Nat.le_refl _⟩ dX6_lyingAt_35 (fun H locs M1 hH hp hS => ?_)
            subst hp
            have q4 := hv.coat (j := k) (c := c) (by omega) (by omega)
            refine n_if_le (tgt := 45) hx hb (by omega) dX6_lyingAt_38 (by decide) (fun h5 => ?_) (fun h5 => ?_)
            · refine n_iconst hx hb 0 dX6_lyingAt_45 (by decide) ?_
              refine n_iadd hx hb dX6_lyingAt_46 ?_
              refine lv_istore_n (lv' := [(3, .int (nI (a + 0))), (0, .ref d), (1, .int (nI c)), (2, .int (nI u)), (4, .int (nI k))]) hx hb dX6_lyingAt_47 rfl hl (by decide) rfl (fun ls hl => ?_)
              refine lv_iinc (v := (nI (k + 1))) (lv' := [(4, .int (nI (k + 1))), (3, .int (nI (a + 0))), (0, .ref d), (1, .int (nI c)), (2, .int (nI u))]) hx hb dX6_lyingAt_48 hl (k := 4) rfl (nI_inc _) (by decide) rfl (fun ls hl => ?_)
              refine lv_goto (tgt := 5) hx hb dX6_lyingAt_51 (by decide) ?_
              exact ih  (k + 1) (a + 0) (by omega) (by omega) (by unfold zcnt; rw [← ha]; simp [h2, h3, h5]; try omega) _ _ hH hS _ (lv_sub hl [2, 3, 4, 1, 0] rfl)
            · refine n_iconst hx hb 1 dX6_lyingAt_41 (by decide) ?_
              refine lv_goto (tgt := 46) hx hb dX6_lyingAt_42 (by decide) ?_
              refine n_iadd hx hb dX6_lyingAt_46 ?_
              refine lv_istore_n (lv' := [(3, .int (nI (a + 1))), (0, .ref d), (1, .int (nI c)), (2, .int (nI u)), (4, .int (nI k))]) hx hb dX6_lyingAt_47 rfl hl (by decide) rfl (fun ls hl => ?_)
              refine lv_iinc (v := (nI (k + 1))) (lv' := [(4, .int (nI (k + 1))), (3, .int (nI (a + 1))), (0, .ref d), (1, .int (nI c)), (2, .int (nI u))]) hx hb dX6_lyingAt_48 hl (k := 4) rfl (nI_inc _) (by decide) rfl (fun ls hl => ?_)
              refine lv_goto (tgt := 5) hx hb dX6_lyingAt_51 (by decide) ?_
              exact ih  (k + 1) (a + 1) (by omega) (by omega) (by unfold zcnt; rw [← ha]; simp [h2, h3, h5]; try omega) _ _ hH hS _ (lv_sub hl [2, 3, 4, 1, 0] rfl)
  exact L5 (v 0 + 1) 0 0 (by omega) (by omega) rfl _ _ hH hS _ (lv_sub hl [2, 3, 4, 1, 0] rfl)

set_option maxHeartbeats 4000000 in
set_option maxRecDepth 100000 in
theorem c_X6_overPosters_6 (l : Launch) (G : zG) (B0 : Nat) (M : Mm) (d : Nat) (sc : Nat → Int32) (X : Nat → Nat → Int32) (hM : Md G d sc X M) (v : Wv) (hms : MS v X) (hv : wOk v) : zMet l yX6_overPosters cX6_overPosters 4 (some .int) 4 0 0 G B0 M [.ref d, .int (nI 6)] (some (.int (nI (unseenCnt v)))) (fun M1 => M = M1) := by
  refine z_met RX6 [(0, .ref d), (1, .int (nI 6))] (by decide) rfl (Nat.le_of_ble_eq_true rfl) rfl ?_
  intro pg ev s m below meth cd ls hE hin hB0 hH hl
  have hx := hE.1
  have hb := hE.2.1
  have hn : v 0 ≤ 12 := hv.1
  have hA := hM.s hms
  refine z_gen B0 (fun H locs hH hS => ?_) hH
  refine n_iconst hx hb 0 dX6_overPosters_0 (by decide) ?_
  refine lv_istore_n (lv' := [(2, .int (nI 0)), (0, .ref d), (1, .int (nI 6))]) hx hb dX6_overPosters_1 rfl hl (by decide) rfl (fun ls hl => ?_)
  refine n_iconst hx hb 0 dX6_overPosters_2 (by decide) ?_
  refine lv_istore_n (lv' := [(3, .int (nI 0)), (2, .int (nI 0)), (0, .ref d), (1, .int (nI 6))]) hx hb dX6_overPosters_3 rfl hl (by decide) rfl (fun ls hl => ?_)
  have L4 : ∀ (dd : Nat) (k : Nat) (a : Nat), v 0 < k + dd → (k ≤ v 0) → (a = zcnt (fun j => decide (seenCnt v j = 0)) k) → ∀ (H : Heap) (locs : List Loc), zH G M H → zS 0 B0 s.heap H locs → ∀ (ls : Array Slot), lv_has ls 4 [(0, .ref d), (1, .int (nI 6)), (2, .int (nI a)), (3, .int (nI k))] → zW pg l ev 4 0 0 s m [.ref d, .int (nI 6)] below meth cd H locs 0 0 G B0 (some (.int (nI (unseenCnt v)))) (fun M1 => M = M1) (F0 m 4 ls []) := by
    intro dd
    induction dd with
    | zero =>
      intro k a hdd hk ha
      exact absurd hdd (by omega)
    | succ dd ih =>
      intro k a hdd hk ha H locs hH hS ls hl
      refine lv_iload_n hx hb dX6_overPosters_4 rfl (lv_at hl 3 rfl) ?_
      refine lv_aload_n hx hb dX6_overPosters_5 rfl (lv_at hl 0 rfl) ?_
      refine z_get (T := TX6) (v := .ref (d + 1)) hE hH hM.1 rfl uw_X6 1 (by decide) fkX6_7 rfl dX6_overPosters_6 ?_
      refine n_iconst hx hb 0 dX6_overPosters_9 (by decide) ?_
      refine z_iald hE hH hA (k := 0) (by omega) (by decide) dX6_overPosters_10 ?_
      refine n_cmp_ge (tgt := 61) hx hb (by omega) (by omega) dX6_overPosters_11 (by decide) (fun h1 => ?_) (fun h1 => ?_)
      · refine lv_iload_n hx hb dX6_overPosters_61 rfl (lv_at hl 2 rfl) ?_
        exact z_iret hE hH hS (by have hkk : k = v 0 := (by omega); subst hkk; rw [ha]; first | done | rfl) rfl dX6_overPosters_62
      · refine lv_iload_n hx hb dX6_overPosters_14 rfl (lv_at hl 2 rfl) ?_
        refine lv_iload_n hx hb dX6_overPosters_15 rfl (lv_at hl 1 rfl) ?_
        refine n_bipush hx hb 6 dX6_overPosters_16 (by decide) ?_
        refine n_cmp_ne (tgt := 38) hx hb (by decide) (by decide) dX6_overPosters_18 (by decide) (fun h => absurd rfl h) (fun _ => ?_)
        refine lv_aload_n hx hb dX6_overPosters_21 rfl (lv_at hl 0 rfl) ?_
        refine lv_iload_n hx hb dX6_overPosters_22 rfl (lv_at hl 3 rfl) ?_
        refine n_iconst hx hb 5 dX6_overPosters_23 (by decide) ?_
        refine z_callV (rest := [.int (nI a)]) (st2 := [.int (nI (seenCnt v k)), .int (nI a)]) hE hH hS hB0 hl ca_X6_overCells mkX6_88 (c_X6_overCells_5 l G B0 M d sc X hM v hms hv k (by omega)) hM.1 rfl rfl rfl rfl rfl ⟨Nat.le_of_ble_eq_true rfl, Nat.le_of_ble_eq_true rfl⟩ (Nat.le_of_ble_eq_true rfl) ⟨Nat.le_refl _, Nat.le_refl _⟩ dX6_overPosters_24 (fun H locs M1 hH hp hS => ?_)
        subst hp
        have q2 := seenCnt_le v k
        refine n_if_ne (tgt := 34) hx hb (by omega) dX6_overPosters_27 (by decide) (fun h3 => ?_) (fun h3 => ?_)
        · refine n_iconst hx hb 0 dX6_overPosters_34 (by decide) ?_
          refine lv_goto (tgt := 53) hx hb dX6_overPosters_35 (by decide) ?_
          refine n_iadd hx hb dX6_overPosters_53 ?_
          refine lv_istore_n (lv' := [(2, .int (nI (a + 0))), (0, .ref d), (1, .int (nI 6)), (3, .int (nI k))]) hx hb dX6_overPosters_54 rfl hl (by decide) rfl (fun ls hl => ?_)
          refine lv_iinc (v := (nI (k + 1))) (lv' := [(3, .int (nI (k + 1))), (2, .int (nI (a + 0))), (0, .ref d), (1, .int (nI 6))]) hx hb dX6_overPosters_55 hl (k := 3) rfl (nI_inc _) (by decide) rfl (fun ls hl => ?_)
          refine lv_goto (tgt := 4) hx hb dX6_overPosters_58 (by decide) ?_
          exact ih  (k + 1) (a + 0) (by omega) (by omega) (by unfold zcnt; rw [← ha]; simp [h3]; try omega) _ _ hH hS _ (lv_sub hl [2, 3, 1, 0] rfl)
        · refine n_iconst hx hb 1 dX6_overPosters_30 (by decide) ?_
          refine lv_goto (tgt := 53) hx hb dX6_overPosters_31 (by decide) ?_
          refine n_iadd hx hb dX6_overPosters_53 ?_
          refine lv_istore_n (lv' := [(2, .int (nI (a + 1))), (0, .ref d), (1, .int (nI 6)), (3, .int (nI k))]) hx hb dX6_overPosters_54 rfl hl (by decide) rfl (fun ls hl => ?_)
          refine lv_iinc (v := (nI (k + 1))) (lv' := [(3, .int (nI (k + 1))), (2, .int (nI (a + 1))), (0, .ref d), (1, .int (nI 6))]) hx hb dX6_overPosters_55 hl (k := 3) rfl (nI_inc _) (by decide) rfl (fun ls hl => ?_)
          refine lv_goto (tgt := 4) hx hb dX6_overPosters_58 (by decide) ?_
          exact ih  (k + 1) (a + 1) (by omega) (by omega) (by unfold zcnt; rw [← ha]; simp [h3]; try omega) _ _ hH hS _ (lv_sub hl [2, 3, 1, 0] rfl)
  exact L4 (v 0 + 1) 0 0 (by omega) (by omega) rfl _ _ hH hS _ (lv_sub hl [2, 3, 1, 0] rfl)

def allV (v : Wv) : Nat := zcnt (fun j => decide (zsum (cv v j) 60 = 0)) (v 0)

set_option maxHeartbeats 4000000 in
set_option maxRecDepth 100000 in
theorem c_X6_overPosters_7 (l : Launch) (G : zG) (B0 : Nat) (M : Mm) (d : Nat) (sc : Nat → Int32) (X : Nat → Nat → Int32) (hM : Md G d sc X M) (v : Wv) (hms : MS v X) (hv : wOk v) : zMet l yX6_overPosters cX6_overPosters 4 (some .int) 4 0 0 G B0 M [.ref d, .int (nI 7)] (some (.int (nI (allV v)))) (fun M1 => M = M1) := by
  refine z_met RX6 [(0, .ref d), (1, .int (nI 7))] (by decide) rfl (Nat.le_of_ble_eq_true rfl) rfl ?_
  intro pg ev s m below meth cd ls hE hin hB0 hH hl
  have hx := hE.1
  have hb := hE.2.1
  have hn : v 0 ≤ 12 := hv.1
  have hA := hM.s hms
  refine z_gen B0 (fun H locs hH hS => ?_) hH
  refine n_iconst hx hb 0 dX6_overPosters_0 (by decide) ?_
  refine lv_istore_n (lv' := [(2, .int (nI 0)), (0, .ref d), (1, .int (nI 7))]) hx hb dX6_overPosters_1 rfl hl (by decide) rfl (fun ls hl => ?_)
  refine n_iconst hx hb 0 dX6_overPosters_2 (by decide) ?_
  refine lv_istore_n (lv' := [(3, .int (nI 0)), (2, .int (nI 0)), (0, .ref d), (1, .int (nI 7))]) hx hb dX6_overPosters_3 rfl hl (by decide) rfl (fun ls hl => ?_)
  have L4 : ∀ (dd : Nat) (k : Nat) (a : Nat), v 0 < k + dd → (k ≤ v 0) → (a = zcnt (fun j => decide (zsum (cv v j) 60 = 0)) k) → ∀ (H : Heap) (locs : List Loc), zH G M H → zS 0 B0 s.heap H locs → ∀ (ls : Array Slot), lv_has ls 4 [(0, .ref d), (1, .int (nI 7)), (2, .int (nI a)), (3, .int (nI k))] → zW pg l ev 4 0 0 s m [.ref d, .int (nI 7)] below meth cd H locs 0 0 G B0 (some (.int (nI (allV v)))) (fun M1 => M = M1) (F0 m 4 ls []) := by
    intro dd
    induction dd with
    | zero =>
      intro k a hdd hk ha
      exact absurd hdd (by omega)
    | succ dd ih =>
      intro k a hdd hk ha H locs hH hS ls hl
      refine lv_iload_n hx hb dX6_overPosters_4 rfl (lv_at hl 3 rfl) ?_
      refine lv_aload_n hx hb dX6_overPosters_5 rfl (lv_at hl 0 rfl) ?_
      refine z_get (T := TX6) (v := .ref (d + 1)) hE hH hM.1 rfl uw_X6 1 (by decide) fkX6_7 rfl dX6_overPosters_6 ?_
      refine n_iconst hx hb 0 dX6_overPosters_9 (by decide) ?_
      refine z_iald hE hH hA (k := 0) (by omega) (by decide) dX6_overPosters_10 ?_
      refine n_cmp_ge (tgt := 61) hx hb (by omega) (by omega) dX6_overPosters_11 (by decide) (fun h1 => ?_) (fun h1 => ?_)
      · refine lv_iload_n hx hb dX6_overPosters_61 rfl (lv_at hl 2 rfl) ?_
        exact z_iret hE hH hS (by have hkk : k = v 0 := (by omega); subst hkk; rw [ha]; first | done | rfl) rfl dX6_overPosters_62
      · refine lv_iload_n hx hb dX6_overPosters_14 rfl (lv_at hl 2 rfl) ?_
        refine lv_iload_n hx hb dX6_overPosters_15 rfl (lv_at hl 1 rfl) ?_
        refine n_bipush hx hb 6 dX6_overPosters_16 (by decide) ?_
        refine n_cmp_ne (tgt := 38) hx hb (by decide) (by decide) dX6_overPosters_18 (by decide) (fun _ => ?_) (fun h => absurd h (by decide))
        refine lv_aload_n hx hb dX6_overPosters_38 rfl (lv_at hl 0 rfl) ?_
        refine lv_iload_n hx hb dX6_overPosters_39 rfl (lv_at hl 3 rfl) ?_
        refine n_bipush hx hb 10 dX6_overPosters_40 (by decide) ?_
        refine z_callV (rest := [.int (nI a)]) (st2 := [.int (nI (zsum (cv v k) 60)), .int (nI a)]) hE hH hS hB0 hl ca_X6_overCells mkX6_88 (c_X6_overCells_10 l G B0 M d sc X hM v hms hv k (by omega)) hM.1 rfl rfl rfl rfl rfl ⟨Nat.le_of_ble_eq_true rfl, Nat.le_of_ble_eq_true rfl⟩ (Nat.le_of_ble_eq_true rfl) ⟨Nat.le_refl _, Nat.le_refl _⟩ dX6_overPosters_42 (fun H locs M1 hH hp hS => ?_)
        subst hp
        have q2 : zsum (cv v k) 60 ≤ 5940 := zsum_le (fun k hk => hv.coat (by omega) hk)
        refine n_if_ne (tgt := 52) hx hb (by omega) dX6_overPosters_45 (by decide) (fun h3 => ?_) (fun h3 => ?_)
        · refine n_iconst hx hb 0 dX6_overPosters_52 (by decide) ?_
          refine n_iadd hx hb dX6_overPosters_53 ?_
          refine lv_istore_n (lv' := [(2, .int (nI (a + 0))), (0, .ref d), (1, .int (nI 7)), (3, .int (nI k))]) hx hb dX6_overPosters_54 rfl hl (by decide) rfl (fun ls hl => ?_)
          refine lv_iinc (v := (nI (k + 1))) (lv' := [(3, .int (nI (k + 1))), (2, .int (nI (a + 0))), (0, .ref d), (1, .int (nI 7))]) hx hb dX6_overPosters_55 hl (k := 3) rfl (nI_inc _) (by decide) rfl (fun ls hl => ?_)
          refine lv_goto (tgt := 4) hx hb dX6_overPosters_58 (by decide) ?_
          exact ih  (k + 1) (a + 0) (by omega) (by omega) (by unfold zcnt; rw [← ha]; simp [h3]; try omega) _ _ hH hS _ (lv_sub hl [2, 3, 1, 0] rfl)
        · refine n_iconst hx hb 1 dX6_overPosters_48 (by decide) ?_
          refine lv_goto (tgt := 53) hx hb dX6_overPosters_49 (by decide) ?_
          refine n_iadd hx hb dX6_overPosters_53 ?_
          refine lv_istore_n (lv' := [(2, .int (nI (a + 1))), (0, .ref d), (1, .int (nI 7)), (3, .int (nI k))]) hx hb dX6_overPosters_54 rfl hl (by decide) rfl (fun ls hl => ?_)
          refine lv_iinc (v := (nI (k + 1))) (lv' := [(3, .int (nI (k + 1))), (2, .int (nI (a + 1))), (0, .ref d), (1, .int (nI 7))]) hx hb dX6_overPosters_55 hl (k := 3) rfl (nI_inc _) (by decide) rfl (fun ls hl => ?_)
          refine lv_goto (tgt := 4) hx hb dX6_overPosters_58 (by decide) ?_
          exact ih  (k + 1) (a + 1) (by omega) (by omega) (by unfold zcnt; rw [← ha]; simp [h3]; try omega) _ _ hH hS _ (lv_sub hl [2, 3, 1, 0] rfl)
  exact L4 (v 0 + 1) 0 0 (by omega) (by omega) rfl _ _ hH hS _ (lv_sub hl [2, 3, 1, 0] rfl)

def othN (v : Wv) (Z : Nat → Option Nat) : Nat := zcnt (fun c => decide (prc v (-6) c ≠ Z c)) 60

set_option maxHeartbeats 4000000 in
set_option maxRecDepth 100000 in
theorem c_X6_others (l : Launch) (G : zG) (B0 : Nat) (M : Mm) (d : Nat) (sc : Nat → Int32) (X : Nat → Nat → Int32) (hM : Md G d sc X M) (v : Wv) (hms : MS v X) (hv : wOk v) (Z : Nat → Option Nat) (hZ : ∀ k, k < 60 → X 8 k = oI (Z k)) (hob0 : ∀ k j, Z k = some j → j < 2 ^ 31) : zMet l yX6_others cX6_others 3 (some .int) 4 0 0 G B0 M [.ref d] (some (.int (nI (othN v Z)))) (fun M1 => M = M1) := by
  refine z_met RX6 [(0, .ref d)] (by decide) rfl (Nat.le_of_ble_eq_true rfl) rfl ?_
  intro pg ev s m below meth cd ls hE hin hB0 hH hl
  have hx := hE.1
  have hb := hE.2.1
  have hn : v 0 ≤ 12 := hv.1
  have hA := hM.s hms
  have hZ8 : zArr G 0 M (d + 8) 60 (fun k => oI (Z k)) := (hM.2 8 (by decide) (by decide)).to hZ
  refine z_gen B0 (fun H locs hH hS => ?_) hH
  refine n_iconst hx hb 0 dX6_others_0 (by decide) ?_
  refine lv_istore_n (lv' := [(1, .int (nI 0)), (0, .ref d)]) hx hb dX6_others_1 rfl hl (by decide) rfl (fun ls hl => ?_)
  refine n_iconst hx hb 0 dX6_others_2 (by decide) ?_
  refine lv_istore_n (lv' := [(2, .int (nI 0)), (1, .int (nI 0)), (0, .ref d)]) hx hb dX6_others_3 rfl hl (by decide) rfl (fun ls hl => ?_)
  have L4 : ∀ (dd : Nat) (k : Nat) (a : Nat), 60 < k + dd → (k ≤ 60) → (a = zcnt (fun c => decide (prc v (-6) c ≠ Z c)) k) → ∀ (H : Heap) (locs : List Loc), zH G M H → zS 0 B0 s.heap H locs → ∀ (ls : Array Slot), lv_has ls 3 [(0, .ref d), (1, .int (nI a)), (2, .int (nI k))] → zW pg l ev 4 0 0 s m [.ref d] below meth cd H locs 0 0 G B0 (some (.int (nI (othN v Z)))) (fun M1 => M = M1) (F0 m 4 ls []) := by
    intro dd
    induction dd with
    | zero =>
      intro k a hdd hk ha
      exact absurd hdd (by omega)
    | succ dd ih =>
      intro k a hdd hk ha H locs hH hS ls hl
      refine lv_iload_n hx hb dX6_others_4 rfl (lv_at hl 2 rfl) ?_
      refine n_bipush hx hb 60 dX6_others_5 (by decide) ?_
      refine n_cmp_ge (tgt := 38) hx hb (by omega) (by decide) dX6_others_7 (by decide) (fun h1 => ?_) (fun h1 => ?_)
      · refine lv_iload_n hx hb dX6_others_38 rfl (lv_at hl 1 rfl) ?_
        exact z_iret hE hH hS (by have hkk : k = 60 := (by omega); subst hkk; rw [ha]; first | done | rfl) rfl dX6_others_39
      · refine lv_iload_n hx hb dX6_others_10 rfl (lv_at hl 1 rfl) ?_
        refine lv_aload_n hx hb dX6_others_11 rfl (lv_at hl 0 rfl) ?_
        refine lv_iload_n hx hb dX6_others_12 rfl (lv_at hl 2 rfl) ?_
        refine z_callV (rest := [.int (nI a)]) (st2 := [.int (oI (prc v (-6) k)), .int (nI a)]) hE hH hS hB0 hl ca_X6_priceAt mkX6_74 (c_X6_priceAt l G B0 M d sc X hM v hms hv k (by omega)) hM.1 rfl rfl rfl rfl rfl ⟨Nat.le_of_ble_eq_true rfl, Nat.le_of_ble_eq_true rfl⟩ (Nat.le_of_ble_eq_true rfl) ⟨Nat.le_refl _, Nat.le_refl _⟩ dX6_others_13 (fun H locs M1 hH hp hS => ?_)
        subst hp
        refine lv_aload_n hx hb dX6_others_16 rfl (lv_at hl 0 rfl) ?_
        refine z_get (T := TX6) (v := .ref (d + 8)) hE hH hM.1 rfl uw_X6 10 (by decide) fkX6_32 rfl dX6_others_17 ?_
        refine lv_iload_n hx hb dX6_others_20 rfl (lv_at hl 2 rfl) ?_
        refine z_iald hE hH hZ8 (k := k) (by omega) (by decide) dX6_others_21 ?_
        refine oo_cmp_ne (tgt := 29) hx hb (prc_ob31 hv) (hob0 _) dX6_others_22 (by decide) (fun h2 => ?_) (fun h2 => ?_)
        · refine n_iconst hx hb 1 dX6_others_29 (by decide) ?_
          refine n_iadd hx hb dX6_others_30 ?_
          refine lv_istore_n (lv' := [(1, .int (nI (a + 1))), (0, .ref d), (2, .int (nI k))]) hx hb dX6_others_31 rfl hl (by decide) rfl (fun ls hl => ?_)
          refine lv_iinc (v := (nI (k + 1))) (lv' := [(2, .int (nI (k + 1))), (1, .int (nI (a + 1))), (0, .ref d)]) hx hb dX6_others_32 hl (k := 2) rfl (nI_inc _) (by decide) rfl (fun ls hl => ?_)
          refine lv_goto (tgt := 4) hx hb dX6_others_35 (by decide) ?_
          exact ih  (k + 1) (a + 1) (by omega) (by omega) (by unfold zcnt; rw [← ha]; simp [h2]) _ _ hH hS _ (lv_sub hl [2, 1, 0] rfl)
        · refine n_iconst hx hb 0 dX6_others_25 (by decide) ?_
          refine lv_goto (tgt := 30) hx hb dX6_others_26 (by decide) ?_
          refine n_iadd hx hb dX6_others_30 ?_
          refine lv_istore_n (lv' := [(1, .int (nI (a + 0))), (0, .ref d), (2, .int (nI k))]) hx hb dX6_others_31 rfl hl (by decide) rfl (fun ls hl => ?_)
          refine lv_iinc (v := (nI (k + 1))) (lv' := [(2, .int (nI (k + 1))), (1, .int (nI (a + 0))), (0, .ref d)]) hx hb dX6_others_32 hl (k := 2) rfl (nI_inc _) (by decide) rfl (fun ls hl => ?_)
          refine lv_goto (tgt := 4) hx hb dX6_others_35 (by decide) ?_
          exact ih  (k + 1) (a + 0) (by omega) (by omega) (by unfold zcnt; rw [← ha]; simp [h2]) _ _ hH hS _ (lv_sub hl [2, 1, 0] rfl)
  exact L4 61 0 0 (by omega) (by omega) rfl _ _ hH hS _ (lv_sub hl [2, 1, 0] rfl)
