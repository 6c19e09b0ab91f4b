theorem put_div {r0 r n : Nat} (h : r = r0 / 256 ^ n) : r / 2 ^ 8 = r0 / 256 ^ (n + 1) := by
  rw [h, show (2 : Nat) ^ 8 = 256 from rfl, Nat.div_div_eq_div_mul]; rfl
theorem put_le {r0 r n : Nat} (h64 : r0 < 2 ^ 64) (h : r = r0 / 256 ^ n) : r < 2 ^ 64 := by
  rw [h]; exact Nat.lt_of_le_of_lt (Nat.div_le_self _ _) h64
theorem put_st {r0 r n : Nat} (hn : n < 8) (hr : 0 < r % 256) (h : sgF (8 - n) r n = sgF 8 r0 0) (hw : wi (nI (r % 256)) (nI 33) (nI 126) = true) : sgF (8 - (n + 1)) (r / 2 ^ 8) (n + 1) = sgF 8 r0 0 := by
  rw [← h, show 8 - n = (8 - (n + 1)) + 1 by omega, sgF_succ, if_neg (by intro q; rw [q] at hr; exact absurd hr (by decide))]
  rw [wi_N (by omega) (by decide) (by decide), Bool.and_eq_true, decide_eq_true_eq, decide_eq_true_eq] at hw
  rw [if_neg (by omega)]
theorem put_no {r0 r n : Nat} (hn : n < 8) (hr : 0 < r % 256) (h : sgF (8 - n) r n = sgF 8 r0 0) (hw : wi (nI (r % 256)) (nI 33) (nI 126) = false) : sgF 8 r0 0 = 0 := by
  rw [← h, show 8 - n = (8 - (n + 1)) + 1 by omega, sgF_succ, if_neg (by intro q; rw [q] at hr; exact absurd hr (by decide))]
  rw [wi_N (by omega) (by decide) (by decide), Bool.and_eq_false_iff, decide_eq_false_iff_not, decide_eq_false_iff_not] at hw
  rw [if_pos (by omega)]
theorem put_bad {r0 r n : Nat} {b : Bool} (h64 : r0 < 2 ^ 64) (hn : n ≤ 8) (hr : r = r0 / 256 ^ n) (hbt : b = true → sgF (8 - n) r n = sgF 8 r0 0) (hbf : b = false → sgF 8 r0 0 = 0) (hx : 8 ≤ n ∨ r % 256 = 0) (hz : n = 0 ∨ b = false ∨ 0 < r) : sgF 8 r0 0 = 0 := by
  cases b with
  | false => exact hbf rfl
  | true =>
    have h := hbt rfl
    by_cases h8 : 8 ≤ n
    · have e : n = 8 := by omega
      subst e
      have : r = 0 := by rw [hr]; exact Nat.div_eq_of_lt (by omega)
      rcases hz with q | q | q
      · exact absurd q (by decide)
      · cases q
      · omega
    · have hm : r % 256 = 0 := by omega
      rw [← h, show 8 - n = (8 - (n + 1)) + 1 by omega, sgF_succ]
      by_cases h0 : r = 0
      · rw [if_pos h0]
        rcases hz with q | q | q
        · exact q
        · cases q
        · omega
      · rw [if_neg h0, if_pos (by omega)]
theorem put_good {r0 r n : Nat} {b : Bool} (hbt : b = true → sgF (8 - n) r n = sgF 8 r0 0) (hb : b = true) (hz : r = 0) : sgF 8 r0 0 = n := by
  rw [← hbt hb, hz, sgF_0]
theorem put_ap {ps : Nat → Nat} {f : Nat → Int32} {ln r n : Nat} (hf : ∀ i, i < 60 → f i = nI (if ln ≤ i ∧ i < ln + n then (r / 256 ^ (ln + n - 1 - i)) % 256 else ps i)) : ∀ i, i < 60 → f i = nI (apS ps ln r n i) := hf
theorem put_f {ps : Nat → Nat} {f : Nat → Int32} {ln r n k : Nat} (hk : k < n) (hf : ∀ i, i < 60 → f i = nI (if ln ≤ i ∧ i < ln + k then (r / 256 ^ (ln + n - 1 - i)) % 256 else ps i)) : ∀ i, i < 60 → (if i = ln + k then nI ((r / 2 ^ (8 * (n - 1 - k))) % 256) else f i) = nI (if ln ≤ i ∧ i < ln + (k + 1) then (r / 256 ^ (ln + n - 1 - i)) % 256 else ps i) := by
  intro i hi
  by_cases h : i = ln + k
  · rw [if_pos h, if_pos (by omega), show ln + n - 1 - i = n - 1 - k by omega, Nat.pow_mul]
  · rw [if_neg h, hf i hi]
    by_cases h2 : ln ≤ i ∧ i < ln + k
    · rw [if_pos h2, if_pos (show ln ≤ i ∧ i < ln + (k + 1) by omega)]
    · rw [if_neg h2, if_neg (show ¬(ln ≤ i ∧ i < ln + (k + 1)) by omega)]

set_option maxHeartbeats 4000000 in
set_option maxRecDepth 100000 in
theorem c_X6_put (l : Launch) (G : zG) (B0 : Nat) (M : Mm) (d : Nat) (σ : Sg) (hC : Mo G d σ M) (hok : sOk σ) (hBd : B0 ≤ d) (r0 : Nat) (hr0 : r0 < 2 ^ 64) : zMet l yX6_put cX6_put 8 (some .int) 5 0 0 G B0 M [.ref d, .long (lN r0)] (some (.int (fPut σ r0).1)) (fun M1 => Mo G d (fPut σ r0).2 M1 ∧ ∀ q, (q < d ∨ d + 10 ≤ q) → M1 q = M q) := by
  refine z_met RX6 [(0, .ref d), (1, .long (lN r0))] (by decide) rfl (Nat.le_of_ble_eq_true rfl) rfl ?_
  intro pg ev s m below meth cd ls hE hin hB0 hH hl
  have hx := hE.1
  have hb := hE.2.1
  have hv : wOk σ.1 := hok.hw
  have hn : σ.1 0 ≤ 12 := hv.1
  have hdy : σ.1 1 ≤ 9999 := hok.1.2
  have hn6 : σ.2.1 ≤ 6 := hok.2.1
  have hhv : ∀ k, k < σ.2.1 → wOk (σ.2.2.1 k) := hok.hh
  have hsv : ∀ k, k < 2 → σ.2.2.2.2.1 k = true → wOk (σ.2.2.2.1 k) := hok.hs
  have hln : σ.2.2.2.2.2.1 ≤ 60 := hok.2.2.2.2.1
  have hpc : ∀ i, i < σ.2.2.2.2.2.1 → σ.2.2.2.2.2.2 i < 128 := fun i hi => by have h7 := (hok.2.2.2.2.2 i hi).2; exact Nat.lt_of_le_of_lt h7 (by decide)
  obtain ⟨t, at', w, bm, A, U, L, K, SE, SH, BU, hM, hU, hL, hK⟩ := hC
  have hA : zArr G 0 M (d + 1) 818 (fun i => nI (σ.1 i)) := hM.s (fun _ _ => rfl)
  have hF : ∀ q, (q < d ∨ d + 10 ≤ q) → M q = M q := fun _ _ => rfl
  refine z_gen B0 (fun H locs hH hS => ?_) hH
  refine lv_aload_n hx hb dX6_put_0 rfl (lv_at hl 0 rfl) ?_
  refine n_iconst hx hb 0 dX6_put_1 (by decide) ?_
  refine z_put (T := TX6) hE hH hS hM.1 rfl uw_X6 tyX6 tyX6_ok nmX6 0 (by decide) fkX6_38 rfl rfl rfl (Nat.le_of_ble_eq_true rfl) (by omega) dX6_put_2 (fun H locs M3 hH hS e1 o2 => ?_)
  have hM4 : Md G d (sg (nI 0) (nI σ.2.1) (nI σ.2.2.2.2.2.1) at' w bm) (xs σ.1 A U L K (fun i => nI (σ.2.2.2.2.2.2 i)) SE SH BU) M3 := Md.setC hM e1 o2
  have hA5 := hM4.s (fun _ _ => rfl)
  have hF6 := fun q hq => (o2 q (by omega)).trans (hF q hq)
  refine n_iconst hx hb 0 dX6_put_5 (by decide) ?_
  refine lv_istore_n (lv' := [(3, .int (nI 0)), (0, .ref d), (1, .long (lN r0))]) hx hb dX6_put_6 rfl hl (by decide) rfl (fun ls hl => ?_)
  refine lv_lload_n hx hb dX6_put_7 rfl (lv_at hl 2 rfl) ?_
  refine lv_lstore (lv' := [(4, .long (lN r0)), (3, .int (nI 0)), (0, .ref d), (1, .long (lN r0))]) hx hb dX6_put_8 hl (by decide) rfl (fun ls hl => ?_)
  refine n_iconst hx hb 1 dX6_put_10 (by decide) ?_
  refine lv_istore (lv' := [(6, .int (nI 1)), (4, .long (lN r0)), (3, .int (nI 0)), (0, .ref d), (1, .long (lN r0))]) hx hb dX6_put_11 hl (by decide) rfl (fun ls hl => ?_)
  have L13 : ∀ (dd : Nat) (n : Nat) (r : Nat) (b : Bool), 8 < n + dd → (n ≤ 8) → (r = r0 / 256 ^ n) → (b = true → sgF (8 - n) r n = sgF 8 r0 0) → (b = false → sgF 8 r0 0 = 0) → ∀ (H : Heap) (locs : List Loc), zH G M3 H → zS 0 B0 s.heap H locs → ∀ (ls : Array Slot), lv_has ls 8 [(0, .ref d), (1, .long (lN r0)), (3, .int (nI n)), (4, .long (lN r)), (6, .int (zb b))] → zW pg l ev 5 0 0 s m [.ref d, .long (lN r0)] below meth cd H locs 0 0 G B0 (some (.int (fPut σ r0).1)) (fun M1 => Mo G d (fPut σ r0).2 M1 ∧ ∀ q, (q < d ∨ d + 10 ≤ q) → M1 q = M q) (F0 m 13 ls []) := by
    intro dd
    induction dd with
    | zero =>
      intro n r b hdd hn8 hr hbt hbf
      exact absurd hdd (by omega)
    | succ dd ih =>
      intro n r b hdd hn8 hr hbt hbf H locs hH hS ls hl
      have hr64 : r < 2 ^ 64 := put_le hr0 hr
      refine lv_iload_n hx hb dX6_put_13 rfl (lv_at hl 2 rfl) ?_
      refine n_bipush hx hb 8 dX6_put_14 (by decide) ?_
      refine n_cmp_ge (tgt := 72) hx hb (by omega) (by decide) dX6_put_16 (by decide) (fun h7 => ?_) (fun h7 => ?_)
      · refine lv_iload_n hx hb dX6_put_72 rfl (lv_at hl 2 rfl) ?_
        refine n_if_eq (tgt := 88) hx hb (by omega) dX6_put_73 (by decide) (fun h8 => ?_) (fun h8 => ?_)
        · have hsg : sgF 8 r0 0 = 0 := put_bad hr0 hn8 hr hbt hbf (by first | exact Or.inl h7 | exact Or.inr h7) (by first | exact Or.inl h8 | exact Or.inr (Or.inl h8) | exact Or.inr (Or.inr h8))
          refine lv_bipush (v := (-2)) hx hb dX6_put_88 (by decide) ?_
          have hf : fPut σ r0 = ((-2), (σ.1, σ.2.1, σ.2.2.1, σ.2.2.2.1, σ.2.2.2.2.1, σ.2.2.2.2.2.1, σ.2.2.2.2.2.2)) := by
            unfold fPut
            rw [if_pos hsg]
          rw [hf]
          exact z_iret hE hH hS rfl ⟨⟨_, _, _, _, _, _, _, _, _, _, _, hM4, hU, hL, hK⟩, hF6⟩ dX6_put_90
        · refine lv_iload hx hb dX6_put_76 (lv_at hl 4 rfl) ?_
          refine b_if_eq (tgt := 88) hx hb dX6_put_78 (by decide) (fun h10 => ?_) (fun h10 => ?_)
          · have hsg : sgF 8 r0 0 = 0 := put_bad hr0 hn8 hr hbt hbf (by first | exact Or.inl h7 | exact Or.inr h7) (by first | exact Or.inl h10 | exact Or.inr (Or.inl h10) | exact Or.inr (Or.inr h10))
            refine lv_bipush (v := (-2)) hx hb dX6_put_88 (by decide) ?_
            have hf : fPut σ r0 = ((-2), (σ.1, σ.2.1, σ.2.2.1, σ.2.2.2.1, σ.2.2.2.2.1, σ.2.2.2.2.2.1, σ.2.2.2.2.2.2)) := by
              unfold fPut
              rw [if_pos hsg]
            rw [hf]
            exact z_iret hE hH hS rfl ⟨⟨_, _, _, _, _, _, _, _, _, _, _, hM4, hU, hL, hK⟩, hF6⟩ dX6_put_90
          · refine lv_lload hx hb dX6_put_81 (lv_at hl 3 rfl) ?_
            refine lv_lconst (v := lN 0) hx hb dX6_put_83 (by decide) ?_
            refine W.lcmp hx hb dX6_put_84 ?_
            refine c_if_eq (tgt := 91) hx hb (by first | omega | exact hr64 | exact Nat.lt_of_le_of_lt (Nat.div_le_self _ _) hr0 | exact Nat.lt_of_le_of_lt (Nat.mod_le _ _) hr64) dX6_put_85 (by decide) (fun h11 => ?_) (fun h11 => ?_)
            · have hsg : sgF 8 r0 0 = n := put_good hbt h10 h11
              refine lv_aload_n hx hb dX6_put_91 rfl (lv_at hl 0 rfl) ?_
              refine z_get (T := TX6) (v := .int (nI σ.2.2.2.2.2.1)) hE hH hM4.1 rfl uw_X6 8 (by decide) fkX6_104 rfl dX6_put_92 ?_
              refine lv_iload_n hx hb dX6_put_95 rfl (lv_at hl 2 rfl) ?_
              refine n_iadd hx hb dX6_put_96 ?_
              refine n_bipush hx hb 60 dX6_put_97 (by decide) ?_
              refine n_cmp_le (tgt := 105) hx hb (by omega) (by decide) dX6_put_99 (by decide) (fun h12 => ?_) (fun h12 => ?_)
              · refine n_iconst hx hb 0 dX6_put_105 (by decide) ?_
                refine lv_istore (lv' := [(7, .int (nI 0)), (0, .ref d), (1, .long (lN r0)), (3, .int (nI n)), (4, .long (lN r)), (6, .int (zb b))]) hx hb dX6_put_106 hl (by decide) rfl (fun ls hl => ?_)
                have L108 : ∀ (dd108 : Nat) (k : Nat) (f : Nat → Int32) (M1 : Mm), n < k + dd108 → (k ≤ n) → (Md G d (sg (nI 0) (nI σ.2.1) (nI σ.2.2.2.2.2.1) at' w bm) (xs σ.1 A U L K f SE SH BU) M1) → (∀ q, (q < d ∨ d + 10 ≤ q) → M1 q = M q) → (∀ i, i < 60 → f i = nI (if σ.2.2.2.2.2.1 ≤ i ∧ i < σ.2.2.2.2.2.1 + k then (r0 / 256 ^ (σ.2.2.2.2.2.1 + n - 1 - i)) % 256 else σ.2.2.2.2.2.2 i)) → ∀ (H : Heap) (locs : List Loc), zH G M1 H → zS 0 B0 s.heap H locs → ∀ (ls : Array Slot), lv_has ls 8 [(0, .ref d), (1, .long (lN r0)), (3, .int (nI n)), (7, .int (nI k))] → zW pg l ev 5 0 0 s m [.ref d, .long (lN r0)] below meth cd H locs 0 0 G B0 (some (.int (fPut σ r0).1)) (fun M1 => Mo G d (fPut σ r0).2 M1 ∧ ∀ q, (q < d ∨ d + 10 ≤ q) → M1 q = M q) (F0 m 108 ls []) := by
                  intro dd108
                  induction dd108 with
                  | zero =>
                    intro k f M1 hdd108 hk hM1 hF1 hf
                    exact absurd hdd108 (by omega)
                  | succ dd108 ih108 =>
                    intro k f M1 hdd108 hk hM1 hF1 hf H locs hH hS ls hl
                    have hA1 : zArr G 0 M1 (d + 1) 818 (fun i => nI (σ.1 i)) := hM1.s (fun _ _ => rfl)
                    refine lv_iload hx hb dX6_put_108 (lv_at hl 3 rfl) ?_
                    refine lv_iload_n hx hb dX6_put_110 rfl (lv_at hl 2 rfl) ?_
                    refine n_cmp_ge (tgt := 148) hx hb (by omega) (by omega) dX6_put_111 (by decide) (fun h13 => ?_) (fun h13 => ?_)
                    · have hkk : k = n := by omega
                      rw [hkk] at hf
                      have hM14 : Md G d (sg (nI 0) (nI σ.2.1) (nI σ.2.2.2.2.2.1) at' w bm) (xs σ.1 A U L K (fun i => nI (apS σ.2.2.2.2.2.2 σ.2.2.2.2.2.1 r0 n i)) SE SH BU) M1 := hM1.to (j := 6) (put_ap hf) (fun i hi => by unfold xs; split <;> first | rfl | exact absurd rfl hi)
                      refine lv_aload_n hx hb dX6_put_148 rfl (lv_at hl 0 rfl) ?_
                      refine lv_dup hx hb dX6_put_149 rfl ?_
                      refine z_get (T := TX6) (v := .int (nI σ.2.2.2.2.2.1)) hE hH hM14.1 rfl uw_X6 8 (by decide) fkX6_104 rfl dX6_put_150 ?_
                      refine lv_iload_n hx hb dX6_put_153 rfl (lv_at hl 2 rfl) ?_
                      refine n_iadd hx hb dX6_put_154 ?_
                      refine z_put (T := TX6) hE hH hS hM14.1 rfl uw_X6 tyX6 tyX6_ok nmX6 8 (by decide) fkX6_104 rfl rfl rfl (Nat.le_of_ble_eq_true rfl) (by omega) dX6_put_155 (fun H locs M17 hH hS e15 o16 => ?_)
                      have hM18 : Md G d (sg (nI 0) (nI σ.2.1) (nI (σ.2.2.2.2.2.1 + n)) at' w bm) (xs σ.1 A U L K (fun i => nI (apS σ.2.2.2.2.2.2 σ.2.2.2.2.2.1 r0 n i)) SE SH BU) M17 := Md.setC hM14 e15 o16
                      have hA19 := hM18.s (fun _ _ => rfl)
                      have hF20 := fun q hq => (o16 q (by omega)).trans (hF1 q hq)
                      refine lv_aload_n hx hb dX6_put_158 rfl (lv_at hl 0 rfl) ?_
                      refine z_get (T := TX6) (v := .int (nI (σ.2.2.2.2.2.1 + n))) hE hH hM18.1 rfl uw_X6 8 (by decide) fkX6_104 rfl dX6_put_159 ?_
                      have hf : fPut σ r0 = ((nI (σ.2.2.2.2.2.1 + n)), (σ.1, σ.2.1, σ.2.2.1, σ.2.2.2.1, σ.2.2.2.2.1, σ.2.2.2.2.2.1 + n, apS σ.2.2.2.2.2.2 σ.2.2.2.2.2.1 r0 n)) := by
                        unfold fPut
                        rw [hsg, if_neg (by omega), if_neg (show ¬ 60 - σ.2.2.2.2.2.1 < n by omega)]
                      rw [hf]
                      exact z_iret hE hH hS rfl ⟨⟨_, _, _, _, _, _, _, _, _, _, _, hM18, hU, hL, hK⟩, hF20⟩ dX6_put_162
                    · refine lv_aload_n hx hb dX6_put_114 rfl (lv_at hl 0 rfl) ?_
                      refine z_get (T := TX6) (v := .ref (d + 6)) hE hH hM1.1 rfl uw_X6 7 (by decide) fkX6_26 rfl dX6_put_115 ?_
                      refine lv_aload_n hx hb dX6_put_118 rfl (lv_at hl 0 rfl) ?_
                      refine z_get (T := TX6) (v := .int (nI σ.2.2.2.2.2.1)) hE hH hM1.1 rfl uw_X6 8 (by decide) fkX6_104 rfl dX6_put_119 ?_
                      refine lv_iload hx hb dX6_put_122 (lv_at hl 3 rfl) ?_
                      refine n_iadd hx hb dX6_put_124 ?_
                      refine lv_lload_n hx hb dX6_put_125 rfl (lv_at hl 1 rfl) ?_
                      refine n_bipush hx hb 8 dX6_put_126 (by decide) ?_
                      refine lv_iload_n hx hb dX6_put_128 rfl (lv_at hl 2 rfl) ?_
                      refine n_iconst hx hb 1 dX6_put_129 (by decide) ?_
                      refine n_isub hx hb (by omega) dX6_put_130 ?_
                      refine lv_iload hx hb dX6_put_131 (lv_at hl 3 rfl) ?_
                      refine n_isub hx hb (by omega) dX6_put_133 ?_
                      refine n_imul hx hb dX6_put_134 ?_
                      refine l_shr hx hb (by first | omega | exact hr64 | exact Nat.lt_of_le_of_lt (Nat.div_le_self _ _) hr0 | exact Nat.lt_of_le_of_lt (Nat.mod_le _ _) hr64) (by omega) dX6_put_135 ?_
                      refine lv_ldc2 (v := lN 255) hx hb hE.2.2.2.1 (hE.2.2.2.2.1 _ kcX6_138) dX6_put_136 ?_
                      refine l_mask hx hb (by first | omega | exact hr64 | exact Nat.lt_of_le_of_lt (Nat.div_le_self _ _) hr0 | exact Nat.lt_of_le_of_lt (Nat.mod_le _ _) hr64) dX6_put_139 ?_
                      refine lv_l2i (v := nI ((r0 / 2 ^ (8 * ((n - 1) - k))) % 256)) hx hb dX6_put_140 (lN_i _) ?_
                      refine z_iast hE hH hS (show zArr G 0 M1 (d + 6) 60 f from hM1.2 6 (by decide) (by decide)) (k := σ.2.2.2.2.2.1 + k) (by omega) (by decide) (by omega) dX6_put_141 (fun H locs M23 hH hS e21 o22 => ?_)
                      have hM24 : Md G d (sg (nI 0) (nI σ.2.1) (nI σ.2.2.2.2.2.1) at' w bm) (xs σ.1 A U L K (fun i => if i = (σ.2.2.2.2.2.1 + k) then (nI ((r0 / 2 ^ (8 * ((n - 1) - k))) % 256)) else f i) SE SH BU) M23 := Md.setJ (j := 6) hM1 (by decide) e21 (fun i hi => by unfold xs; split <;> first | rfl | exact absurd rfl hi) o22
                      have hA25 := hM24.s (fun _ _ => rfl)
                      have hF26 := fun q hq => (o22 q (by omega)).trans (hF1 q hq)
                      refine lv_iinc (v := (nI (k + 1))) (lv' := [(7, .int (nI (k + 1))), (0, .ref d), (1, .long (lN r0)), (3, .int (nI n))]) hx hb dX6_put_142 hl (k := 3) rfl (nI_inc _) (by decide) rfl (fun ls hl => ?_)
                      refine lv_goto (tgt := 108) hx hb dX6_put_145 (by decide) ?_
                      exact ih108  (k + 1) (fun i => if i = (σ.2.2.2.2.2.1 + k) then (nI ((r0 / 2 ^ (8 * ((n - 1) - k))) % 256)) else f i) M23 (by omega) (by omega) hM24 hF26 (put_f (by omega) hf) _ _ hH hS _ (lv_sub hl [1, 2, 3, 0] rfl)
                exact L108 (n + 1) 0 (fun i => nI (σ.2.2.2.2.2.2 i)) M3 (by omega) (by omega) hM4 hF6 (fun i hi => by rw [if_neg (by omega)]) _ _ hH hS _ (lv_sub hl [1, 2, 3, 0] rfl)
              · refine lv_bipush (v := (-4)) hx hb dX6_put_102 (by decide) ?_
                have hf : fPut σ r0 = ((-4), (σ.1, σ.2.1, σ.2.2.1, σ.2.2.2.1, σ.2.2.2.2.1, σ.2.2.2.2.2.1, σ.2.2.2.2.2.2)) := by
                  unfold fPut
                  rw [hsg, if_neg (by omega), if_pos (show 60 - σ.2.2.2.2.2.1 < n by omega)]
                rw [hf]
                exact z_iret hE hH hS rfl ⟨⟨_, _, _, _, _, _, _, _, _, _, _, hM4, hU, hL, hK⟩, hF6⟩ dX6_put_104
            · have hsg : sgF 8 r0 0 = 0 := put_bad hr0 hn8 hr hbt hbf (by first | exact Or.inl h7 | exact Or.inr h7) (by first | exact Or.inl h11 | exact Or.inr (Or.inl h11) | exact Or.inr (Or.inr h11))
              refine lv_bipush (v := (-2)) hx hb dX6_put_88 (by decide) ?_
              have hf : fPut σ r0 = ((-2), (σ.1, σ.2.1, σ.2.2.1, σ.2.2.2.1, σ.2.2.2.2.1, σ.2.2.2.2.2.1, σ.2.2.2.2.2.2)) := by
                unfold fPut
                rw [if_pos hsg]
              rw [hf]
              exact z_iret hE hH hS rfl ⟨⟨_, _, _, _, _, _, _, _, _, _, _, hM4, hU, hL, hK⟩, hF6⟩ dX6_put_90
      · refine lv_lload hx hb dX6_put_19 (lv_at hl 3 rfl) ?_
        refine lv_ldc2 (v := lN 255) hx hb hE.2.2.2.1 (hE.2.2.2.2.1 _ kcX6_138) dX6_put_21 ?_
        refine l_mask hx hb (by first | omega | exact hr64 | exact Nat.lt_of_le_of_lt (Nat.div_le_self _ _) hr0 | exact Nat.lt_of_le_of_lt (Nat.mod_le _ _) hr64) dX6_put_24 ?_
        refine lv_lconst (v := lN 0) hx hb dX6_put_25 (by decide) ?_
        refine W.lcmp hx hb dX6_put_26 ?_
        refine c_if_eq (tgt := 72) hx hb (by first | omega | exact hr64 | exact Nat.lt_of_le_of_lt (Nat.div_le_self _ _) hr0 | exact Nat.lt_of_le_of_lt (Nat.mod_le _ _) hr64) dX6_put_27 (by decide) (fun h27 => ?_) (fun h27 => ?_)
        · refine lv_iload_n hx hb dX6_put_72 rfl (lv_at hl 2 rfl) ?_
          refine n_if_eq (tgt := 88) hx hb (by omega) dX6_put_73 (by decide) (fun h28 => ?_) (fun h28 => ?_)
          · have hsg : sgF 8 r0 0 = 0 := put_bad hr0 hn8 hr hbt hbf (by first | exact Or.inl h27 | exact Or.inr h27) (by first | exact Or.inl h28 | exact Or.inr (Or.inl h28) | exact Or.inr (Or.inr h28))
            refine lv_bipush (v := (-2)) hx hb dX6_put_88 (by decide) ?_
            have hf : fPut σ r0 = ((-2), (σ.1, σ.2.1, σ.2.2.1, σ.2.2.2.1, σ.2.2.2.2.1, σ.2.2.2.2.2.1, σ.2.2.2.2.2.2)) := by
              unfold fPut
              rw [if_pos hsg]
            rw [hf]
            exact z_iret hE hH hS rfl ⟨⟨_, _, _, _, _, _, _, _, _, _, _, hM4, hU, hL, hK⟩, hF6⟩ dX6_put_90
          · refine lv_iload hx hb dX6_put_76 (lv_at hl 4 rfl) ?_
            refine b_if_eq (tgt := 88) hx hb dX6_put_78 (by decide) (fun h30 => ?_) (fun h30 => ?_)
            · have hsg : sgF 8 r0 0 = 0 := put_bad hr0 hn8 hr hbt hbf (by first | exact Or.inl h27 | exact Or.inr h27) (by first | exact Or.inl h30 | exact Or.inr (Or.inl h30) | exact Or.inr (Or.inr h30))
              refine lv_bipush (v := (-2)) hx hb dX6_put_88 (by decide) ?_
              have hf : fPut σ r0 = ((-2), (σ.1, σ.2.1, σ.2.2.1, σ.2.2.2.1, σ.2.2.2.2.1, σ.2.2.2.2.2.1, σ.2.2.2.2.2.2)) := by
                unfold fPut
                rw [if_pos hsg]
              rw [hf]
              exact z_iret hE hH hS rfl ⟨⟨_, _, _, _, _, _, _, _, _, _, _, hM4, hU, hL, hK⟩, hF6⟩ dX6_put_90
            · refine lv_lload hx hb dX6_put_81 (lv_at hl 3 rfl) ?_
              refine lv_lconst (v := lN 0) hx hb dX6_put_83 (by decide) ?_
              refine W.lcmp hx hb dX6_put_84 ?_
              refine c_if_eq (tgt := 91) hx hb (by first | omega | exact hr64 | exact Nat.lt_of_le_of_lt (Nat.div_le_self _ _) hr0 | exact Nat.lt_of_le_of_lt (Nat.mod_le _ _) hr64) dX6_put_85 (by decide) (fun h31 => ?_) (fun h31 => ?_)
              · have hsg : sgF 8 r0 0 = n := put_good hbt h30 h31
                refine lv_aload_n hx hb dX6_put_91 rfl (lv_at hl 0 rfl) ?_
                refine z_get (T := TX6) (v := .int (nI σ.2.2.2.2.2.1)) hE hH hM4.1 rfl uw_X6 8 (by decide) fkX6_104 rfl dX6_put_92 ?_
                refine lv_iload_n hx hb dX6_put_95 rfl (lv_at hl 2 rfl) ?_
                refine n_iadd hx hb dX6_put_96 ?_
                refine n_bipush hx hb 60 dX6_put_97 (by decide) ?_
                refine n_cmp_le (tgt := 105) hx hb (by omega) (by decide) dX6_put_99 (by decide) (fun h32 => ?_) (fun h32 => ?_)
                · refine n_iconst hx hb 0 dX6_put_105 (by decide) ?_
                  refine lv_istore (lv' := [(7, .int (nI 0)), (0, .ref d), (1, .long (lN r0)), (3, .int (nI n)), (4, .long (lN r)), (6, .int (zb b))]) hx hb dX6_put_106 hl (by decide) rfl (fun ls hl => ?_)
                  have L108 : ∀ (dd108 : Nat) (k : Nat) (f : Nat → Int32) (M1 : Mm), n < k + dd108 → (k ≤ n) → (Md G d (sg (nI 0) (nI σ.2.1) (nI σ.2.2.2.2.2.1) at' w bm) (xs σ.1 A U L K f SE SH BU) M1) → (∀ q, (q < d ∨ d + 10 ≤ q) → M1 q = M q) → (∀ i, i < 60 → f i = nI (if σ.2.2.2.2.2.1 ≤ i ∧ i < σ.2.2.2.2.2.1 + k then (r0 / 256 ^ (σ.2.2.2.2.2.1 + n - 1 - i)) % 256 else σ.2.2.2.2.2.2 i)) → ∀ (H : Heap) (locs : List Loc), zH G M1 H → zS 0 B0 s.heap H locs → ∀ (ls : Array Slot), lv_has ls 8 [(0, .ref d), (1, .long (lN r0)), (3, .int (nI n)), (7, .int (nI k))] → zW pg l ev 5 0 0 s m [.ref d, .long (lN r0)] below meth cd H locs 0 0 G B0 (some (.int (fPut σ r0).1)) (fun M1 => Mo G d (fPut σ r0).2 M1 ∧ ∀ q, (q < d ∨ d + 10 ≤ q) → M1 q = M q) (F0 m 108 ls []) := by
                    intro dd108
                    induction dd108 with
                    | zero =>
                      intro k f M1 hdd108 hk hM1 hF1 hf
                      exact absurd hdd108 (by omega)
                    | succ dd108 ih108 =>
                      intro k f M1 hdd108 hk hM1 hF1 hf H locs hH hS ls hl
                      have hA1 : zArr G 0 M1 (d + 1) 818 (fun i => nI (σ.1 i)) := hM1.s (fun _ _ => rfl)
                      refine lv_iload hx hb dX6_put_108 (lv_at hl 3 rfl) ?_
                      refine lv_iload_n hx hb dX6_put_110 rfl (lv_at hl 2 rfl) ?_
                      refine n_cmp_ge (tgt := 148) hx hb (by omega) (by omega) dX6_put_111 (by decide) (fun h33 => ?_) (fun h33 => ?_)
                      · have hkk : k = n := by omega
                        rw [hkk] at hf
                        have hM34 : Md G d (sg (nI 0) (nI σ.2.1) (nI σ.2.2.2.2.2.1) at' w bm) (xs σ.1 A U L K (fun i => nI (apS σ.2.2.2.2.2.2 σ.2.2.2.2.2.1 r0 n i)) SE SH BU) M1 := hM1.to (j := 6) (put_ap hf) (fun i hi => by unfold xs; split <;> first | rfl | exact absurd rfl hi)
                        refine lv_aload_n hx hb dX6_put_148 rfl (lv_at hl 0 rfl) ?_
                        refine lv_dup hx hb dX6_put_149 rfl ?_
                        refine z_get (T := TX6) (v := .int (nI σ.2.2.2.2.2.1)) hE hH hM34.1 rfl uw_X6 8 (by decide) fkX6_104 rfl dX6_put_150 ?_
                        refine lv_iload_n hx hb dX6_put_153 rfl (lv_at hl 2 rfl) ?_
                        refine n_iadd hx hb dX6_put_154 ?_
                        refine z_put (T := TX6) hE hH hS hM34.1 rfl uw_X6 tyX6 tyX6_ok nmX6 8 (by decide) fkX6_104 rfl rfl rfl (Nat.le_of_ble_eq_true rfl) (by omega) dX6_put_155 (fun H locs M37 hH hS e35 o36 => ?_)
                        have hM38 : Md G d (sg (nI 0) (nI σ.2.1) (nI (σ.2.2.2.2.2.1 + n)) at' w bm) (xs σ.1 A U L K (fun i => nI (apS σ.2.2.2.2.2.2 σ.2.2.2.2.2.1 r0 n i)) SE SH BU) M37 := Md.setC hM34 e35 o36
                        have hA39 := hM38.s (fun _ _ => rfl)
                        have hF40 := fun q hq => (o36 q (by omega)).trans (hF1 q hq)
                        refine lv_aload_n hx hb dX6_put_158 rfl (lv_at hl 0 rfl) ?_
                        refine z_get (T := TX6) (v := .int (nI (σ.2.2.2.2.2.1 + n))) hE hH hM38.1 rfl uw_X6 8 (by decide) fkX6_104 rfl dX6_put_159 ?_
                        have hf : fPut σ r0 = ((nI (σ.2.2.2.2.2.1 + n)), (σ.1, σ.2.1, σ.2.2.1, σ.2.2.2.1, σ.2.2.2.2.1, σ.2.2.2.2.2.1 + n, apS σ.2.2.2.2.2.2 σ.2.2.2.2.2.1 r0 n)) := by
                          unfold fPut
                          rw [hsg, if_neg (by omega), if_neg (show ¬ 60 - σ.2.2.2.2.2.1 < n by omega)]
                        rw [hf]
                        exact z_iret hE hH hS rfl ⟨⟨_, _, _, _, _, _, _, _, _, _, _, hM38, hU, hL, hK⟩, hF40⟩ dX6_put_162
                      · refine lv_aload_n hx hb dX6_put_114 rfl (lv_at hl 0 rfl) ?_
                        refine z_get (T := TX6) (v := .ref (d + 6)) hE hH hM1.1 rfl uw_X6 7 (by decide) fkX6_26 rfl dX6_put_115 ?_
                        refine lv_aload_n hx hb dX6_put_118 rfl (lv_at hl 0 rfl) ?_
                        refine z_get (T := TX6) (v := .int (nI σ.2.2.2.2.2.1)) hE hH hM1.1 rfl uw_X6 8 (by decide) fkX6_104 rfl dX6_put_119 ?_
                        refine lv_iload hx hb dX6_put_122 (lv_at hl 3 rfl) ?_
                        refine n_iadd hx hb dX6_put_124 ?_
                        refine lv_lload_n hx hb dX6_put_125 rfl (lv_at hl 1 rfl) ?_
                        refine n_bipush hx hb 8 dX6_put_126 (by decide) ?_
                        refine lv_iload_n hx hb dX6_put_128 rfl (lv_at hl 2 rfl) ?_
                        refine n_iconst hx hb 1 dX6_put_129 (by decide) ?_
                        refine n_isub hx hb (by omega) dX6_put_130 ?_
                        refine lv_iload hx hb dX6_put_131 (lv_at hl 3 rfl) ?_
                        refine n_isub hx hb (by omega) dX6_put_133 ?_
                        refine n_imul hx hb dX6_put_134 ?_
                        refine l_shr hx hb (by first | omega | exact hr64 | exact Nat.lt_of_le_of_lt (Nat.div_le_self _ _) hr0 | exact Nat.lt_of_le_of_lt (Nat.mod_le _ _) hr64) (by omega) dX6_put_135 ?_
                        refine lv_ldc2 (v := lN 255) hx hb hE.2.2.2.1 (hE.2.2.2.2.1 _ kcX6_138) dX6_put_136 ?_
                        refine l_mask hx hb (by first | omega | exact hr64 | exact Nat.lt_of_le_of_lt (Nat.div_le_self _ _) hr0 | exact Nat.lt_of_le_of_lt (Nat.mod_le _ _) hr64) dX6_put_139 ?_
                        refine lv_l2i (v := nI ((r0 / 2 ^ (8 * ((n - 1) - k))) % 256)) hx hb dX6_put_140 (lN_i _) ?_
                        refine z_iast hE hH hS (show zArr G 0 M1 (d + 6) 60 f from hM1.2 6 (by decide) (by decide)) (k := σ.2.2.2.2.2.1 + k) (by omega) (by decide) (by omega) dX6_put_141 (fun H locs M43 hH hS e41 o42 => ?_)
                        have hM44 : Md G d (sg (nI 0) (nI σ.2.1) (nI σ.2.2.2.2.2.1) at' w bm) (xs σ.1 A U L K (fun i => if i = (σ.2.2.2.2.2.1 + k) then (nI ((r0 / 2 ^ (8 * ((n - 1) - k))) % 256)) else f i) SE SH BU) M43 := Md.setJ (j := 6) hM1 (by decide) e41 (fun i hi => by unfold xs; split <;> first | rfl | exact absurd rfl hi) o42
                        have hA45 := hM44.s (fun _ _ => rfl)
                        have hF46 := fun q hq => (o42 q (by omega)).trans (hF1 q hq)
                        refine lv_iinc (v := (nI (k + 1))) (lv' := [(7, .int (nI (k + 1))), (0, .ref d), (1, .long (lN r0)), (3, .int (nI n))]) hx hb dX6_put_142 hl (k := 3) rfl (nI_inc _) (by decide) rfl (fun ls hl => ?_)
                        refine lv_goto (tgt := 108) hx hb dX6_put_145 (by decide) ?_
                        exact ih108  (k + 1) (fun i => if i = (σ.2.2.2.2.2.1 + k) then (nI ((r0 / 2 ^ (8 * ((n - 1) - k))) % 256)) else f i) M43 (by omega) (by omega) hM44 hF46 (put_f (by omega) hf) _ _ hH hS _ (lv_sub hl [1, 2, 3, 0] rfl)
                  exact L108 (n + 1) 0 (fun i => nI (σ.2.2.2.2.2.2 i)) M3 (by omega) (by omega) hM4 hF6 (fun i hi => by rw [if_neg (by omega)]) _ _ hH hS _ (lv_sub hl [1, 2, 3, 0] rfl)
                · refine lv_bipush (v := (-4)) hx hb dX6_put_102 (by decide) ?_
                  have hf : fPut σ r0 = ((-4), (σ.1, σ.2.1, σ.2.2.1, σ.2.2.2.1, σ.2.2.2.2.1, σ.2.2.2.2.2.1, σ.2.2.2.2.2.2)) := by
                    unfold fPut
                    rw [hsg, if_neg (by omega), if_pos (show 60 - σ.2.2.2.2.2.1 < n by omega)]
                  rw [hf]
                  exact z_iret hE hH hS rfl ⟨⟨_, _, _, _, _, _, _, _, _, _, _, hM4, hU, hL, hK⟩, hF6⟩ dX6_put_104
              · have hsg : sgF 8 r0 0 = 0 := put_bad hr0 hn8 hr hbt hbf (by first | exact Or.inl h27 | exact Or.inr h27) (by first | exact Or.inl h31 | exact Or.inr (Or.inl h31) | exact Or.inr (Or.inr h31))
                refine lv_bipush (v := (-2)) hx hb dX6_put_88 (by decide) ?_
                have hf : fPut σ r0 = ((-2), (σ.1, σ.2.1, σ.2.2.1, σ.2.2.2.1, σ.2.2.2.2.1, σ.2.2.2.2.2.1, σ.2.2.2.2.2.2)) := by
                  unfold fPut
                  rw [if_pos hsg]
                rw [hf]
                exact z_iret hE hH hS rfl ⟨⟨_, _, _, _, _, _, _, _, _, _, _, hM4, hU, hL, hK⟩, hF6⟩ dX6_put_90
        · refine lv_iload hx hb dX6_put_30 (lv_at hl 4 rfl) ?_
          refine b_if_eq (tgt := 56) hx hb dX6_put_32 (by decide) (fun h48 => ?_) (fun h48 => ?_)
          · refine n_iconst hx hb 0 dX6_put_56 (by decide) ?_
            refine lv_istore (lv' := [(6, .int (nI 0)), (0, .ref d), (1, .long (lN r0)), (3, .int (nI n)), (4, .long (lN r))]) hx hb dX6_put_57 hl (by decide) rfl (fun ls hl => ?_)
            refine lv_lload hx hb dX6_put_59 (lv_at hl 4 rfl) ?_
            refine n_bipush hx hb 8 dX6_put_61 (by decide) ?_
            refine l_shr hx hb (by first | omega | exact hr64 | exact Nat.lt_of_le_of_lt (Nat.div_le_self _ _) hr0 | exact Nat.lt_of_le_of_lt (Nat.mod_le _ _) hr64) (by decide) dX6_put_63 ?_
            refine lv_lstore (lv' := [(4, .long (lN (r / 2 ^ 8))), (6, .int (nI 0)), (0, .ref d), (1, .long (lN r0)), (3, .int (nI n))]) hx hb dX6_put_64 hl (by decide) rfl (fun ls hl => ?_)
            refine lv_iinc (v := (nI (n + 1))) (lv' := [(3, .int (nI (n + 1))), (4, .long (lN (r / 2 ^ 8))), (6, .int (nI 0)), (0, .ref d), (1, .long (lN r0))]) hx hb dX6_put_66 hl (k := 4) rfl (nI_inc _) (by decide) rfl (fun ls hl => ?_)
            refine lv_goto (tgt := 13) hx hb dX6_put_69 (by decide) ?_
            exact ih  (n + 1) (r / 2 ^ 8) false (by omega) (by omega) (put_div hr) (fun q => Bool.noConfusion q) (fun _ => hbf h48) _ _ hH hS _ (lv_sub hl [3, 4, 0, 1, 2] rfl)
          · refine lv_lload hx hb dX6_put_35 (lv_at hl 3 rfl) ?_
            refine lv_ldc2 (v := lN 255) hx hb hE.2.2.2.1 (hE.2.2.2.2.1 _ kcX6_138) dX6_put_37 ?_
            refine l_mask hx hb (by first | omega | exact hr64 | exact Nat.lt_of_le_of_lt (Nat.div_le_self _ _) hr0 | exact Nat.lt_of_le_of_lt (Nat.mod_le _ _) hr64) dX6_put_40 ?_
            refine lv_l2i (v := nI (r % 256)) hx hb dX6_put_41 (lN_i _) ?_
            refine n_bipush hx hb 33 dX6_put_42 (by decide) ?_
            refine n_bipush hx hb 126 dX6_put_44 (by decide) ?_
            refine z_callS (rest := []) (st2 := [.int (zb (wi (nI (r % 256)) (nI 33) (nI 126)))]) hE hH hS hB0 hl ca_X6_in mkX6_42 (c_X6_in l G B0 M3 (nI (r % 256)) (nI 33) (nI 126)) rfl rfl rfl ⟨Nat.le_of_ble_eq_true rfl, Nat.le_of_ble_eq_true rfl⟩ (Nat.le_of_ble_eq_true rfl) ⟨Nat.le_refl _, Nat.le_refl _⟩ dX6_put_46 (fun H locs M1 hH hp hS => ?_)
            subst hp
            refine b_if_eq (tgt := 56) hx hb dX6_put_49 (by decide) (fun h50 => ?_) (fun h50 => ?_)
            · refine n_iconst hx hb 0 dX6_put_56 (by decide) ?_
              refine lv_istore (lv' := [(6, .int (nI 0)), (0, .ref d), (1, .long (lN r0)), (3, .int (nI n)), (4, .long (lN r))]) hx hb dX6_put_57 hl (by decide) rfl (fun ls hl => ?_)
              refine lv_lload hx hb dX6_put_59 (lv_at hl 4 rfl) ?_
              refine n_bipush hx hb 8 dX6_put_61 (by decide) ?_
              refine l_shr hx hb (by first | omega | exact hr64 | exact Nat.lt_of_le_of_lt (Nat.div_le_self _ _) hr0 | exact Nat.lt_of_le_of_lt (Nat.mod_le _ _) hr64) (by decide) dX6_put_63 ?_
              refine lv_lstore (lv' := [(4, .long (lN (r / 2 ^ 8))), (6, .int (nI 0)), (0, .ref d), (1, .long (lN r0)), (3, .int (nI n))]) hx hb dX6_put_64 hl (by decide) rfl (fun ls hl => ?_)
              refine lv_iinc (v := (nI (n + 1))) (lv' := [(3, .int (nI (n + 1))), (4, .long (lN (r / 2 ^ 8))), (6, .int (nI 0)), (0, .ref d), (1, .long (lN r0))]) hx hb dX6_put_66 hl (k := 4) rfl (nI_inc _) (by decide) rfl (fun ls hl => ?_)
              refine lv_goto (tgt := 13) hx hb dX6_put_69 (by decide) ?_
              exact ih  (n + 1) (r / 2 ^ 8) false (by omega) (by omega) (put_div hr) (fun q => Bool.noConfusion q) (fun _ => put_no (by omega) h27 (hbt h48) h50) _ _ hH hS _ (lv_sub hl [3, 4, 0, 1, 2] rfl)
            · refine n_iconst hx hb 1 dX6_put_52 (by decide) ?_
              refine lv_goto (tgt := 57) hx hb dX6_put_53 (by decide) ?_
              refine lv_istore (lv' := [(6, .int (nI 1)), (0, .ref d), (1, .long (lN r0)), (3, .int (nI n)), (4, .long (lN r))]) hx hb dX6_put_57 hl (by decide) rfl (fun ls hl => ?_)
              refine lv_lload hx hb dX6_put_59 (lv_at hl 4 rfl) ?_
              refine n_bipush hx hb 8 dX6_put_61 (by decide) ?_
              refine l_shr hx hb (by first | omega | exact hr64 | exact Nat.lt_of_le_of_lt (Nat.div_le_self _ _) hr0 | exact Nat.lt_of_le_of_lt (Nat.mod_le _ _) hr64) (by decide) dX6_put_63 ?_
              refine lv_lstore (lv' := [(4, .long (lN (r / 2 ^ 8))), (6, .int (nI 1)), (0, .ref d), (1, .long (lN r0)), (3, .int (nI n))]) hx hb dX6_put_64 hl (by decide) rfl (fun ls hl => ?_)
              refine lv_iinc (v := (nI (n + 1))) (lv' := [(3, .int (nI (n + 1))), (4, .long (lN (r / 2 ^ 8))), (6, .int (nI 1)), (0, .ref d), (1, .long (lN r0))]) hx hb dX6_put_66 hl (k := 4) rfl (nI_inc _) (by decide) rfl (fun ls hl => ?_)
              refine lv_goto (tgt := 13) hx hb dX6_put_69 (by decide) ?_
              exact ih  (n + 1) (r / 2 ^ 8) true (by omega) (by omega) (put_div hr) (fun _ => put_st (by omega) h27 (hbt h48) h50) (fun q => Bool.noConfusion q) _ _ hH hS _ (lv_sub hl [3, 4, 0, 1, 2] rfl)
  exact L13 9 0 r0 true (by omega) (by omega) (by rw [Nat.pow_zero, Nat.div_one]) (fun _ => rfl) (fun q => Bool.noConfusion q) _ _ hH hS _ (lv_sub hl [3, 4, 2, 1, 0] rfl)

set_option maxHeartbeats 4000000 in
set_option maxRecDepth 100000 in
theorem c_X6_wipe (l : Launch) (G : zG) (B0 : Nat) (M : Mm) (d : Nat) (σ : Sg) (hC : Mo G d σ M) (hok : sOk σ) (hBd : B0 ≤ d) : zMet l yX6_wipe cX6_wipe 2 (some .int) 5 0 0 G B0 M [.ref d] (some (.int (fWipe σ).1)) (fun M1 => Mo G d (fWipe σ).2 M1 ∧ ∀ q, (q < d ∨ d + 10 ≤ q) → M1 q = M q) := by
  refine z_met RX6 [(0, .ref d)] (by decide) rfl (Nat.le_of_ble_eq_true rfl) rfl ?_
  intro pg ev s m below meth cd ls hE hin hB0 hH hl
  have hx := hE.1
  have hb := hE.2.1
  have hv : wOk σ.1 := hok.hw
  have hn : σ.1 0 ≤ 12 := hv.1
  have hdy : σ.1 1 ≤ 9999 := hok.1.2
  have hn6 : σ.2.1 ≤ 6 := hok.2.1
  have hhv : ∀ k, k < σ.2.1 → wOk (σ.2.2.1 k) := hok.hh
  have hsv : ∀ k, k < 2 → σ.2.2.2.2.1 k = true → wOk (σ.2.2.2.1 k) := hok.hs
  have hln : σ.2.2.2.2.2.1 ≤ 60 := hok.2.2.2.2.1
  have hpc : ∀ i, i < σ.2.2.2.2.2.1 → σ.2.2.2.2.2.2 i < 128 := fun i hi => by have h7 := (hok.2.2.2.2.2 i hi).2; exact Nat.lt_of_le_of_lt h7 (by decide)
  obtain ⟨t, at', w, bm, A, U, L, K, SE, SH, BU, hM, hU, hL, hK⟩ := hC
  have hA : zArr G 0 M (d + 1) 818 (fun i => nI (σ.1 i)) := hM.s (fun _ _ => rfl)
  have hF : ∀ q, (q < d ∨ d + 10 ≤ q) → M q = M q := fun _ _ => rfl
  refine z_gen B0 (fun H locs hH hS => ?_) hH
  refine lv_aload_n hx hb dX6_wipe_0 rfl (lv_at hl 0 rfl) ?_
  refine n_iconst hx hb 0 dX6_wipe_1 (by decide) ?_
  refine z_put (T := TX6) hE hH hS hM.1 rfl uw_X6 tyX6 tyX6_ok nmX6 0 (by decide) fkX6_38 rfl rfl rfl (Nat.le_of_ble_eq_true rfl) (by omega) dX6_wipe_2 (fun H locs M3 hH hS e1 o2 => ?_)
  have hM4 : Md G d (sg (nI 0) (nI σ.2.1) (nI σ.2.2.2.2.2.1) at' w bm) (xs σ.1 A U L K (fun i => nI (σ.2.2.2.2.2.2 i)) SE SH BU) M3 := Md.setC hM e1 o2
  have hA5 := hM4.s (fun _ _ => rfl)
  have hF6 := fun q hq => (o2 q (by omega)).trans (hF q hq)
  refine lv_aload_n hx hb dX6_wipe_5 rfl (lv_at hl 0 rfl) ?_
  refine z_get (T := TX6) (v := .int (nI σ.2.2.2.2.2.1)) hE hH hM4.1 rfl uw_X6 8 (by decide) fkX6_104 rfl dX6_wipe_6 ?_
  refine lv_istore_n (lv' := [(1, .int (nI σ.2.2.2.2.2.1)), (0, .ref d)]) hx hb dX6_wipe_9 rfl hl (by decide) rfl (fun ls hl => ?_)
  refine lv_aload_n hx hb dX6_wipe_10 rfl (lv_at hl 1 rfl) ?_
  refine n_iconst hx hb 0 dX6_wipe_11 (by decide) ?_
  refine z_put (T := TX6) hE hH hS hM4.1 rfl uw_X6 tyX6 tyX6_ok nmX6 8 (by decide) fkX6_104 rfl rfl rfl (Nat.le_of_ble_eq_true rfl) (by omega) dX6_wipe_12 (fun H locs M9 hH hS e7 o8 => ?_)
  have hM10 : Md G d (sg (nI 0) (nI σ.2.1) (nI 0) at' w bm) (xs σ.1 A U L K (fun i => nI (σ.2.2.2.2.2.2 i)) SE SH BU) M9 := Md.setC hM4 e7 o8
  have hA11 := hM10.s (fun _ _ => rfl)
  have hF12 := fun q hq => (o8 q (by omega)).trans (hF6 q hq)
  refine lv_iload_n hx hb dX6_wipe_15 rfl (lv_at hl 0 rfl) ?_
  have hf : fWipe σ = ((nI σ.2.2.2.2.2.1), (σ.1, σ.2.1, σ.2.2.1, σ.2.2.2.1, σ.2.2.2.2.1, 0, σ.2.2.2.2.2.2)) := by
    simp [fWipe, chg, sV, sN, sH, sS, sD, sL, sP, ]
    try omega
  rw [hf]
  exact z_iret hE hH hS rfl ⟨⟨_, _, _, _, _, _, _, _, _, _, _, hM10, hU, hL, hK⟩, hF12⟩ dX6_wipe_16

set_option maxHeartbeats 4000000 in
set_option maxRecDepth 100000 in
theorem c_X6_fault (l : Launch) (G : zG) (B0 : Nat) (M : Mm) (d : Nat) (σ : Sg) (hC : Mo G d σ M) (hok : sOk σ) (hBd : B0 ≤ d) : zMet l yX6_fault cX6_fault 1 (some .int) 5 0 0 G B0 M [.ref d] (some (.int (fFault σ))) (fun M1 => Mo G d σ M1 ∧ ∀ q, (q < d ∨ d + 10 ≤ q) → M1 q = M q) := by
  refine z_met RX6 [(0, .ref d)] (by decide) rfl (Nat.le_of_ble_eq_true rfl) rfl ?_
  intro pg ev s m below meth cd ls hE hin hB0 hH hl
  have hx := hE.1
  have hb := hE.2.1
  have hv : wOk σ.1 := hok.hw
  have hn : σ.1 0 ≤ 12 := hv.1
  have hdy : σ.1 1 ≤ 9999 := hok.1.2
  have hn6 : σ.2.1 ≤ 6 := hok.2.1
  have hhv : ∀ k, k < σ.2.1 → wOk (σ.2.2.1 k) := hok.hh
  have hsv : ∀ k, k < 2 → σ.2.2.2.2.1 k = true → wOk (σ.2.2.2.1 k) := hok.hs
  have hln : σ.2.2.2.2.2.1 ≤ 60 := hok.2.2.2.2.1
  have hpc : ∀ i, i < σ.2.2.2.2.2.1 → σ.2.2.2.2.2.2 i < 128 := fun i hi => by have h7 := (hok.2.2.2.2.2 i hi).2; exact Nat.lt_of_le_of_lt h7 (by decide)
  obtain ⟨t, at', w, bm, A, U, L, K, SE, SH, BU, hM, hU, hL, hK⟩ := hC
  have hA : zArr G 0 M (d + 1) 818 (fun i => nI (σ.1 i)) := hM.s (fun _ _ => rfl)
  have hF : ∀ q, (q < d ∨ d + 10 ≤ q) → M q = M q := fun _ _ => rfl
  refine z_gen B0 (fun H locs hH hS => ?_) hH
  refine lv_aload_n hx hb dX6_fault_0 rfl (lv_at hl 0 rfl) ?_
  refine n_iconst hx hb 0 dX6_fault_1 (by decide) ?_
  refine z_put (T := TX6) hE hH hS hM.1 rfl uw_X6 tyX6 tyX6_ok nmX6 0 (by decide) fkX6_38 rfl rfl rfl (Nat.le_of_ble_eq_true rfl) (by omega) dX6_fault_2 (fun H locs M3 hH hS e1 o2 => ?_)
  have hM4 : Md G d (sg (nI 0) (nI σ.2.1) (nI σ.2.2.2.2.2.1) at' w bm) (xs σ.1 A U L K (fun i => nI (σ.2.2.2.2.2.2 i)) SE SH BU) M3 := Md.setC hM e1 o2
  have hA5 := hM4.s (fun _ _ => rfl)
  have hF6 := fun q hq => (o2 q (by omega)).trans (hF q hq)
  refine lv_aload_n hx hb dX6_fault_5 rfl (lv_at hl 0 rfl) ?_
  refine z_callV (rest := []) (st2 := [.int (oI (flt σ.2.2.2.2.2.2 σ.2.2.2.2.2.1))]) hE hH hS hB0 hl ca_X6_reads mkX6_101 (c_X6_reads l G B0 M3 d (nI 0) (nI σ.2.1) at' w bm σ.2.2.2.2.2.1 σ.2.2.2.2.2.2 σ.1 A U L K SE SH BU hM4 hv (by omega) hln hpc) hM4.1 rfl rfl rfl rfl rfl ⟨Nat.le_of_ble_eq_true rfl, Nat.le_of_ble_eq_true rfl⟩ (Nat.le_of_ble_eq_true rfl) ⟨Nat.le_refl _, Nat.le_refl _⟩ dX6_fault_6 (fun H locs M7 hH hp hS => ?_)
  obtain ⟨a1, w1, bm1, BU1, hM8, hfl, hG9⟩ := hp
  have hA11 := hM8.s (fun _ _ => rfl)
  have hF10 := fun q hq => (hG9 q hq).trans (hF6 q hq)
  have hf : (fFault σ) = (oI (flt σ.2.2.2.2.2.2 σ.2.2.2.2.2.1)) := by
    simp [fFault, chg, sV, sN, sH, sS, sD, sL, sP, ]
    try omega
  rw [hf]
  exact z_iret hE hH hS rfl ⟨⟨_, _, _, _, _, _, _, _, _, _, _, hM8, hU, hL, hK⟩, hF10⟩ dX6_fault_9

set_option maxHeartbeats 4000000 in
set_option maxRecDepth 100000 in
theorem c_X6_undo (l : Launch) (G : zG) (B0 : Nat) (M : Mm) (d : Nat) (σ : Sg) (hC : Mo G d σ M) (hok : sOk σ) (hBd : B0 ≤ d) : zMet l yX6_undo cX6_undo 2 (some .int) 5 0 0 G B0 M [.ref d] (some (.int (fUndo σ).1)) (fun M1 => Mo G d (fUndo σ).2 M1 ∧ ∀ q, (q < d ∨ d + 10 ≤ q) → M1 q = M q) := by
  refine z_met RX6 [(0, .ref d)] (by decide) rfl (Nat.le_of_ble_eq_true rfl) rfl ?_
  intro pg ev s m below meth cd ls hE hin hB0 hH hl
  have hx := hE.1
  have hb := hE.2.1
  have hv : wOk σ.1 := hok.hw
  have hn : σ.1 0 ≤ 12 := hv.1
  have hdy : σ.1 1 ≤ 9999 := hok.1.2
  have hn6 : σ.2.1 ≤ 6 := hok.2.1
  have hhv : ∀ k, k < σ.2.1 → wOk (σ.2.2.1 k) := hok.hh
  have hsv : ∀ k, k < 2 → σ.2.2.2.2.1 k = true → wOk (σ.2.2.2.1 k) := hok.hs
  have hln : σ.2.2.2.2.2.1 ≤ 60 := hok.2.2.2.2.1
  have hpc : ∀ i, i < σ.2.2.2.2.2.1 → σ.2.2.2.2.2.2 i < 128 := fun i hi => by have h7 := (hok.2.2.2.2.2 i hi).2; exact Nat.lt_of_le_of_lt h7 (by decide)
  obtain ⟨t, at', w, bm, A, U, L, K, SE, SH, BU, hM, hU, hL, hK⟩ := hC
  have hA : zArr G 0 M (d + 1) 818 (fun i => nI (σ.1 i)) := hM.s (fun _ _ => rfl)
  have hF : ∀ q, (q < d ∨ d + 10 ≤ q) → M q = M q := fun _ _ => rfl
  refine z_gen B0 (fun H locs hH hS => ?_) hH
  refine lv_aload_n hx hb dX6_undo_0 rfl (lv_at hl 0 rfl) ?_
  refine n_iconst hx hb 0 dX6_undo_1 (by decide) ?_
  refine z_put (T := TX6) hE hH hS hM.1 rfl uw_X6 tyX6 tyX6_ok nmX6 0 (by decide) fkX6_38 rfl rfl rfl (Nat.le_of_ble_eq_true rfl) (by omega) dX6_undo_2 (fun H locs M3 hH hS e1 o2 => ?_)
  have hM4 : Md G d (sg (nI 0) (nI σ.2.1) (nI σ.2.2.2.2.2.1) at' w bm) (xs σ.1 A U L K (fun i => nI (σ.2.2.2.2.2.2 i)) SE SH BU) M3 := Md.setC hM e1 o2
  have hA5 := hM4.s (fun _ _ => rfl)
  have hF6 := fun q hq => (o2 q (by omega)).trans (hF q hq)
  refine lv_aload_n hx hb dX6_undo_5 rfl (lv_at hl 0 rfl) ?_
  refine z_get (T := TX6) (v := .int (nI σ.2.1)) hE hH hM4.1 rfl uw_X6 4 (by decide) fkX6_50 rfl dX6_undo_6 ?_
  refine n_if_ne (tgt := 15) hx hb (by omega) dX6_undo_9 (by decide) (fun h7 => ?_) (fun h7 => ?_)
  · refine lv_aload_n hx hb dX6_undo_15 rfl (lv_at hl 0 rfl) ?_
    refine lv_dup hx hb dX6_undo_16 rfl ?_
    refine z_get (T := TX6) (v := .int (nI σ.2.1)) hE hH hM4.1 rfl uw_X6 4 (by decide) fkX6_50 rfl dX6_undo_17 ?_
    refine n_iconst hx hb 1 dX6_undo_20 (by decide) ?_
    refine n_isub hx hb (by omega) dX6_undo_21 ?_
    refine z_put (T := TX6) hE hH hS hM4.1 rfl uw_X6 tyX6 tyX6_ok nmX6 4 (by decide) fkX6_50 rfl rfl rfl (Nat.le_of_ble_eq_true rfl) (by omega) dX6_undo_22 (fun H locs M10 hH hS e8 o9 => ?_)
    have hM11 : Md G d (sg (nI 0) (nI (σ.2.1 - 1)) (nI σ.2.2.2.2.2.1) at' w bm) (xs σ.1 A U L K (fun i => nI (σ.2.2.2.2.2.2 i)) SE SH BU) M10 := Md.setC hM4 e8 o9
    have hA12 := hM11.s (fun _ _ => rfl)
    have hF13 := fun q hq => (o9 q (by omega)).trans (hF6 q hq)
    refine n_iconst hx hb 0 dX6_undo_25 (by decide) ?_
    refine lv_istore_n (lv' := [(1, .int (nI 0)), (0, .ref d)]) hx hb dX6_undo_26 rfl hl (by decide) rfl (fun ls hl => ?_)
    have L27 : ∀ (dd : Nat) (k : Nat) (u : Wv) (M1 : Mm), 818 < k + dd → (k ≤ 818) → (Md G d (sg (nI 0) (nI (σ.2.1 - 1)) (nI σ.2.2.2.2.2.1) at' w bm) (xs u A U L K (fun i => nI (σ.2.2.2.2.2.2 i)) SE SH BU) M1) → (∀ q, (q < d ∨ d + 10 ≤ q) → M1 q = M q) → (∀ i, i < k → u i = (σ.2.2.1 (σ.2.1 - 1)) i) → ∀ (H : Heap) (locs : List Loc), zH G M1 H → zS 0 B0 s.heap H locs → ∀ (ls : Array Slot), lv_has ls 2 [(0, .ref d), (1, .int (nI k))] → zW pg l ev 5 0 0 s m [.ref d] below meth cd H locs 0 0 G B0 (some (.int (fUndo σ).1)) (fun M1 => Mo G d (fUndo σ).2 M1 ∧ ∀ q, (q < d ∨ d + 10 ≤ q) → M1 q = M q) (F0 m 27 ls []) := by
      intro dd
      induction dd with
      | zero =>
        intro k u M1 hdd hk hM1 hF1 hf
        exact absurd hdd (by omega)
      | succ dd ih =>
        intro k u M1 hdd hk hM1 hF1 hf H locs hH hS ls hl
        have hA1 : zArr G 0 M1 (d + 1) 818 (fun i => nI (u i)) := hM1.s (fun _ _ => rfl)
        refine lv_iload_n hx hb dX6_undo_27 rfl (lv_at hl 1 rfl) ?_
        refine n_sipush hx hb 818 dX6_undo_28 (by decide) ?_
        refine n_cmp_ge (tgt := 61) hx hb (by omega) (by decide) dX6_undo_31 (by decide) (fun h14 => ?_) (fun h14 => ?_)
        · have hM15 : Md G d (sg (nI 0) (nI (σ.2.1 - 1)) (nI σ.2.2.2.2.2.1) at' w bm) (xs (σ.2.2.1 (σ.2.1 - 1)) A U L K (fun i => nI (σ.2.2.2.2.2.2 i)) SE SH BU) M1 := hM1.to (j := 1) (fun i hi => congrArg nI (hf i (by have : i < 818 := hi; omega))) (fun i hi => by unfold xs; split <;> first | rfl | exact absurd rfl hi)
          have hA16 := hM15.s (fun _ _ => rfl)
          refine lv_aload_n hx hb dX6_undo_61 rfl (lv_at hl 0 rfl) ?_
          refine z_get (T := TX6) (v := .int (nI (σ.2.1 - 1))) hE hH hM15.1 rfl uw_X6 4 (by decide) fkX6_50 rfl dX6_undo_62 ?_
          have hf : fUndo σ = ((nI (σ.2.1 - 1)), (σ.2.2.1 (σ.2.1 - 1), σ.2.1 - 1, σ.2.2.1, σ.2.2.2.1, σ.2.2.2.2.1, σ.2.2.2.2.2.1, σ.2.2.2.2.2.2)) := by
            unfold fUndo
            first | rw [if_pos (show σ.2.1 = 0 by omega)] | rw [if_neg (show ¬ σ.2.1 = 0 by omega)]
          rw [hf]
          exact z_iret hE hH hS rfl ⟨⟨_, _, _, _, _, _, _, _, _, _, _, hM15, (fun k hk => hU k (Nat.lt_of_lt_of_le hk (Nat.sub_le _ _))), hL, hK⟩, hF1⟩ dX6_undo_65
        · refine lv_aload_n hx hb dX6_undo_34 rfl (lv_at hl 0 rfl) ?_
          refine z_get (T := TX6) (v := .ref (d + 1)) hE hH hM1.1 rfl uw_X6 1 (by decide) fkX6_7 rfl dX6_undo_35 ?_
          refine lv_iload_n hx hb dX6_undo_38 rfl (lv_at hl 1 rfl) ?_
          refine lv_aload_n hx hb dX6_undo_39 rfl (lv_at hl 0 rfl) ?_
          refine z_get (T := TX6) (v := .ref (d + 3)) hE hH hM1.1 rfl uw_X6 3 (by decide) fkX6_16 rfl dX6_undo_40 ?_
          refine n_sipush hx hb 818 dX6_undo_43 (by decide) ?_
          refine lv_aload_n hx hb dX6_undo_46 rfl (lv_at hl 0 rfl) ?_
          refine z_get (T := TX6) (v := .int (nI (σ.2.1 - 1))) hE hH hM1.1 rfl uw_X6 4 (by decide) fkX6_50 rfl dX6_undo_47 ?_
          refine n_imul hx hb dX6_undo_50 ?_
          refine lv_iload_n hx hb dX6_undo_51 rfl (lv_at hl 1 rfl) ?_
          refine n_iadd hx hb dX6_undo_52 ?_
          refine z_iald hE hH (show zArr G 0 M1 (d + 3) 4908 U from hM1.2 3 (by decide) (by decide)) (k := (818 * (σ.2.1 - 1)) + k) (by omega) (by decide) dX6_undo_53 ?_
          refine z_topeq (show _ = nI (σ.2.2.1 (σ.2.1 - 1) k) from hU (σ.2.1 - 1) (by omega) k (by omega)) ?_
          refine z_iast hE hH hS hA1 (k := k) (by omega) (by decide) (by omega) dX6_undo_54 (fun H locs M19 hH hS e17 o18 => ?_)
          have hM20 : Md G d (sg (nI 0) (nI (σ.2.1 - 1)) (nI σ.2.2.2.2.2.1) at' w bm) (xs (vset u (k) ((σ.2.2.1 (σ.2.1 - 1)) k)) A U L K (fun i => nI (σ.2.2.2.2.2.2 i)) SE SH BU) M19 := Md.setJ (j := 1) hM1 (by decide) (zArr.to e17 (fun q _ => by show (if q = _ then nI _ else nI _) = nI (fset _ _ _ q); unfold fset; by_cases hq : q = k <;> (first | (simp [hq]; done) | (rw [if_pos hq, if_pos hq]; done) | (rw [if_neg hq, if_neg hq]; done) | (rw [if_pos hq, if_pos hq]; rfl) | (rw [if_neg hq, if_neg hq]; rfl)))) (fun i hi => by unfold xs; split <;> first | rfl | exact absurd rfl hi) o18
          have hA22 := hM20.s (fun _ _ => rfl)
          have hF23 := fun q hq => (o18 q (by omega)).trans (hF1 q hq)
          refine lv_iinc (v := (nI (k + 1))) (lv' := [(1, .int (nI (k + 1))), (0, .ref d)]) hx hb dX6_undo_55 hl (k := 1) rfl (nI_inc _) (by decide) rfl (fun ls hl => ?_)
          refine lv_goto (tgt := 27) hx hb dX6_undo_58 (by decide) ?_
          exact ih  (k + 1) (vset u (k) ((σ.2.2.1 (σ.2.1 - 1)) k)) M19 (by omega) (by omega) hM20 hF23 (fun i hi => by show fset u _ _ i = _; unfold fset; by_cases hik : i = k; (· subst hik; rw [if_pos rfl]); (· rw [if_neg hik]; exact hf i (by omega))) _ _ hH hS _ (lv_sub hl [1, 0] rfl)
    exact L27 819 0 σ.1 M10 (by omega) (by omega) hM11 hF13 (fun i hi => absurd hi (Nat.not_lt_zero i)) _ _ hH hS _ (lv_sub hl [1, 0] rfl)
  · refine lv_bipush (v := (-5)) hx hb dX6_undo_12 (by decide) ?_
    have hf : fUndo σ = ((-5), (σ.1, σ.2.1, σ.2.2.1, σ.2.2.2.1, σ.2.2.2.2.1, σ.2.2.2.2.2.1, σ.2.2.2.2.2.2)) := by
      unfold fUndo
      first | rw [if_pos (show σ.2.1 = 0 by omega)] | rw [if_neg (show ¬ σ.2.1 = 0 by omega)]
    rw [hf]
    exact z_iret hE hH hS rfl ⟨⟨_, _, _, _, _, _, _, _, _, _, _, hM4, hU, hL, hK⟩, hF6⟩ dX6_undo_14

set_option maxHeartbeats 4000000 in
set_option maxRecDepth 100000 in
theorem c_X6_save (l : Launch) (G : zG) (B0 : Nat) (M : Mm) (d : Nat) (σ : Sg) (hC : Mo G d σ M) (hok : sOk σ) (hBd : B0 ≤ d) (c : Int32) : zMet l yX6_save cX6_save 3 (some .int) 5 0 0 G B0 M [.ref d, .int c] (some (.int (fSave σ c).1)) (fun M1 => Mo G d (fSave σ c).2 M1 ∧ ∀ q, (q < d ∨ d + 10 ≤ q) → M1 q = M q) := by
  refine z_met RX6 [(0, .ref d), (1, .int c)] (by decide) rfl (Nat.le_of_ble_eq_true rfl) rfl ?_
  intro pg ev s m below meth cd ls hE hin hB0 hH hl
  have hx := hE.1
  have hb := hE.2.1
  have hv : wOk σ.1 := hok.hw
  have hn : σ.1 0 ≤ 12 := hv.1
  have hdy : σ.1 1 ≤ 9999 := hok.1.2
  have hn6 : σ.2.1 ≤ 6 := hok.2.1
  have hhv : ∀ k, k < σ.2.1 → wOk (σ.2.2.1 k) := hok.hh
  have hsv : ∀ k, k < 2 → σ.2.2.2.2.1 k = true → wOk (σ.2.2.2.1 k) := hok.hs
  have hln : σ.2.2.2.2.2.1 ≤ 60 := hok.2.2.2.2.1
  have hpc : ∀ i, i < σ.2.2.2.2.2.1 → σ.2.2.2.2.2.2 i < 128 := fun i hi => by have h7 := (hok.2.2.2.2.2 i hi).2; exact Nat.lt_of_le_of_lt h7 (by decide)
  obtain ⟨t, at', w, bm, A, U, L, K, SE, SH, BU, hM, hU, hL, hK⟩ := hC
  have hA : zArr G 0 M (d + 1) 818 (fun i => nI (σ.1 i)) := hM.s (fun _ _ => rfl)
  have hF : ∀ q, (q < d ∨ d + 10 ≤ q) → M q = M q := fun _ _ => rfl
  refine z_gen B0 (fun H locs hH hS => ?_) hH
  refine lv_aload_n hx hb dX6_save_0 rfl (lv_at hl 0 rfl) ?_
  refine n_iconst hx hb 0 dX6_save_1 (by decide) ?_
  refine z_put (T := TX6) hE hH hS hM.1 rfl uw_X6 tyX6 tyX6_ok nmX6 0 (by decide) fkX6_38 rfl rfl rfl (Nat.le_of_ble_eq_true rfl) (by omega) dX6_save_2 (fun H locs M3 hH hS e1 o2 => ?_)
  have hM4 : Md G d (sg (nI 0) (nI σ.2.1) (nI σ.2.2.2.2.2.1) at' w bm) (xs σ.1 A U L K (fun i => nI (σ.2.2.2.2.2.2 i)) SE SH BU) M3 := Md.setC hM e1 o2
  have hA5 := hM4.s (fun _ _ => rfl)
  have hF6 := fun q hq => (o2 q (by omega)).trans (hF q hq)
  refine lv_iload_n hx hb dX6_save_5 rfl (lv_at hl 1 rfl) ?_
  refine n_iconst hx hb 0 dX6_save_6 (by decide) ?_
  refine n_iconst hx hb 1 dX6_save_7 (by decide) ?_
  refine z_callS (rest := []) (st2 := [.int (zb (wi c (nI 0) (nI 1)))]) hE hH hS hB0 hl ca_X6_in mkX6_42 (c_X6_in l G B0 M3 c (nI 0) (nI 1)) rfl rfl rfl ⟨Nat.le_of_ble_eq_true rfl, Nat.le_of_ble_eq_true rfl⟩ (Nat.le_of_ble_eq_true rfl) ⟨Nat.le_refl _, Nat.le_refl _⟩ dX6_save_8 (fun H locs M1 hH hp hS => ?_)
  subst hp
  refine b_if_ne (tgt := 17) hx hb dX6_save_11 (by decide) (fun h8 => ?_) (fun h8 => ?_)
  · obtain ⟨c', rfl, c1, c2⟩ := wi_nat (by decide) (by decide) h8
    have tx9 : tn (nI c') = c' := tn_nI (by omega)
    refine n_iconst hx hb 0 dX6_save_17 (by decide) ?_
    refine lv_istore_n (lv' := [(2, .int (nI 0)), (0, .ref d), (1, .int (nI c'))]) hx hb dX6_save_18 rfl hl (by decide) rfl (fun ls hl => ?_)
    have L19 : ∀ (dd : Nat) (k : Nat) (f : Nat → Int32) (M1 : Mm), 818 < k + dd → (k ≤ 818) → (Md G d (sg (nI 0) (nI σ.2.1) (nI σ.2.2.2.2.2.1) at' w bm) (xs σ.1 A U f K (fun i => nI (σ.2.2.2.2.2.2 i)) SE SH BU) M1) → (∀ q, (q < d ∨ d + 10 ≤ q) → M1 q = M q) → (∀ i, i < k → f (818 * c' + i) = nI (σ.1 i)) → (∀ i, (i < 818 * c' ∨ 818 * c' + 818 ≤ i) → f i = L i) → ∀ (H : Heap) (locs : List Loc), zH G M1 H → zS 0 B0 s.heap H locs → ∀ (ls : Array Slot), lv_has ls 3 [(0, .ref d), (1, .int (nI c')), (2, .int (nI k))] → zW pg l ev 5 0 0 s m [.ref d, .int (nI c')] below meth cd H locs 0 0 G B0 (some (.int (fSave σ (nI c')).1)) (fun M1 => Mo G d (fSave σ (nI c')).2 M1 ∧ ∀ q, (q < d ∨ d + 10 ≤ q) → M1 q = M q) (F0 m 19 ls []) := by
      intro dd
      induction dd with
      | zero =>
        intro k f M1 hdd hk hM1 hF1 hf hg
        exact absurd hdd (by omega)
      | succ dd ih =>
        intro k f M1 hdd hk hM1 hF1 hf hg H locs hH hS ls hl
        have hA1 : zArr G 0 M1 (d + 1) 818 (fun i => nI (σ.1 i)) := hM1.s (fun _ _ => rfl)
        refine lv_iload_n hx hb dX6_save_19 rfl (lv_at hl 2 rfl) ?_
        refine n_sipush hx hb 818 dX6_save_20 (by decide) ?_
        refine n_cmp_ge (tgt := 50) hx hb (by omega) (by decide) dX6_save_23 (by decide) (fun h10 => ?_) (fun h10 => ?_)
        · have hLs : ∀ k, k < 2 → (fun k => if k = c' then true else σ.2.2.2.2.1 k) k = true → ∀ i, i < 818 → f (818 * k + i) = nI ((fun k => if k = c' then σ.1 else σ.2.2.2.1 k) k i) := by
            intro j hj hd i hi
            show _ = nI ((if j = c' then σ.1 else σ.2.2.2.1 j) i)
            by_cases hjc : j = c'
            · subst hjc; rw [if_pos rfl]; exact hf i (by omega)
            · rw [if_neg hjc, hg _ (by omega)]
              exact hL j hj (by have hd2 : (if j = c' then true else σ.2.2.2.2.1 j) = true := hd; rw [if_neg hjc] at hd2; exact hd2) i hi
          have hKs : ∀ k, k < 2 → (if k = c' then nI 1 else K k) = zb ((fun k => if k = c' then true else σ.2.2.2.2.1 k) k) := by
            intro j hj
            show _ = zb (if j = c' then true else σ.2.2.2.2.1 j)
            by_cases hjc : j = c'
            · rw [if_pos hjc, if_pos hjc]; decide
            · rw [if_neg hjc, if_neg hjc]; exact hK j hj
          refine lv_aload_n hx hb dX6_save_50 rfl (lv_at hl 0 rfl) ?_
          refine z_get (T := TX6) (v := .ref (d + 5)) hE hH hM1.1 rfl uw_X6 6 (by decide) fkX6_22 rfl dX6_save_51 ?_
          refine lv_iload_n hx hb dX6_save_54 rfl (lv_at hl 1 rfl) ?_
          refine n_iconst hx hb 1 dX6_save_55 (by decide) ?_
          refine z_zast hE hH hS (show zArr G 3 M1 (d + 5) 2 K from hM1.2 5 (by decide) (by decide)) (congrArg Value.int (show nI 1 &&& 1 = nI 1 from by decide)) (k := c') (by omega) (by decide) (by omega) dX6_save_56 (fun H locs M13 hH hS e11 o12 => ?_)
          have hM14 : Md G d (sg (nI 0) (nI σ.2.1) (nI σ.2.2.2.2.2.1) at' w bm) (xs σ.1 A U f (fun i => if i = c' then (nI 1) else K i) (fun i => nI (σ.2.2.2.2.2.2 i)) SE SH BU) M13 := Md.setJ (j := 5) hM1 (by decide) e11 (fun i hi => by unfold xs; split <;> first | rfl | exact absurd rfl hi) o12
          have hA15 := hM14.s (fun _ _ => rfl)
          have hF16 := fun q hq => (o12 q (by omega)).trans (hF1 q hq)
          refine lv_aload_n hx hb dX6_save_57 rfl (lv_at hl 0 rfl) ?_
          refine z_get (T := TX6) (v := .ref (d + 1)) hE hH hM14.1 rfl uw_X6 1 (by decide) fkX6_7 rfl dX6_save_58 ?_
          refine n_iconst hx hb 0 dX6_save_61 (by decide) ?_
          refine z_iald hE hH hA15 (k := 0) (by omega) (by decide) dX6_save_62 ?_
          have hf : fSave σ (nI c') = ((nI (σ.1 (0))), (σ.1, σ.2.1, σ.2.2.1, (fun k => if k = c' then σ.1 else σ.2.2.2.1 k), (fun k => if k = c' then true else σ.2.2.2.2.1 k), σ.2.2.2.2.2.1, σ.2.2.2.2.2.2)) := by
            simp only [fSave, sV, sN, sH, sS, sD, sL, sP, h8, tx9, h10]
            rw [if_neg (by decide)]
          rw [hf]
          exact z_iret hE hH hS rfl ⟨⟨_, _, _, _, _, _, _, _, _, _, _, hM14, hU, hLs, hKs⟩, hF16⟩ dX6_save_63
        · refine lv_aload_n hx hb dX6_save_26 rfl (lv_at hl 0 rfl) ?_
          refine z_get (T := TX6) (v := .ref (d + 4)) hE hH hM1.1 rfl uw_X6 5 (by decide) fkX6_19 rfl dX6_save_27 ?_
          refine n_sipush hx hb 818 dX6_save_30 (by decide) ?_
          refine lv_iload_n hx hb dX6_save_33 rfl (lv_at hl 1 rfl) ?_
          refine n_imul hx hb dX6_save_34 ?_
          refine lv_iload_n hx hb dX6_save_35 rfl (lv_at hl 2 rfl) ?_
          refine n_iadd hx hb dX6_save_36 ?_
          refine lv_aload_n hx hb dX6_save_37 rfl (lv_at hl 0 rfl) ?_
          refine z_get (T := TX6) (v := .ref (d + 1)) hE hH hM1.1 rfl uw_X6 1 (by decide) fkX6_7 rfl dX6_save_38 ?_
          refine lv_iload_n hx hb dX6_save_41 rfl (lv_at hl 2 rfl) ?_
          refine z_iald hE hH hA1 (k := k) (by omega) (by decide) dX6_save_42 ?_
          refine z_iast hE hH hS (show zArr G 0 M1 (d + 4) 1636 f from hM1.2 4 (by decide) (by decide)) (k := (818 * c') + k) (by omega) (by decide) (by omega) dX6_save_43 (fun H locs M19 hH hS e17 o18 => ?_)
          have hM20 : Md G d (sg (nI 0) (nI σ.2.1) (nI σ.2.2.2.2.2.1) at' w bm) (xs σ.1 A U (fun i => if i = ((818 * c') + k) then (nI (σ.1 (k))) else f i) K (fun i => nI (σ.2.2.2.2.2.2 i)) SE SH BU) M19 := Md.setJ (j := 4) hM1 (by decide) e17 (fun i hi => by unfold xs; split <;> first | rfl | exact absurd rfl hi) o18
          have hA21 := hM20.s (fun _ _ => rfl)
          have hF22 := fun q hq => (o18 q (by omega)).trans (hF1 q hq)
          refine lv_iinc (v := (nI (k + 1))) (lv' := [(2, .int (nI (k + 1))), (0, .ref d), (1, .int (nI c'))]) hx hb dX6_save_44 hl (k := 2) rfl (nI_inc _) (by decide) rfl (fun ls hl => ?_)
          refine lv_goto (tgt := 19) hx hb dX6_save_47 (by decide) ?_
          exact ih  (k + 1) (fun i => if i = ((818 * c') + k) then (nI (σ.1 (k))) else f i) M19 (by omega) (by omega) hM20 hF22 (fun i hi => by show (if 818 * c' + i = 818 * c' + k then _ else _) = _; by_cases hik : i = k; (· subst hik; rw [if_pos rfl]); (· rw [if_neg (by omega)]; exact hf i (by omega))) (fun i hi => by show (if i = 818 * c' + k then _ else _) = _; rw [if_neg (by omega)]; exact hg i hi) _ _ hH hS _ (lv_sub hl [1, 2, 0] rfl)
    exact L19 819 0 L M3 (by omega) (by omega) hM4 hF6 (fun i hi => absurd hi (Nat.not_lt_zero i)) (fun _ _ => rfl) _ _ hH hS _ (lv_sub hl [1, 2, 0] rfl)
  · refine lv_bipush (v := (-2)) hx hb dX6_save_14 (by decide) ?_
    have hf : fSave σ c = ((-2), (σ.1, σ.2.1, σ.2.2.1, σ.2.2.2.1, σ.2.2.2.2.1, σ.2.2.2.2.2.1, σ.2.2.2.2.2.2)) := by
      simp [fSave, chg, sV, sN, sH, sS, sD, sL, sP, h8]
      try omega
    rw [hf]
    exact z_iret hE hH hS rfl ⟨⟨_, _, _, _, _, _, _, _, _, _, _, hM4, hU, hL, hK⟩, hF6⟩ dX6_save_16

set_option maxHeartbeats 4000000 in
set_option maxRecDepth 100000 in
theorem c_X6_restore (l : Launch) (G : zG) (B0 : Nat) (M : Mm) (d : Nat) (σ : Sg) (hC : Mo G d σ M) (hok : sOk σ) (hBd : B0 ≤ d) (c : Int32) : zMet l yX6_restore cX6_restore 3 (some .int) 5 0 0 G B0 M [.ref d, .int c] (some (.int (fRestore σ c).1)) (fun M1 => Mo G d (fRestore σ c).2 M1 ∧ ∀ q, (q < d ∨ d + 10 ≤ q) → M1 q = M q) := by
  refine z_met RX6 [(0, .ref d), (1, .int c)] (by decide) rfl (Nat.le_of_ble_eq_true rfl) rfl ?_
  intro pg ev s m below meth cd ls hE hin hB0 hH hl
  have hx := hE.1
  have hb := hE.2.1
  have hv : wOk σ.1 := hok.hw
  have hn : σ.1 0 ≤ 12 := hv.1
  have hdy : σ.1 1 ≤ 9999 := hok.1.2
  have hn6 : σ.2.1 ≤ 6 := hok.2.1
  have hhv : ∀ k, k < σ.2.1 → wOk (σ.2.2.1 k) := hok.hh
  have hsv : ∀ k, k < 2 → σ.2.2.2.2.1 k = true → wOk (σ.2.2.2.1 k) := hok.hs
  have hln : σ.2.2.2.2.2.1 ≤ 60 := hok.2.2.2.2.1
  have hpc : ∀ i, i < σ.2.2.2.2.2.1 → σ.2.2.2.2.2.2 i < 128 := fun i hi => by have h7 := (hok.2.2.2.2.2 i hi).2; exact Nat.lt_of_le_of_lt h7 (by decide)
  obtain ⟨t, at', w, bm, A, U, L, K, SE, SH, BU, hM, hU, hL, hK⟩ := hC
  have hA : zArr G 0 M (d + 1) 818 (fun i => nI (σ.1 i)) := hM.s (fun _ _ => rfl)
  have hF : ∀ q, (q < d ∨ d + 10 ≤ q) → M q = M q := fun _ _ => rfl
  refine z_gen B0 (fun H locs hH hS => ?_) hH
  refine lv_aload_n hx hb dX6_restore_0 rfl (lv_at hl 0 rfl) ?_
  refine n_iconst hx hb 0 dX6_restore_1 (by decide) ?_
  refine z_put (T := TX6) hE hH hS hM.1 rfl uw_X6 tyX6 tyX6_ok nmX6 0 (by decide) fkX6_38 rfl rfl rfl (Nat.le_of_ble_eq_true rfl) (by omega) dX6_restore_2 (fun H locs M3 hH hS e1 o2 => ?_)
  have hM4 : Md G d (sg (nI 0) (nI σ.2.1) (nI σ.2.2.2.2.2.1) at' w bm) (xs σ.1 A U L K (fun i => nI (σ.2.2.2.2.2.2 i)) SE SH BU) M3 := Md.setC hM e1 o2
  have hA5 := hM4.s (fun _ _ => rfl)
  have hF6 := fun q hq => (o2 q (by omega)).trans (hF q hq)
  refine lv_iload_n hx hb dX6_restore_5 rfl (lv_at hl 1 rfl) ?_
  refine n_iconst hx hb 0 dX6_restore_6 (by decide) ?_
  refine n_iconst hx hb 1 dX6_restore_7 (by decide) ?_
  refine z_callS (rest := []) (st2 := [.int (zb (wi c (nI 0) (nI 1)))]) hE hH hS hB0 hl ca_X6_in mkX6_42 (c_X6_in l G B0 M3 c (nI 0) (nI 1)) rfl rfl rfl ⟨Nat.le_of_ble_eq_true rfl, Nat.le_of_ble_eq_true rfl⟩ (Nat.le_of_ble_eq_true rfl) ⟨Nat.le_refl _, Nat.le_refl _⟩ dX6_restore_8 (fun H locs M1 hH hp hS => ?_)
  subst hp
  refine b_if_ne (tgt := 17) hx hb dX6_restore_11 (by decide) (fun h8 => ?_) (fun h8 => ?_)
  · obtain ⟨c', rfl, c1, c2⟩ := wi_nat (by decide) (by decide) h8
    have tx9 : tn (nI c') = c' := tn_nI (by omega)
    refine lv_aload_n hx hb dX6_restore_17 rfl (lv_at hl 0 rfl) ?_
    refine z_get (T := TX6) (v := .ref (d + 5)) hE hH hM4.1 rfl uw_X6 6 (by decide) fkX6_22 rfl dX6_restore_18 ?_
    refine lv_iload_n hx hb dX6_restore_21 rfl (lv_at hl 1 rfl) ?_
    refine z_zald hE hH (show zArr G 3 M3 (d + 5) 2 K from hM4.2 5 (by decide) (by decide)) (k := c') (by omega) (by decide) dX6_restore_22 ?_
    refine z_topeq (show K c' = zb (σ.2.2.2.2.1 c') from hK c' (by omega)) ?_
    refine b_if_ne (tgt := 29) hx hb dX6_restore_23 (by decide) (fun h11 => ?_) (fun h11 => ?_)
    · refine lv_aload_n hx hb dX6_restore_29 rfl (lv_at hl 0 rfl) ?_
      refine z_callV (rest := []) (st2 := []) hE hH hS hB0 hl ca_X6_records mkX6_81 (c_X6_records l G B0 M3 d (nI 0) (nI σ.2.2.2.2.2.1) at' w bm σ.2.1 σ.2.2.1 σ.1 A U L K (fun i => nI (σ.2.2.2.2.2.2 i)) SE SH BU hM4 hv (by omega) hn6 hU) hM4.1 rfl rfl rfl rfl rfl ⟨Nat.le_of_ble_eq_true rfl, Nat.le_of_ble_eq_true rfl⟩ (Nat.le_of_ble_eq_true rfl) ⟨Nat.le_refl _, Nat.le_refl _⟩ dX6_restore_30 (fun H locs M12 hH hp hS => ?_)
      obtain ⟨U13, hM14, hU17, hG15⟩ := hp
      have hA18 := hM14.s (fun _ _ => rfl)
      have hF16 := fun q hq => (hG15 q hq).trans (hF6 q hq)
      refine n_iconst hx hb 0 dX6_restore_33 (by decide) ?_
      refine lv_istore_n (lv' := [(2, .int (nI 0)), (0, .ref d), (1, .int (nI c'))]) hx hb dX6_restore_34 rfl hl (by decide) rfl (fun ls hl => ?_)
      have L35 : ∀ (dd : Nat) (k : Nat) (u : Wv) (M1 : Mm), 818 < k + dd → (k ≤ 818) → (Md G d (sg (nI 0) (nI (keepN σ.2.1)) (nI σ.2.2.2.2.2.1) at' w bm) (xs u A U13 L K (fun i => nI (σ.2.2.2.2.2.2 i)) SE SH BU) M1) → (∀ q, (q < d ∨ d + 10 ≤ q) → M1 q = M q) → (∀ i, i < k → u i = (σ.2.2.2.1 c') i) → ∀ (H : Heap) (locs : List Loc), zH G M1 H → zS 0 B0 s.heap H locs → ∀ (ls : Array Slot), lv_has ls 3 [(0, .ref d), (1, .int (nI c')), (2, .int (nI k))] → zW pg l ev 5 0 0 s m [.ref d, .int (nI c')] below meth cd H locs 0 0 G B0 (some (.int (fRestore σ (nI c')).1)) (fun M1 => Mo G d (fRestore σ (nI c')).2 M1 ∧ ∀ q, (q < d ∨ d + 10 ≤ q) → M1 q = M q) (F0 m 35 ls []) := by
        intro dd
        induction dd with
        | zero =>
          intro k u M1 hdd hk hM1 hF1 hf
          exact absurd hdd (by omega)
        | succ dd ih =>
          intro k u M1 hdd hk hM1 hF1 hf H locs hH hS ls hl
          have hA1 : zArr G 0 M1 (d + 1) 818 (fun i => nI (u i)) := hM1.s (fun _ _ => rfl)
          refine lv_iload_n hx hb dX6_restore_35 rfl (lv_at hl 2 rfl) ?_
          refine n_sipush hx hb 818 dX6_restore_36 (by decide) ?_
          refine n_cmp_ge (tgt := 66) hx hb (by omega) (by decide) dX6_restore_39 (by decide) (fun h19 => ?_) (fun h19 => ?_)
          · have hvr : wOk (σ.2.2.2.1 c') := hsv c' (by omega) h11
            have hM20 : Md G d (sg (nI 0) (nI (keepN σ.2.1)) (nI σ.2.2.2.2.2.1) at' w bm) (xs (σ.2.2.2.1 c') A U13 L K (fun i => nI (σ.2.2.2.2.2.2 i)) SE SH BU) M1 := hM1.to (j := 1) (fun i hi => congrArg nI (hf i (by have : i < 818 := hi; omega))) (fun i hi => by unfold xs; split <;> first | rfl | exact absurd rfl hi)
            have hA21 := hM20.s (fun _ _ => rfl)
            refine lv_aload_n hx hb dX6_restore_66 rfl (lv_at hl 0 rfl) ?_
            refine z_get (T := TX6) (v := .ref (d + 1)) hE hH hM20.1 rfl uw_X6 1 (by decide) fkX6_7 rfl dX6_restore_67 ?_
            refine n_iconst hx hb 0 dX6_restore_70 (by decide) ?_
            refine z_iald hE hH hA21 (k := 0) (by omega) (by decide) dX6_restore_71 ?_
            have hf : fRestore σ (nI c') = ((nI ((σ.2.2.2.1 c') (0))), (σ.2.2.2.1 c', keepN σ.2.1, keepH σ.2.2.1 σ.2.1 σ.1, σ.2.2.2.1, σ.2.2.2.2.1, σ.2.2.2.2.2.1, σ.2.2.2.2.2.2)) := by
              simp [fRestore, chg, sV, sN, sH, sS, sD, sL, sP, h8, tx9, h11, h19]
              try omega
            rw [hf]
            exact z_iret hE hH hS rfl ⟨⟨_, _, _, _, _, _, _, _, _, _, _, hM20, hU17, hL, hK⟩, hF1⟩ dX6_restore_72
          · refine lv_aload_n hx hb dX6_restore_42 rfl (lv_at hl 0 rfl) ?_
            refine z_get (T := TX6) (v := .ref (d + 1)) hE hH hM1.1 rfl uw_X6 1 (by decide) fkX6_7 rfl dX6_restore_43 ?_
            refine lv_iload_n hx hb dX6_restore_46 rfl (lv_at hl 2 rfl) ?_
            refine lv_aload_n hx hb dX6_restore_47 rfl (lv_at hl 0 rfl) ?_
            refine z_get (T := TX6) (v := .ref (d + 4)) hE hH hM1.1 rfl uw_X6 5 (by decide) fkX6_19 rfl dX6_restore_48 ?_
            refine n_sipush hx hb 818 dX6_restore_51 (by decide) ?_
            refine lv_iload_n hx hb dX6_restore_54 rfl (lv_at hl 1 rfl) ?_
            refine n_imul hx hb dX6_restore_55 ?_
            refine lv_iload_n hx hb dX6_restore_56 rfl (lv_at hl 2 rfl) ?_
            refine n_iadd hx hb dX6_restore_57 ?_
            refine z_iald hE hH (show zArr G 0 M1 (d + 4) 1636 L from hM1.2 4 (by decide) (by decide)) (k := (818 * c') + k) (by omega) (by decide) dX6_restore_58 ?_
            refine z_topeq (show _ = nI (σ.2.2.2.1 c' k) from hL c' (by omega) h11 k (by omega)) ?_
            refine z_iast hE hH hS hA1 (k := k) (by omega) (by decide) (by omega) dX6_restore_59 (fun H locs M24 hH hS e22 o23 => ?_)
            have hM25 : Md G d (sg (nI 0) (nI (keepN σ.2.1)) (nI σ.2.2.2.2.2.1) at' w bm) (xs (vset u (k) (σ.2.2.2.1 c' k)) A U13 L K (fun i => nI (σ.2.2.2.2.2.2 i)) SE SH BU) M24 := Md.setJ (j := 1) hM1 (by decide) (zArr.to e22 (fun q _ => by show (if q = _ then nI _ else nI _) = nI (fset _ _ _ q); unfold fset; by_cases hq : q = k <;> (first | (simp [hq]; done) | (rw [if_pos hq, if_pos hq]; done) | (rw [if_neg hq, if_neg hq]; done) | (rw [if_pos hq, if_pos hq]; rfl) | (rw [if_neg hq, if_neg hq]; rfl)))) (fun i hi => by unfold xs; split <;> first | rfl | exact absurd rfl hi) o23
            have hA27 := hM25.s (fun _ _ => rfl)
            have hF28 := fun q hq => (o23 q (by omega)).trans (hF1 q hq)
            refine lv_iinc (v := (nI (k + 1))) (lv' := [(2, .int (nI (k + 1))), (0, .ref d), (1, .int (nI c'))]) hx hb dX6_restore_60 hl (k := 2) rfl (nI_inc _) (by decide) rfl (fun ls hl => ?_)
            refine lv_goto (tgt := 35) hx hb dX6_restore_63 (by decide) ?_
            exact ih  (k + 1) (vset u (k) (σ.2.2.2.1 c' k)) M24 (by omega) (by omega) hM25 hF28 (fun i hi => by show fset u _ _ i = _; unfold fset; by_cases hik : i = k; (· subst hik; rw [if_pos rfl]); (· rw [if_neg hik]; exact hf i (by omega))) _ _ hH hS _ (lv_sub hl [1, 2, 0] rfl)
      exact L35 819 0 σ.1 M12 (by omega) (by omega) hM14 hF16 (fun i hi => absurd hi (Nat.not_lt_zero i)) _ _ hH hS _ (lv_sub hl [1, 2, 0] rfl)
    · refine lv_bipush (v := (-5)) hx hb dX6_restore_26 (by decide) ?_
      have hf : fRestore σ (nI c') = ((-5), (σ.1, σ.2.1, σ.2.2.1, σ.2.2.2.1, σ.2.2.2.2.1, σ.2.2.2.2.2.1, σ.2.2.2.2.2.2)) := by
        simp [fRestore, chg, sV, sN, sH, sS, sD, sL, sP, h8, tx9, h11]
        try omega
      rw [hf]
      exact z_iret hE hH hS rfl ⟨⟨_, _, _, _, _, _, _, _, _, _, _, hM4, hU, hL, hK⟩, hF6⟩ dX6_restore_28
  · refine lv_bipush (v := (-2)) hx hb dX6_restore_14 (by decide) ?_
    have hf : fRestore σ c = ((-2), (σ.1, σ.2.1, σ.2.2.1, σ.2.2.2.1, σ.2.2.2.2.1, σ.2.2.2.2.2.1, σ.2.2.2.2.2.2)) := by
      simp [fRestore, chg, sV, sN, sH, sS, sD, sL, sP, h8]
      try omega
    rw [hf]
    exact z_iret hE hH hS rfl ⟨⟨_, _, _, _, _, _, _, _, _, _, _, hM4, hU, hL, hK⟩, hF6⟩ dX6_restore_16
