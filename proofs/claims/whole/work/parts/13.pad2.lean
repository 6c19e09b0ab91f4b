/-- the characters of a number, while each is one; f so far -/
def sgF : Nat → Nat → Nat → Nat
  | 0, _, f => f
  | n + 1, r, f => if r = 0 then f else if r % 256 < 33 ∨ 126 < r % 256 then 0 else sgF n (r / 256) (f + 1)
theorem sgF_succ (n r f : Nat) : sgF (n + 1) r f = if r = 0 then f else if r % 256 < 33 ∨ 126 < r % 256 then 0 else sgF n (r / 256) (f + 1) := rfl
theorem sgF_0 (n f : Nat) : sgF n 0 f = f := by
  cases n with
  | zero => rfl
  | succ n => rw [sgF_succ, if_pos rfl]
theorem sgF_le : ∀ (n r f : Nat), sgF n r f ≤ n + f
  | 0, _, f => by show f ≤ 0 + f; omega
  | n + 1, r, f => by
    rw [sgF_succ]
    split
    · omega
    · split
      · omega
      · have := sgF_le n (r / 256) (f + 1); omega

set_option maxHeartbeats 4000000 in
set_option maxRecDepth 100000 in
theorem c_X2_signsIn (l : Launch) (G : zG) (B0 : Nat) (M : Mm) (r0 : Nat) (hr0 : r0 < 2 ^ 64) : zMet l yX2_signsIn cX2_signsIn 6 (some .int) 0 0 0 G B0 M [.long (lN r0)] (some (.int (nI (sgF 8 r0 0)))) (fun M1 => M = M1) := by
  refine z_met RX2 [(0, .long (lN r0))] (by decide) rfl (Nat.le_of_ble_eq_true rfl) rfl ?_
  intro pg ev s m below meth cd ls hE hin hB0 hH hl
  have hx := hE.1
  have hb := hE.2.1
  refine z_gen B0 (fun H locs hH hS => ?_) hH
  refine n_iconst hx hb 0 dX2_signsIn_0 (by decide) ?_
  refine lv_istore_n (lv' := [(2, .int (nI 0)), (0, .long (lN r0))]) hx hb dX2_signsIn_1 rfl hl (by decide) rfl (fun ls hl => ?_)
  refine lv_lload_n hx hb dX2_signsIn_2 rfl (lv_at hl 1 rfl) ?_
  refine lv_lstore_n (lv' := [(3, .long (lN r0)), (2, .int (nI 0)), (0, .long (lN r0))]) hx hb dX2_signsIn_3 rfl hl (by decide) rfl (fun ls hl => ?_)
  have L4 : ∀ (dd : Nat) (n : Nat) (r : Nat) (f : Nat), n < dd → (f + n = 8) → (r < 2 ^ 64) → (sgF n r f = sgF 8 r0 0) → ∀ (H : Heap) (locs : List Loc), zH G M H → zS 0 B0 s.heap H locs → ∀ (ls : Array Slot), lv_has ls 6 [(0, .long (lN r0)), (2, .int (nI f)), (3, .long (lN r))] → zW pg l ev 0 0 0 s m [.long (lN r0)] below meth cd H locs 0 0 G B0 (some (.int (nI (sgF 8 r0 0)))) (fun M1 => M = M1) (F0 m 4 ls []) := by
    intro dd
    induction dd with
    | zero =>
      intro n r f hdd hf hr hs
      exact absurd hdd (by omega)
    | succ dd ih =>
      intro n r f hdd hf hr hs H locs hH hS ls hl
      refine lv_lload_n hx hb dX2_signsIn_4 rfl (lv_at hl 2 rfl) ?_
      refine lv_lconst (v := lN 0) hx hb dX2_signsIn_5 (by decide) ?_
      refine W.lcmp hx hb dX2_signsIn_6 ?_
      refine c_if_eq (tgt := 51) hx hb (by omega) dX2_signsIn_7 (by decide) (fun h1 => ?_) (fun h1 => ?_)
      · refine lv_iload_n hx hb dX2_signsIn_51 rfl (lv_at hl 1 rfl) ?_
        exact z_iret hE hH hS (by rw [← hs]; first | (rw [show r = 0 by omega, sgF_0]; done) | (rw [show n = 0 by omega]; rfl)) rfl dX2_signsIn_52
      · refine lv_iload_n hx hb dX2_signsIn_10 rfl (lv_at hl 1 rfl) ?_
        refine n_bipush hx hb 8 dX2_signsIn_11 (by decide) ?_
        refine n_cmp_ge (tgt := 51) hx hb (by omega) (by decide) dX2_signsIn_13 (by decide) (fun h2 => ?_) (fun h2 => ?_)
        · refine lv_iload_n hx hb dX2_signsIn_51 rfl (lv_at hl 1 rfl) ?_
          exact z_iret hE hH hS (by rw [← hs]; first | (rw [show r = 0 by omega, sgF_0]; done) | (rw [show n = 0 by omega]; rfl)) rfl dX2_signsIn_52
        · refine lv_lload_n hx hb dX2_signsIn_16 rfl (lv_at hl 2 rfl) ?_
          refine lv_ldc2 (v := lN 255) hx hb hE.2.2.2.1 (hE.2.2.2.2.1 _ kcX2_22) dX2_signsIn_17 ?_
          refine l_mask hx hb (by omega) dX2_signsIn_20 ?_
          refine lv_l2i (v := nI (r % 256)) hx hb dX2_signsIn_21 (lN_i _) ?_
          refine lv_istore (lv' := [(5, .int (nI (r % 256))), (0, .long (lN r0)), (2, .int (nI f)), (3, .long (lN r))]) hx hb dX2_signsIn_22 hl (by decide) rfl (fun ls hl => ?_)
          refine lv_iload hx hb dX2_signsIn_24 (lv_at hl 0 rfl) ?_
          refine n_bipush hx hb 33 dX2_signsIn_26 (by decide) ?_
          refine n_cmp_lt (tgt := 38) hx hb (by omega) (by decide) dX2_signsIn_28 (by decide) (fun h3 => ?_) (fun h3 => ?_)
          · refine n_iconst hx hb 0 dX2_signsIn_38 (by decide) ?_
            exact z_iret hE hH hS (by rw [← hs]; obtain ⟨n', rfl⟩ : ∃ n', n = n' + 1 := ⟨n - 1, by omega⟩; rw [sgF_succ, if_neg (by omega), if_pos (by omega)]) rfl dX2_signsIn_39
          · refine lv_iload hx hb dX2_signsIn_31 (lv_at hl 0 rfl) ?_
            refine n_bipush hx hb 126 dX2_signsIn_33 (by decide) ?_
            refine n_cmp_le (tgt := 40) hx hb (by omega) (by decide) dX2_signsIn_35 (by decide) (fun h4 => ?_) (fun h4 => ?_)
            · refine lv_iinc (v := (nI (f + 1))) (lv' := [(2, .int (nI (f + 1))), (5, .int (nI (r % 256))), (0, .long (lN r0)), (3, .long (lN r))]) hx hb dX2_signsIn_40 hl (k := 2) rfl (nI_inc _) (by decide) rfl (fun ls hl => ?_)
              refine lv_lload_n hx hb dX2_signsIn_43 rfl (lv_at hl 3 rfl) ?_
              refine n_bipush hx hb 8 dX2_signsIn_44 (by decide) ?_
              refine l_shr hx hb (by omega) (by decide) dX2_signsIn_46 ?_
              refine lv_lstore_n (lv' := [(3, .long (lN (r / 2 ^ 8))), (2, .int (nI (f + 1))), (5, .int (nI (r % 256))), (0, .long (lN r0))]) hx hb dX2_signsIn_47 rfl hl (by decide) rfl (fun ls hl => ?_)
              refine lv_goto (tgt := 4) hx hb dX2_signsIn_48 (by decide) ?_
              exact ih  (n - 1) (r / 2 ^ 8) (f + 1) (by omega) (by omega) (by omega) (by rw [← hs]; obtain ⟨n', rfl⟩ : ∃ n', n = n' + 1 := ⟨n - 1, by omega⟩; rw [sgF_succ, if_neg (by omega), if_neg (by omega)]; rfl) _ _ hH hS _ (lv_sub hl [3, 1, 0] rfl)
            · refine n_iconst hx hb 0 dX2_signsIn_38 (by decide) ?_
              exact z_iret hE hH hS (by rw [← hs]; obtain ⟨n', rfl⟩ : ∃ n', n = n' + 1 := ⟨n - 1, by omega⟩; rw [sgF_succ, if_neg (by omega), if_pos (by omega)]) rfl dX2_signsIn_39
  exact L4 9 8 r0 0 (by omega) (by omega) hr0 rfl _ _ hH hS _ (lv_sub hl [2, 1, 0] rfl)

def apS (ps : Nat → Nat) (len r n : Nat) : Nat → Nat := fun i => if len ≤ i ∧ i < len + n then (r / 256 ^ (len + n - 1 - i)) % 256 else ps i
/-- the pad while the characters are written from the last one down to i -/
def apG (ps : Nat → Nat) (len r n i : Nat) : Nat → Nat := fun q => if i ≤ q then apS ps len r n q else ps q
theorem apG_step (ps : Nat → Nat) {len r n i : Nat} (h1 : len ≤ i) (h2 : i < len + n) (q : Nat) : fset (apG ps len r n (i + 1)) i ((r / 256 ^ (len + n - 1 - i)) % 256) q = apG ps len r n i q := by
  unfold fset apG
  by_cases hq : q = i
  · subst hq
    rw [if_pos rfl, if_pos (Nat.le_refl _)]
    unfold apS
    rw [if_pos ⟨h1, h2⟩]
  · rw [if_neg hq]
    by_cases h3 : i ≤ q
    · rw [if_pos (by omega), if_pos h3]
    · rw [if_neg (by omega), if_neg h3]
theorem apDiv (r m : Nat) : r / 256 ^ m / 2 ^ 8 = r / 256 ^ (m + 1) := by
  show r / 256 ^ m / 256 = _
  rw [Nat.div_div_eq_div_mul]
  rfl
theorem PdM.to {G : zG} {d len : Nat} {ps ps2 : Nat → Nat} {M : Mm} (h : PdM G d len ps M) (e : ∀ i, i < 60 → ps i = ps2 i) : PdM G d len ps2 M := ⟨h.1, h.2.to fun i hi => congrArg nI (e i hi)⟩

set_option maxHeartbeats 4000000 in
set_option maxRecDepth 100000 in
theorem c_X2_append (l : Launch) (G : zG) (B0 : Nat) (M : Mm) (d len : Nat) (ps : Nat → Nat) (hP : PdM G d len ps M) (hlen : len ≤ 60) (hBd : B0 ≤ d) (r0 n : Nat) (hr0 : r0 < 2 ^ 64) (hn : n ≤ 60 - len) : zMet l yX2_append cX2_append 7 none 0 0 0 G B0 M [.ref d, .long (lN r0), .int (nI n)] none (fun M1 => PdM G d (len + n) (apS ps len r0 n) M1 ∧ ∀ q, (q ≠ d ∧ q ≠ d + 1) → M1 q = M q) := by
  refine z_met RX2 [(0, .ref d), (1, .long (lN r0)), (3, .int (nI n))] (by decide) rfl (Nat.le_of_ble_eq_true rfl) rfl ?_
  intro pg ev s m below meth cd ls hE hin hB0 hH hl
  have hx := hE.1
  have hb := hE.2.1
  have hF : ∀ q, (q ≠ d ∧ q ≠ d + 1) → M q = M q := fun _ _ => rfl
  refine z_gen B0 (fun H locs hH hS => ?_) hH
  refine lv_iload_n hx hb dX2_append_0 rfl (lv_at hl 2 rfl) ?_
  refine n_if_lt (off := 14) (tgt := 15) hx hb (by omega) dX2_append_1 ?_ (by decide)
  refine lv_iload_n hx hb dX2_append_4 rfl (lv_at hl 2 rfl) ?_
  refine n_bipush hx hb 60 dX2_append_5 (by decide) ?_
  refine lv_aload_n hx hb dX2_append_7 rfl (lv_at hl 0 rfl) ?_
  refine z_get (T := TX2) (v := .int (nI len)) hE hH hP.1 rfl uw_X2 1 (by decide) fkX2_24 rfl dX2_append_8 ?_
  refine n_isub hx hb (by omega) dX2_append_11 ?_
  refine n_cmp_le (tgt := 16) hx hb (by omega) (by omega) dX2_append_12 (by decide) (fun h2 => ?_) (fun h2 => ?_)
  · refine lv_lload_n hx hb dX2_append_16 rfl (lv_at hl 1 rfl) ?_
    refine lv_lstore (lv' := [(4, .long (lN r0)), (0, .ref d), (1, .long (lN r0)), (3, .int (nI n))]) hx hb dX2_append_17 hl (by decide) rfl (fun ls hl => ?_)
    refine lv_aload_n hx hb dX2_append_19 rfl (lv_at hl 1 rfl) ?_
    refine z_get (T := TX2) (v := .int (nI len)) hE hH hP.1 rfl uw_X2 1 (by decide) fkX2_24 rfl dX2_append_20 ?_
    refine lv_iload_n hx hb dX2_append_23 rfl (lv_at hl 3 rfl) ?_
    refine n_iadd hx hb dX2_append_24 ?_
    refine n_iconst hx hb 1 dX2_append_25 (by decide) ?_
    refine lv_isub hx hb dX2_append_26 ?_
    refine lv_istore (lv' := [(6, .int (nI (len + n) - nI 1)), (4, .long (lN r0)), (0, .ref d), (1, .long (lN r0)), (3, .int (nI n))]) hx hb dX2_append_27 hl (by decide) rfl (fun ls hl => ?_)
    have L29 : ∀ (dd : Nat) (i : Nat) (r : Nat) (M1 : Mm), i < len + dd → (len ≤ i) → (i ≤ len + n) → (r < 2 ^ 64) → (r = r0 / 256 ^ (len + n - i)) → (PdM G d len (apG ps len r0 n i) M1) → (∀ q, (q ≠ d ∧ q ≠ d + 1) → M1 q = M q) → ∀ (H : Heap) (locs : List Loc), zH G M1 H → zS 0 B0 s.heap H locs → ∀ (ls : Array Slot), lv_has ls 7 [(0, .ref d), (1, .long (lN r0)), (3, .int (nI n)), (4, .long (lN r)), (6, .int (nI i - nI 1))] → zW pg l ev 0 0 0 s m [.ref d, .long (lN r0), .int (nI n)] below meth cd H locs 0 0 G B0 none (fun M1 => PdM G d (len + n) (apS ps len r0 n) M1 ∧ ∀ q, (q ≠ d ∧ q ≠ d + 1) → M1 q = M q) (F0 m 29 ls []) := by
      intro dd
      induction dd with
      | zero =>
        intro i r M1 hdd hi hi2 hr he hP1 hF1
        exact absurd hdd (by omega)
      | succ dd ih =>
        intro i r M1 hdd hi hi2 hr he hP1 hF1 H locs hH hS ls hl
        refine lv_iload hx hb dX2_append_29 (lv_at hl 4 rfl) ?_
        refine lv_aload_n hx hb dX2_append_31 rfl (lv_at hl 0 rfl) ?_
        refine z_get (T := TX2) (v := .int (nI len)) hE hH hP1.1 rfl uw_X2 1 (by decide) fkX2_24 rfl dX2_append_32 ?_
        refine nd_cmp_lt (tgt := 66) hx hb (by omega) (by omega) dX2_append_35 (by decide) (fun h3 => ?_) (fun j4 h3 h3b => ?_)
        · refine lv_aload_n hx hb dX2_append_66 rfl (lv_at hl 0 rfl) ?_
          refine lv_dup hx hb dX2_append_67 rfl ?_
          refine z_get (T := TX2) (v := .int (nI len)) hE hH hP1.1 rfl uw_X2 1 (by decide) fkX2_24 rfl dX2_append_68 ?_
          refine lv_iload_n hx hb dX2_append_71 rfl (lv_at hl 2 rfl) ?_
          refine n_iadd hx hb dX2_append_72 ?_
          refine z_put (T := TX2) hE hH hS hP1.1 rfl uw_X2 tyX2 tyX2_ok nmX2 1 (by decide) fkX2_24 rfl rfl rfl (Nat.le_of_ble_eq_true rfl) (by omega) dX2_append_73 (fun H locs M7 hH hS e5 o6 => ?_)
          have hP8 : PdM G d (len + n) (apG ps len r0 n i) M7 := ⟨e5, hP1.2.kept (o6 _ (by omega))⟩
          have hF9 := fun q hq => (o6 q (by omega)).trans (hF1 q hq)
          exact z_vret hE hH hS ⟨hP8.to (fun q hq => by unfold apG apS; by_cases h3 : i ≤ q; (· rw [if_pos h3]); (· rw [if_neg h3, if_neg (by omega)])), hF9⟩ dX2_append_76
        · subst h3
          rw [nI_down] at hl
          refine lv_aload_n hx hb dX2_append_38 rfl (lv_at hl 0 rfl) ?_
          refine z_get (T := TX2) (v := .ref (d + 1)) hE hH hP1.1 rfl uw_X2 0 (by decide) fkX2_9 rfl dX2_append_39 ?_
          refine lv_iload hx hb dX2_append_42 (lv_at hl 4 rfl) ?_
          refine lv_lload hx hb dX2_append_44 (lv_at hl 3 rfl) ?_
          refine lv_ldc2 (v := lN 255) hx hb hE.2.2.2.1 (hE.2.2.2.2.1 _ kcX2_22) dX2_append_46 ?_
          refine l_mask hx hb (by omega) dX2_append_49 ?_
          refine lv_l2i (v := nI (r % 256)) hx hb dX2_append_50 (lN_i _) ?_
          refine lv_i2c (v := nI (r % 256)) hx hb dX2_append_51 (nI_i2c (by omega)) ?_
          refine z_cast hE hH hS hP1.2 (pk_charN (by omega)).1 (k := j4) (by omega) (by decide) (by omega) dX2_append_52 (fun H locs M12 hH hS e10 o11 => ?_)
          have hP13 : PdM G d len (fset (apG ps len r0 n (j4 + 1)) j4 (r % 256)) M12 := ⟨by rw [o11 d (by omega)]; exact hP1.1, e10.to (fun q _ => by unfold fset; by_cases hq : q = j4 <;> simp [hq])⟩
          have hF14 := fun q hq => (o11 q (by omega)).trans (hF1 q hq)
          refine lv_lload hx hb dX2_append_53 (lv_at hl 3 rfl) ?_
          refine n_bipush hx hb 8 dX2_append_55 (by decide) ?_
          refine l_shr hx hb (by omega) (by decide) dX2_append_57 ?_
          refine lv_lstore (lv' := [(4, .long (lN (r / 2 ^ 8))), (0, .ref d), (1, .long (lN r0)), (3, .int (nI n)), (6, .int (nI j4))]) hx hb dX2_append_58 hl (by decide) rfl (fun ls hl => ?_)
          refine lv_iinc (v := (nI j4 - nI 1)) (lv' := [(6, .int (nI j4 - nI 1)), (4, .long (lN (r / 2 ^ 8))), (0, .ref d), (1, .long (lN r0)), (3, .int (nI n))]) hx hb dX2_append_60 hl (k := 4) rfl (nI_dec1 _) (by decide) rfl (fun ls hl => ?_)
          refine lv_goto (tgt := 29) hx hb dX2_append_63 (by decide) ?_
          exact ih  j4 (r / 2 ^ 8) M12 (by omega) (by omega) (by omega) (by omega) (by subst he; rw [show len + n - j4 = (len + n - (j4 + 1)) + 1 by omega]; exact apDiv _ _) (hP13.to (fun q hq => by subst he; rw [show len + n - (j4 + 1) = len + n - 1 - j4 by omega]; exact apG_step ps (by omega) (by omega) q)) hF14 _ _ hH hS _ (lv_sub hl [2, 3, 4, 1, 0] rfl)
    exact L29 (n + 1) (len + n) r0 M (by omega) (by omega) (by omega) hr0 (by rw [Nat.sub_self, Nat.pow_zero, Nat.div_one]) (hP.to (fun q hq => by unfold apG apS; by_cases h3 : len + n ≤ q; (· rw [if_pos h3, if_neg (by omega)]); (· rw [if_neg h3]))) hF _ _ hH hS _ (lv_sub hl [2, 3, 4, 1, 0] rfl)
  · exfalso; omega

/-- the buyers of a text, behind k characters: the wall, and how many have paid -/
def sbV (g : RS) (ps : Nat → Nat) (len : Nat) (v : Wv) : Nat → Wv
  | 0 => v
  | k + 1 => if k + 1 = len ∨ ps k = 59 then sellV (sbV g ps len v k) ((rst g ps (k + 1)).2.2.1.getD 0 * 10 + (rst g ps (k + 1)).2.1.getD 0) ((rst g ps (k + 1)).2.2.2.getD 0) else sbV g ps len v k
def sbN (g : RS) (ps : Nat → Nat) (len : Nat) (v : Wv) : Nat → Nat
  | 0 => 0
  | k + 1 => sbN g ps len v k + if (k + 1 = len ∨ ps k = 59) ∧ sells (sbV g ps len v k) ((rst g ps (k + 1)).2.2.1.getD 0 * 10 + (rst g ps (k + 1)).2.1.getD 0) ((rst g ps (k + 1)).2.2.2.getD 0) = true then 1 else 0
theorem sbV_succ (g : RS) (ps : Nat → Nat) (len : Nat) (v : Wv) (k : Nat) : sbV g ps len v (k + 1) = if k + 1 = len ∨ ps k = 59 then sellV (sbV g ps len v k) ((rst g ps (k + 1)).2.2.1.getD 0 * 10 + (rst g ps (k + 1)).2.1.getD 0) ((rst g ps (k + 1)).2.2.2.getD 0) else sbV g ps len v k := rfl
theorem sbN_succ (g : RS) (ps : Nat → Nat) (len : Nat) (v : Wv) (k : Nat) : sbN g ps len v (k + 1) = sbN g ps len v k + if (k + 1 = len ∨ ps k = 59) ∧ sells (sbV g ps len v k) ((rst g ps (k + 1)).2.2.1.getD 0 * 10 + (rst g ps (k + 1)).2.1.getD 0) ((rst g ps (k + 1)).2.2.2.getD 0) = true then 1 else 0 := rfl
theorem sbV_ok (g : RS) (ps : Nat → Nat) (len : Nat) {v : Wv} (h : wOk v) : ∀ k, wOk (sbV g ps len v k) ∧ sbV g ps len v k 0 = v 0
  | 0 => ⟨h, rfl⟩
  | k + 1 => by
    have hi := sbV_ok g ps len h k
    rw [sbV_succ]
    split
    · have h2 := sellV_ok hi.1 ((rst g ps (k + 1)).2.2.1.getD 0 * 10 + (rst g ps (k + 1)).2.1.getD 0) ((rst g ps (k + 1)).2.2.2.getD 0)
      exact ⟨h2.1, h2.2.trans hi.2⟩
    · exact hi
theorem sbN_le (g : RS) (ps : Nat → Nat) (len : Nat) (v : Wv) : ∀ k, sbN g ps len v k ≤ k
  | 0 => Nat.le_refl _
  | k + 1 => by
    have := sbN_le g ps len v k
    rw [sbN_succ]
    split <;> omega
/-- at each buyer's end of a text without fault, the reader holds that buyer -/
def txtOk (g : RS) (ps : Nat → Nat) (len : Nat) : Prop := zfind (bad g ps) len = none ∧ ∀ k, k < len → (k + 1 = len ∨ ps k = 59) → ∃ x y u, (rst g ps (k + 1)).2.1 = some x ∧ (rst g ps (k + 1)).2.2.1 = some y ∧ (rst g ps (k + 1)).2.2.2 = some u ∧ x < 10 ∧ y < 6 ∧ u ≤ 999
theorem zfind_pre {p : Nat → Bool} : ∀ {n k : Nat}, zfind p n = none → k ≤ n → zfind p k = none
  | 0, k, h, hk => by rw [show k = 0 by omega]; rfl
  | n + 1, k, h, hk => by
    by_cases hkn : k = n + 1
    · rw [hkn]; exact h
    · have hz : zfind p n = none := by
        cases hz : zfind p n with
        | none => rfl
        | some i => unfold zfind at h; rw [hz] at h; cases h
      exact zfind_pre hz (by omega)

set_option maxHeartbeats 4000000 in
set_option maxRecDepth 100000 in
theorem c_X2_sendBuyersTo (l : Launch) (G : zG) (B0 : Nat) (M : Mm) (d len : Nat) (ps : Nat → Nat) (hP : PdM G d len ps M) (hlen : len ≤ 60) (hps : ∀ i, i < len → ps i < 128) (g : RS) (hR : RdM G (d + 2) g.1 g.2.1 g.2.2.1 g.2.2.2 M) (hBd : B0 ≤ d) (w : Nat) (r : Nat → Nat) (v : Wv) (hW : WlR G w r v M) (hr : rOk r) (hv : wOk v) (hBw : B0 ≤ w) (hdw : d + 3 ≤ w ∨ w + 27 ≤ d) (hok : txtOk g ps len) : zMet l yX2_sendBuyersTo cX2_sendBuyersTo 5 (some .int) 5 0 0 G B0 M [.ref d, .ref w] (some (.int (nI (sbN g ps len v len)))) (fun M1 => PdM G d len ps M1 ∧ (∃ p xo yo uo, RdM G (d + 2) p xo yo uo M1) ∧ WlR G w r (sbV g ps len v len) M1 ∧ ∀ q, q ≠ d + 2 ∧ (q < w ∨ w + 27 ≤ q) → M1 q = M q) := by
  refine z_met RX2 [(0, .ref d), (1, .ref w)] (by decide) rfl (Nat.le_of_ble_eq_true rfl) rfl ?_
  intro pg ev s m below meth cd ls hE hin hB0 hH hl
  have hx := hE.1
  have hb := hE.2.1
  have hn := hv.1
  have hF : ∀ q, q ≠ d + 2 ∧ (q < w ∨ w + 27 ≤ q) → M q = M q := fun _ _ => rfl
  refine z_gen B0 (fun H locs hH hS => ?_) hH
  refine n_iconst hx hb 0 dX2_sendBuyersTo_0 (by decide) ?_
  refine lv_istore_n (lv' := [(2, .int (nI 0)), (0, .ref d), (1, .ref w)]) hx hb dX2_sendBuyersTo_1 rfl hl (by decide) rfl (fun ls hl => ?_)
  refine lv_aload_n hx hb dX2_sendBuyersTo_2 rfl (lv_at hl 1 rfl) ?_
  refine z_get (T := TX2) (v := .ref (d + 2)) hE hH hP.1 rfl uw_X2 2 (by decide) fkX2_18 rfl dX2_sendBuyersTo_3 ?_
  refine z_callV (rest := []) (st2 := []) hE hH hS hB0 hl ca_X0_begin mkX2_28 (c_X0_begin l G B0 M (d + 2) g.1 g.2.1 g.2.2.1 g.2.2.2 hR (by omega)) hR rfl rfl rfl rfl rfl ⟨Nat.le_of_ble_eq_true rfl, Nat.le_of_ble_eq_true rfl⟩ (Nat.le_of_ble_eq_true rfl) ⟨Nat.le_refl _, Nat.le_refl _⟩ dX2_sendBuyersTo_6 (fun H locs M1 hH hp hS => ?_)
  obtain ⟨hR2, hG3⟩ := hp
  have hP5 := hP.kept (hG3 _ (by omega)) (hG3 _ (by omega))
  have hF4 := fun q hq => (hG3 q (by omega)).trans (hF q hq)
  have hW6 := WlR.kept hr hv.1 hW (fun q a b => hG3 q (by omega))
  refine n_iconst hx hb 0 dX2_sendBuyersTo_9 (by decide) ?_
  refine lv_istore_n (lv' := [(3, .int (nI 0)), (2, .int (nI 0)), (0, .ref d), (1, .ref w)]) hx hb dX2_sendBuyersTo_10 rfl hl (by decide) rfl (fun ls hl => ?_)
  have L11 : ∀ (dd : Nat) (k : Nat) (a : Nat) (u : Wv) (M1 : Mm), len < k + dd → (k ≤ len) → (PdM G d len ps M1) → (RdM G (d + 2) (rst g ps k).1 (rst g ps k).2.1 (rst g ps k).2.2.1 (rst g ps k).2.2.2 M1) → (WlR G w r u M1) → (wOk u) → (∀ q, q ≠ d + 2 ∧ (q < w ∨ w + 27 ≤ q) → M1 q = M q) → (u = sbV g ps len v k) → (a = sbN g ps len v k) → ∀ (H : Heap) (locs : List Loc), zH G M1 H → zS 0 B0 s.heap H locs → ∀ (ls : Array Slot), lv_has ls 5 [(0, .ref d), (1, .ref w), (2, .int (nI a)), (3, .int (nI k))] → zW pg l ev 5 0 0 s m [.ref d, .ref w] below meth cd H locs 0 0 G B0 (some (.int (nI (sbN g ps len v len)))) (fun M1 => PdM G d len ps M1 ∧ (∃ p xo yo uo, RdM G (d + 2) p xo yo uo M1) ∧ WlR G w r (sbV g ps len v len) M1 ∧ ∀ q, q ≠ d + 2 ∧ (q < w ∨ w + 27 ≤ q) → M1 q = M q) (F0 m 11 ls []) := by
    intro dd
    induction dd with
    | zero =>
      intro k a u M1 hdd hk hP1 hR1 hW1 hv1 hF1 hu ha
      exact absurd hdd (by omega)
    | succ dd ih =>
      intro k a u M1 hdd hk hP1 hR1 hW1 hv1 hF1 hu ha H locs hH hS ls hl
      refine lv_iload_n hx hb dX2_sendBuyersTo_11 rfl (lv_at hl 3 rfl) ?_
      refine lv_aload_n hx hb dX2_sendBuyersTo_12 rfl (lv_at hl 0 rfl) ?_
      refine z_get (T := TX2) (v := .int (nI len)) hE hH hP1.1 rfl uw_X2 1 (by decide) fkX2_24 rfl dX2_sendBuyersTo_13 ?_
      refine n_cmp_ge (tgt := 86) hx hb (by omega) (by omega) dX2_sendBuyersTo_16 (by decide) (fun h7 => ?_) (fun h7 => ?_)
      · refine lv_iload_n hx hb dX2_sendBuyersTo_86 rfl (lv_at hl 2 rfl) ?_
        exact z_iret hE hH hS (by have hkk : k = len := (by omega); subst hkk; rw [ha]; first | done | rfl) ⟨hP1, ⟨_, _, _, _, hR1⟩, by have hkk : k = len := (by omega); subst hkk; rw [← hu]; exact hW1, hF1⟩ dX2_sendBuyersTo_87
      · refine lv_aload_n hx hb dX2_sendBuyersTo_19 rfl (lv_at hl 0 rfl) ?_
        refine z_get (T := TX2) (v := .ref (d + 2)) hE hH hP1.1 rfl uw_X2 2 (by decide) fkX2_18 rfl dX2_sendBuyersTo_20 ?_
        refine lv_aload_n hx hb dX2_sendBuyersTo_23 rfl (lv_at hl 0 rfl) ?_
        refine z_get (T := TX2) (v := .ref (d + 1)) hE hH hP1.1 rfl uw_X2 0 (by decide) fkX2_9 rfl dX2_sendBuyersTo_24 ?_
        refine lv_iload_n hx hb dX2_sendBuyersTo_27 rfl (lv_at hl 3 rfl) ?_
        refine z_cald hE hH hP1.2 (k := k) (by omega) (by decide) dX2_sendBuyersTo_28 ?_
        have q8 := hps k (by omega)
        refine z_callV (rest := []) (st2 := [.int (zb (tkB ((rst g ps k).1) ((rst g ps k).2.2.2) (ps k)))]) hE hH hS hB0 hl ca_X0_takes mkX2_31 (c_X0_takes l G B0 M1 (d + 2) ((rst g ps k).1) ((rst g ps k).2.1) ((rst g ps k).2.2.1) ((rst g ps k).2.2.2) hR1 (by omega) (rst_ok g ps k (zfind_pre hok.1 (by omega))).1 (rst_ok g ps k (zfind_pre hok.1 (by omega))).2 (ps k) (by omega)) hR1 rfl rfl rfl rfl rfl ⟨Nat.le_of_ble_eq_true rfl, Nat.le_of_ble_eq_true rfl⟩ (Nat.le_of_ble_eq_true rfl) ⟨Nat.le_refl _, Nat.le_refl _⟩ dX2_sendBuyersTo_29 (fun H locs M9 hH hp hS => ?_)
        obtain ⟨hR10, hG11⟩ := hp
        have hP13 := hP1.kept (hG11 _ (by omega)) (hG11 _ (by omega))
        have hF12 := fun q hq => (hG11 q (by omega)).trans (hF1 q hq)
        have hW14 := WlR.kept hr hv1.1 hW1 (fun q a b => hG11 q (by omega))
        refine lv_pop hx hb dX2_sendBuyersTo_32 rfl ?_
        refine lv_iload_n hx hb dX2_sendBuyersTo_33 rfl (lv_at hl 3 rfl) ?_
        refine n_iconst hx hb 1 dX2_sendBuyersTo_34 (by decide) ?_
        refine n_iadd hx hb dX2_sendBuyersTo_35 ?_
        refine lv_aload_n hx hb dX2_sendBuyersTo_36 rfl (lv_at hl 0 rfl) ?_
        refine z_get (T := TX2) (v := .int (nI len)) hE hH hP13.1 rfl uw_X2 1 (by decide) fkX2_24 rfl dX2_sendBuyersTo_37 ?_
        refine n_cmp_ne (tgt := 47) hx hb (by omega) (by omega) dX2_sendBuyersTo_40 (by decide) (fun h15 => ?_) (fun h15 => ?_)
        · refine n_iconst hx hb 0 dX2_sendBuyersTo_47 (by decide) ?_
          refine lv_istore (lv' := [(4, .int (nI 0)), (0, .ref d), (1, .ref w), (2, .int (nI a)), (3, .int (nI k))]) hx hb dX2_sendBuyersTo_48 hl (by decide) rfl (fun ls hl => ?_)
          refine lv_iload hx hb dX2_sendBuyersTo_50 (lv_at hl 0 rfl) ?_
          refine n_if_ne (tgt := 66) hx hb (by decide) dX2_sendBuyersTo_52 (by decide) (fun h16 => ?_) (fun h16 => ?_)
          · refine lv_aload_n hx hb dX2_sendBuyersTo_66 rfl (lv_at hl 1 rfl) ?_
            refine z_get (T := TX2) (v := .ref (d + 2)) hE hH hP13.1 rfl uw_X2 2 (by decide) fkX2_18 rfl dX2_sendBuyersTo_67 ?_
            refine lv_aload_n hx hb dX2_sendBuyersTo_70 rfl (lv_at hl 2 rfl) ?_
            obtain ⟨bx, bY, bu, ex, ey, eu, hbx, hbY, hbu⟩ := hok.2 k (by omega) (by omega)
            have hq17 : RdM G (d + 2) (rst g ps (k + 1)).1 (some bx) (some bY) (some bu) M9 := by rw [← ex, ← ey, ← eu]; exact hR10
            refine z_callV (rest := []) (st2 := [.int (zb (sells u (bY * 10 + bx) bu))]) hE hH hS hB0 hl ca_X0_pays mkX2_39 (c_X0_pays l G B0 M9 (d + 2) (rst g ps (k + 1)).1 bx bY bu hq17 hbx hbY hbu w r u hW14 hr hv1 (by omega)) hq17 rfl rfl rfl rfl rfl ⟨Nat.le_of_ble_eq_true rfl, Nat.le_of_ble_eq_true rfl⟩ (Nat.le_of_ble_eq_true rfl) ⟨Nat.le_refl _, Nat.le_refl _⟩ dX2_sendBuyersTo_71 (fun H locs M18 hH hp hS => ?_)
            obtain ⟨hW19, hG20⟩ := hp
            have hP21 := hP13.kept (hG20 _ (by omega)) (hG20 _ (by omega))
            have hR22 : RdM G (d + 2) (rst g ps (k + 1)).1 (rst g ps (k + 1)).2.1 (rst g ps (k + 1)).2.2.1 (rst g ps (k + 1)).2.2.2 M18 := by unfold RdM at hR10 ⊢; rw [hG20 (d + 2) (by omega)]; exact hR10
            have hF23 := fun q hq => (hG20 q (by omega)).trans (hF12 q hq)
            have hv24 := (sellV_ok hv1 (bY * 10 + bx) bu).1
            refine b_if_eq (tgt := 80) hx hb dX2_sendBuyersTo_74 (by decide) (fun h25 => ?_) (fun h25 => ?_)
            · refine lv_iinc (v := (nI (k + 1))) (lv' := [(3, .int (nI (k + 1))), (4, .int (nI 0)), (0, .ref d), (1, .ref w), (2, .int (nI a))]) hx hb dX2_sendBuyersTo_80 hl (k := 4) rfl (nI_inc _) (by decide) rfl (fun ls hl => ?_)
              refine lv_goto (tgt := 11) hx hb dX2_sendBuyersTo_83 (by decide) ?_
              exact ih  (k + 1) a (sellV u (bY * 10 + bx) bu) M18 (by omega) (by omega) hP21 hR22 hW19 hv24 hF23 (by rw [sbV_succ, if_pos (by omega), ← hu, ex, ey, eu]; rfl) (by rw [sbN_succ, ← ha, ← hu, ex, ey, eu]; first | (rw [if_pos ⟨by omega, h25⟩]; done) | (rw [if_neg (fun q => absurd (q.2.symm.trans h25) (by decide))]; rfl)) _ _ hH hS _ (lv_sub hl [2, 3, 4, 0] rfl)
            · refine lv_iinc (v := (nI (a + 1))) (lv' := [(2, .int (nI (a + 1))), (4, .int (nI 0)), (0, .ref d), (1, .ref w), (3, .int (nI k))]) hx hb dX2_sendBuyersTo_77 hl (k := 3) rfl (nI_inc _) (by decide) rfl (fun ls hl => ?_)
              refine lv_iinc (v := (nI (k + 1))) (lv' := [(3, .int (nI (k + 1))), (2, .int (nI (a + 1))), (4, .int (nI 0)), (0, .ref d), (1, .ref w)]) hx hb dX2_sendBuyersTo_80 hl (k := 4) rfl (nI_inc _) (by decide) rfl (fun ls hl => ?_)
              refine lv_goto (tgt := 11) hx hb dX2_sendBuyersTo_83 (by decide) ?_
              exact ih  (k + 1) (a + 1) (sellV u (bY * 10 + bx) bu) M18 (by omega) (by omega) hP21 hR22 hW19 hv24 hF23 (by rw [sbV_succ, if_pos (by omega), ← hu, ex, ey, eu]; rfl) (by rw [sbN_succ, ← ha, ← hu, ex, ey, eu]; first | (rw [if_pos ⟨by omega, h25⟩]; done) | (rw [if_neg (fun q => absurd (q.2.symm.trans h25) (by decide))]; rfl)) _ _ hH hS _ (lv_sub hl [3, 4, 1, 0] rfl)
          · refine lv_aload_n hx hb dX2_sendBuyersTo_55 rfl (lv_at hl 1 rfl) ?_
            refine z_get (T := TX2) (v := .ref (d + 1)) hE hH hP13.1 rfl uw_X2 0 (by decide) fkX2_9 rfl dX2_sendBuyersTo_56 ?_
            refine lv_iload_n hx hb dX2_sendBuyersTo_59 rfl (lv_at hl 4 rfl) ?_
            refine z_cald hE hH hP13.2 (k := k) (by omega) (by decide) dX2_sendBuyersTo_60 ?_
            have q26 := hps k (by omega)
            refine n_bipush hx hb 59 dX2_sendBuyersTo_61 (by decide) ?_
            refine n_cmp_ne (tgt := 80) hx hb (by omega) (by decide) dX2_sendBuyersTo_63 (by decide) (fun h27 => ?_) (fun h27 => ?_)
            · refine lv_iinc (v := (nI (k + 1))) (lv' := [(3, .int (nI (k + 1))), (4, .int (nI 0)), (0, .ref d), (1, .ref w), (2, .int (nI a))]) hx hb dX2_sendBuyersTo_80 hl (k := 4) rfl (nI_inc _) (by decide) rfl (fun ls hl => ?_)
              refine lv_goto (tgt := 11) hx hb dX2_sendBuyersTo_83 (by decide) ?_
              exact ih  (k + 1) a u M9 (by omega) (by omega) hP13 hR10 hW14 hv1 hF12 (by rw [sbV_succ, if_neg (by omega)]; exact hu) (by rw [sbN_succ, if_neg (fun q => absurd q.1 (by omega))]; exact ha) _ _ hH hS _ (lv_sub hl [2, 3, 4, 0] rfl)
            · refine lv_aload_n hx hb dX2_sendBuyersTo_66 rfl (lv_at hl 1 rfl) ?_
              refine z_get (T := TX2) (v := .ref (d + 2)) hE hH hP13.1 rfl uw_X2 2 (by decide) fkX2_18 rfl dX2_sendBuyersTo_67 ?_
              refine lv_aload_n hx hb dX2_sendBuyersTo_70 rfl (lv_at hl 2 rfl) ?_
              obtain ⟨bx, bY, bu, ex, ey, eu, hbx, hbY, hbu⟩ := hok.2 k (by omega) (by omega)
              have hq28 : RdM G (d + 2) (rst g ps (k + 1)).1 (some bx) (some bY) (some bu) M9 := by rw [← ex, ← ey, ← eu]; exact hR10
              refine z_callV (rest := []) (st2 := [.int (zb (sells u (bY * 10 + bx) bu))]) hE hH hS hB0 hl ca_X0_pays mkX2_39 (c_X0_pays l G B0 M9 (d + 2) (rst g ps (k + 1)).1 bx bY bu hq28 hbx hbY hbu w r u hW14 hr hv1 (by omega)) hq28 rfl rfl rfl rfl rfl ⟨Nat.le_of_ble_eq_true rfl, Nat.le_of_ble_eq_true rfl⟩ (Nat.le_of_ble_eq_true rfl) ⟨Nat.le_refl _, Nat.le_refl _⟩ dX2_sendBuyersTo_71 (fun H locs M29 hH hp hS => ?_)
              obtain ⟨hW30, hG31⟩ := hp
              have hP32 := hP13.kept (hG31 _ (by omega)) (hG31 _ (by omega))
              have hR33 : RdM G (d + 2) (rst g ps (k + 1)).1 (rst g ps (k + 1)).2.1 (rst g ps (k + 1)).2.2.1 (rst g ps (k + 1)).2.2.2 M29 := by unfold RdM at hR10 ⊢; rw [hG31 (d + 2) (by omega)]; exact hR10
              have hF34 := fun q hq => (hG31 q (by omega)).trans (hF12 q hq)
              have hv35 := (sellV_ok hv1 (bY * 10 + bx) bu).1
              refine b_if_eq (tgt := 80) hx hb dX2_sendBuyersTo_74 (by decide) (fun h36 => ?_) (fun h36 => ?_)
              · refine lv_iinc (v := (nI (k + 1))) (lv' := [(3, .int (nI (k + 1))), (4, .int (nI 0)), (0, .ref d), (1, .ref w), (2, .int (nI a))]) hx hb dX2_sendBuyersTo_80 hl (k := 4) rfl (nI_inc _) (by decide) rfl (fun ls hl => ?_)
                refine lv_goto (tgt := 11) hx hb dX2_sendBuyersTo_83 (by decide) ?_
                exact ih  (k + 1) a (sellV u (bY * 10 + bx) bu) M29 (by omega) (by omega) hP32 hR33 hW30 hv35 hF34 (by rw [sbV_succ, if_pos (by omega), ← hu, ex, ey, eu]; rfl) (by rw [sbN_succ, ← ha, ← hu, ex, ey, eu]; first | (rw [if_pos ⟨by omega, h36⟩]; done) | (rw [if_neg (fun q => absurd (q.2.symm.trans h36) (by decide))]; rfl)) _ _ hH hS _ (lv_sub hl [2, 3, 4, 0] rfl)
              · refine lv_iinc (v := (nI (a + 1))) (lv' := [(2, .int (nI (a + 1))), (4, .int (nI 0)), (0, .ref d), (1, .ref w), (3, .int (nI k))]) hx hb dX2_sendBuyersTo_77 hl (k := 3) rfl (nI_inc _) (by decide) rfl (fun ls hl => ?_)
                refine lv_iinc (v := (nI (k + 1))) (lv' := [(3, .int (nI (k + 1))), (2, .int (nI (a + 1))), (4, .int (nI 0)), (0, .ref d), (1, .ref w)]) hx hb dX2_sendBuyersTo_80 hl (k := 4) rfl (nI_inc _) (by decide) rfl (fun ls hl => ?_)
                refine lv_goto (tgt := 11) hx hb dX2_sendBuyersTo_83 (by decide) ?_
                exact ih  (k + 1) (a + 1) (sellV u (bY * 10 + bx) bu) M29 (by omega) (by omega) hP32 hR33 hW30 hv35 hF34 (by rw [sbV_succ, if_pos (by omega), ← hu, ex, ey, eu]; rfl) (by rw [sbN_succ, ← ha, ← hu, ex, ey, eu]; first | (rw [if_pos ⟨by omega, h36⟩]; done) | (rw [if_neg (fun q => absurd (q.2.symm.trans h36) (by decide))]; rfl)) _ _ hH hS _ (lv_sub hl [3, 4, 1, 0] rfl)
        · refine n_iconst hx hb 1 dX2_sendBuyersTo_43 (by decide) ?_
          refine lv_goto (tgt := 48) hx hb dX2_sendBuyersTo_44 (by decide) ?_
          refine lv_istore (lv' := [(4, .int (nI 1)), (0, .ref d), (1, .ref w), (2, .int (nI a)), (3, .int (nI k))]) hx hb dX2_sendBuyersTo_48 hl (by decide) rfl (fun ls hl => ?_)
          refine lv_iload hx hb dX2_sendBuyersTo_50 (lv_at hl 0 rfl) ?_
          refine n_if_ne (tgt := 66) hx hb (by decide) dX2_sendBuyersTo_52 (by decide) (fun h37 => ?_) (fun h37 => ?_)
          · refine lv_aload_n hx hb dX2_sendBuyersTo_66 rfl (lv_at hl 1 rfl) ?_
            refine z_get (T := TX2) (v := .ref (d + 2)) hE hH hP13.1 rfl uw_X2 2 (by decide) fkX2_18 rfl dX2_sendBuyersTo_67 ?_
            refine lv_aload_n hx hb dX2_sendBuyersTo_70 rfl (lv_at hl 2 rfl) ?_
            obtain ⟨bx, bY, bu, ex, ey, eu, hbx, hbY, hbu⟩ := hok.2 k (by omega) (by omega)
            have hq38 : RdM G (d + 2) (rst g ps (k + 1)).1 (some bx) (some bY) (some bu) M9 := by rw [← ex, ← ey, ← eu]; exact hR10
            refine z_callV (rest := []) (st2 := [.int (zb (sells u (bY * 10 + bx) bu))]) hE hH hS hB0 hl ca_X0_pays mkX2_39 (c_X0_pays l G B0 M9 (d + 2) (rst g ps (k + 1)).1 bx bY bu hq38 hbx hbY hbu w r u hW14 hr hv1 (by omega)) hq38 rfl rfl rfl rfl rfl ⟨Nat.le_of_ble_eq_true rfl, Nat.le_of_ble_eq_true rfl⟩ (Nat.le_of_ble_eq_true rfl) ⟨Nat.le_refl _, Nat.le_refl _⟩ dX2_sendBuyersTo_71 (fun H locs M39 hH hp hS => ?_)
            obtain ⟨hW40, hG41⟩ := hp
            have hP42 := hP13.kept (hG41 _ (by omega)) (hG41 _ (by omega))
            have hR43 : RdM G (d + 2) (rst g ps (k + 1)).1 (rst g ps (k + 1)).2.1 (rst g ps (k + 1)).2.2.1 (rst g ps (k + 1)).2.2.2 M39 := by unfold RdM at hR10 ⊢; rw [hG41 (d + 2) (by omega)]; exact hR10
            have hF44 := fun q hq => (hG41 q (by omega)).trans (hF12 q hq)
            have hv45 := (sellV_ok hv1 (bY * 10 + bx) bu).1
            refine b_if_eq (tgt := 80) hx hb dX2_sendBuyersTo_74 (by decide) (fun h46 => ?_) (fun h46 => ?_)
            · refine lv_iinc (v := (nI (k + 1))) (lv' := [(3, .int (nI (k + 1))), (4, .int (nI 1)), (0, .ref d), (1, .ref w), (2, .int (nI a))]) hx hb dX2_sendBuyersTo_80 hl (k := 4) rfl (nI_inc _) (by decide) rfl (fun ls hl => ?_)
              refine lv_goto (tgt := 11) hx hb dX2_sendBuyersTo_83 (by decide) ?_
              exact ih  (k + 1) a (sellV u (bY * 10 + bx) bu) M39 (by omega) (by omega) hP42 hR43 hW40 hv45 hF44 (by rw [sbV_succ, if_pos (by omega), ← hu, ex, ey, eu]; rfl) (by rw [sbN_succ, ← ha, ← hu, ex, ey, eu]; first | (rw [if_pos ⟨by omega, h46⟩]; done) | (rw [if_neg (fun q => absurd (q.2.symm.trans h46) (by decide))]; rfl)) _ _ hH hS _ (lv_sub hl [2, 3, 4, 0] rfl)
            · refine lv_iinc (v := (nI (a + 1))) (lv' := [(2, .int (nI (a + 1))), (4, .int (nI 1)), (0, .ref d), (1, .ref w), (3, .int (nI k))]) hx hb dX2_sendBuyersTo_77 hl (k := 3) rfl (nI_inc _) (by decide) rfl (fun ls hl => ?_)
              refine lv_iinc (v := (nI (k + 1))) (lv' := [(3, .int (nI (k + 1))), (2, .int (nI (a + 1))), (4, .int (nI 1)), (0, .ref d), (1, .ref w)]) hx hb dX2_sendBuyersTo_80 hl (k := 4) rfl (nI_inc _) (by decide) rfl (fun ls hl => ?_)
              refine lv_goto (tgt := 11) hx hb dX2_sendBuyersTo_83 (by decide) ?_
              exact ih  (k + 1) (a + 1) (sellV u (bY * 10 + bx) bu) M39 (by omega) (by omega) hP42 hR43 hW40 hv45 hF44 (by rw [sbV_succ, if_pos (by omega), ← hu, ex, ey, eu]; rfl) (by rw [sbN_succ, ← ha, ← hu, ex, ey, eu]; first | (rw [if_pos ⟨by omega, h46⟩]; done) | (rw [if_neg (fun q => absurd (q.2.symm.trans h46) (by decide))]; rfl)) _ _ hH hS _ (lv_sub hl [3, 4, 1, 0] rfl)
          · refine lv_aload_n hx hb dX2_sendBuyersTo_55 rfl (lv_at hl 1 rfl) ?_
            refine z_get (T := TX2) (v := .ref (d + 1)) hE hH hP13.1 rfl uw_X2 0 (by decide) fkX2_9 rfl dX2_sendBuyersTo_56 ?_
            refine lv_iload_n hx hb dX2_sendBuyersTo_59 rfl (lv_at hl 4 rfl) ?_
            refine z_cald hE hH hP13.2 (k := k) (by omega) (by decide) dX2_sendBuyersTo_60 ?_
            have q47 := hps k (by omega)
            refine n_bipush hx hb 59 dX2_sendBuyersTo_61 (by decide) ?_
            refine n_cmp_ne (tgt := 80) hx hb (by omega) (by decide) dX2_sendBuyersTo_63 (by decide) (fun h48 => ?_) (fun h48 => ?_)
            · refine lv_iinc (v := (nI (k + 1))) (lv' := [(3, .int (nI (k + 1))), (4, .int (nI 1)), (0, .ref d), (1, .ref w), (2, .int (nI a))]) hx hb dX2_sendBuyersTo_80 hl (k := 4) rfl (nI_inc _) (by decide) rfl (fun ls hl => ?_)
              refine lv_goto (tgt := 11) hx hb dX2_sendBuyersTo_83 (by decide) ?_
              exact ih  (k + 1) a u M9 (by omega) (by omega) hP13 hR10 hW14 hv1 hF12 (by rw [sbV_succ, if_neg (by omega)]; exact hu) (by rw [sbN_succ, if_neg (fun q => absurd q.1 (by omega))]; exact ha) _ _ hH hS _ (lv_sub hl [2, 3, 4, 0] rfl)
            · refine lv_aload_n hx hb dX2_sendBuyersTo_66 rfl (lv_at hl 1 rfl) ?_
              refine z_get (T := TX2) (v := .ref (d + 2)) hE hH hP13.1 rfl uw_X2 2 (by decide) fkX2_18 rfl dX2_sendBuyersTo_67 ?_
              refine lv_aload_n hx hb dX2_sendBuyersTo_70 rfl (lv_at hl 2 rfl) ?_
              obtain ⟨bx, bY, bu, ex, ey, eu, hbx, hbY, hbu⟩ := hok.2 k (by omega) (by omega)
              have hq49 : RdM G (d + 2) (rst g ps (k + 1)).1 (some bx) (some bY) (some bu) M9 := by rw [← ex, ← ey, ← eu]; exact hR10
              refine z_callV (rest := []) (st2 := [.int (zb (sells u (bY * 10 + bx) bu))]) hE hH hS hB0 hl ca_X0_pays mkX2_39 (c_X0_pays l G B0 M9 (d + 2) (rst g ps (k + 1)).1 bx bY bu hq49 hbx hbY hbu w r u hW14 hr hv1 (by omega)) hq49 rfl rfl rfl rfl rfl ⟨Nat.le_of_ble_eq_true rfl, Nat.le_of_ble_eq_true rfl⟩ (Nat.le_of_ble_eq_true rfl) ⟨Nat.le_refl _, Nat.le_refl _⟩ dX2_sendBuyersTo_71 (fun H locs M50 hH hp hS => ?_)
              obtain ⟨hW51, hG52⟩ := hp
              have hP53 := hP13.kept (hG52 _ (by omega)) (hG52 _ (by omega))
              have hR54 : RdM G (d + 2) (rst g ps (k + 1)).1 (rst g ps (k + 1)).2.1 (rst g ps (k + 1)).2.2.1 (rst g ps (k + 1)).2.2.2 M50 := by unfold RdM at hR10 ⊢; rw [hG52 (d + 2) (by omega)]; exact hR10
              have hF55 := fun q hq => (hG52 q (by omega)).trans (hF12 q hq)
              have hv56 := (sellV_ok hv1 (bY * 10 + bx) bu).1
              refine b_if_eq (tgt := 80) hx hb dX2_sendBuyersTo_74 (by decide) (fun h57 => ?_) (fun h57 => ?_)
              · refine lv_iinc (v := (nI (k + 1))) (lv' := [(3, .int (nI (k + 1))), (4, .int (nI 1)), (0, .ref d), (1, .ref w), (2, .int (nI a))]) hx hb dX2_sendBuyersTo_80 hl (k := 4) rfl (nI_inc _) (by decide) rfl (fun ls hl => ?_)
                refine lv_goto (tgt := 11) hx hb dX2_sendBuyersTo_83 (by decide) ?_
                exact ih  (k + 1) a (sellV u (bY * 10 + bx) bu) M50 (by omega) (by omega) hP53 hR54 hW51 hv56 hF55 (by rw [sbV_succ, if_pos (by omega), ← hu, ex, ey, eu]; rfl) (by rw [sbN_succ, ← ha, ← hu, ex, ey, eu]; first | (rw [if_pos ⟨by omega, h57⟩]; done) | (rw [if_neg (fun q => absurd (q.2.symm.trans h57) (by decide))]; rfl)) _ _ hH hS _ (lv_sub hl [2, 3, 4, 0] rfl)
              · refine lv_iinc (v := (nI (a + 1))) (lv' := [(2, .int (nI (a + 1))), (4, .int (nI 1)), (0, .ref d), (1, .ref w), (3, .int (nI k))]) hx hb dX2_sendBuyersTo_77 hl (k := 3) rfl (nI_inc _) (by decide) rfl (fun ls hl => ?_)
                refine lv_iinc (v := (nI (k + 1))) (lv' := [(3, .int (nI (k + 1))), (2, .int (nI (a + 1))), (4, .int (nI 1)), (0, .ref d), (1, .ref w)]) hx hb dX2_sendBuyersTo_80 hl (k := 4) rfl (nI_inc _) (by decide) rfl (fun ls hl => ?_)
                refine lv_goto (tgt := 11) hx hb dX2_sendBuyersTo_83 (by decide) ?_
                exact ih  (k + 1) (a + 1) (sellV u (bY * 10 + bx) bu) M50 (by omega) (by omega) hP53 hR54 hW51 hv56 hF55 (by rw [sbV_succ, if_pos (by omega), ← hu, ex, ey, eu]; rfl) (by rw [sbN_succ, ← ha, ← hu, ex, ey, eu]; first | (rw [if_pos ⟨by omega, h57⟩]; done) | (rw [if_neg (fun q => absurd (q.2.symm.trans h57) (by decide))]; rfl)) _ _ hH hS _ (lv_sub hl [3, 4, 1, 0] rfl)
  exact L11 (len + 1) 0 0 v M1 (by omega) (by omega) hP5 hR2 hW6 hv hF4 rfl rfl _ _ hH hS _ (lv_sub hl [2, 3, 1, 0] rfl)
