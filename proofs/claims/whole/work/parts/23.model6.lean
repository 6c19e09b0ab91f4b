/-- the sign at a place of the pad's text, 0 behind it -/
def sgn (ps : Nat → Nat) (ln a : Nat) : Nat := if a < ln then ps a else 0
theorem sgn_lt {ps : Nat → Nat} {ln a : Nat} (hps : ∀ i, i < ln → ps i < 128) : sgn ps ln a < 128 := by
  unfold sgn
  split
  · exact hps a (by assumption)
  · decide
def dk (ps : Nat → Nat) (ln m a : Nat) : Bool := decide (48 ≤ sgn ps ln a) && decide (sgn ps ln a ≤ 48 + m)
def prs (ps : Nat → Nat) (ln : Nat) : Nat → Nat → Nat → Nat × Nat
  | 0, q, u => (q, u)
  | k + 1, q, u => if u = 0 then (q, u) else if dk ps ln 9 q = true then prs ps ln k (q + 1) (u * 10 + (sgn ps ln q - 48)) else (q, u)
theorem prs_succ (ps : Nat → Nat) (ln k q u : Nat) : prs ps ln (k + 1) q u = if u = 0 then (q, u) else if dk ps ln 9 q = true then prs ps ln k (q + 1) (u * 10 + (sgn ps ln q - 48)) else (q, u) := rfl
def rdF (ps : Nat → Nat) (ln a a' : Nat) : Prop :=
  (a' = a ∧ dk ps ln 9 a = false) ∨ (a' = a + 1 ∧ dk ps ln 9 a = true ∧ dk ps ln 5 (a + 1) = false) ∨ (a' = a + 2 ∧ dk ps ln 9 a = true ∧ dk ps ln 5 (a + 1) = true ∧ sgn ps ln (a + 2) ≠ 58) ∨ (a' = a + 3 ∧ dk ps ln 9 a = true ∧ dk ps ln 5 (a + 1) = true ∧ sgn ps ln (a + 2) = 58 ∧ dk ps ln 9 (a + 3) = false)
def rdT (ps : Nat → Nat) (ln a a' c u : Nat) : Prop :=
  dk ps ln 9 a = true ∧ dk ps ln 5 (a + 1) = true ∧ sgn ps ln (a + 2) = 58 ∧ dk ps ln 9 (a + 3) = true ∧ c = (sgn ps ln (a + 1) - 48) * 10 + (sgn ps ln a - 48) ∧ prs ps ln 2 (a + 4) (sgn ps ln (a + 3) - 48) = (a', u) ∧ u ≤ 999 ∧ c < 60
theorem sgn_in {ps : Nat → Nat} {ln a : Nat} (h : 0 < sgn ps ln a) : a < ln := by
  unfold sgn at h
  split at h
  · assumption
  · exact absurd h (by decide)
theorem dk_in {ps : Nat → Nat} {ln m a : Nat} (h : dk ps ln m a = true) : a < ln ∧ 48 ≤ sgn ps ln a ∧ sgn ps ln a ≤ 48 + m := by
  unfold dk at h
  rw [Bool.and_eq_true, decide_eq_true_eq, decide_eq_true_eq] at h
  have h1 := h.1
  exact ⟨sgn_in (ps := ps) (Nat.lt_of_lt_of_le (by decide) h1), h1, h.2⟩
theorem rd_chain {ps : Nat → Nat} {ln a a1 a2 a3 a4 : Nat} {b1 b2 b3 b4 : Bool} (e1 : b1 = (true && dk ps ln 9 a)) (f1 : a1 = a + b1.toNat) (e2 : b2 = (b1 && dk ps ln 5 a1)) (f2 : a2 = a1 + b2.toNat) (e3 : b3 = (b2 && decide (sgn ps ln a2 = 58))) (f3 : a3 = a2 + b3.toNat) (e4 : b4 = (b3 && dk ps ln 9 a3)) (f4 : a4 = a3 + b4.toNat) : (b4 = true ∧ a1 = a + 1 ∧ a2 = a + 2 ∧ a3 = a + 3 ∧ a4 = a + 4 ∧ dk ps ln 9 a = true ∧ dk ps ln 5 (a + 1) = true ∧ sgn ps ln (a + 2) = 58 ∧ dk ps ln 9 (a + 3) = true) ∨ (b4 = false ∧ rdF ps ln a a4) := by
  cases h1 : dk ps ln 9 a with
  | false =>
    rw [h1] at e1; subst e1; subst e2; subst e3; subst e4
    exact Or.inr ⟨rfl, Or.inl ⟨by rw [f4, f3, f2, f1]; rfl, h1⟩⟩
  | true =>
    rw [h1] at e1; subst e1
    have g1 : a1 = a + 1 := f1
    subst g1
    cases h2 : dk ps ln 5 (a + 1) with
    | false =>
      rw [h2] at e2; subst e2; subst e3; subst e4
      exact Or.inr ⟨rfl, Or.inr (Or.inl ⟨by rw [f4, f3, f2]; rfl, h1, h2⟩)⟩
    | true =>
      rw [h2] at e2; subst e2
      have g2 : a2 = a + 2 := f2
      subst g2
      by_cases h3 : sgn ps ln (a + 2) = 58
      · rw [decide_eq_true h3] at e3; subst e3
        have g3 : a3 = a + 3 := f3
        subst g3
        cases h4 : dk ps ln 9 (a + 3) with
        | false =>
          rw [h4] at e4; subst e4
          exact Or.inr ⟨rfl, Or.inr (Or.inr (Or.inr ⟨by rw [f4]; rfl, h1, h2, h3, h4⟩))⟩
        | true =>
          rw [h4] at e4; subst e4
          exact Or.inl ⟨rfl, rfl, rfl, rfl, f4, rfl, rfl, h3, rfl⟩
      · rw [decide_eq_false h3] at e3; subst e3; subst e4
        exact Or.inr ⟨rfl, Or.inr (Or.inr (Or.inl ⟨by rw [f4, f3]; rfl, h1, h2, h3⟩))⟩
theorem Md.setJ9 {G : zG} {d : Nat} {sc : Nat → Int32} {X X2 : Nat → Nat → Int32} {M M1 : Mm} (h : Md G d sc X M) (e : zArr G 0 M1 (d + 9) 64 (X2 9)) (hne : ∀ i, 1 ≤ i → i ≤ 8 → X2 i = X i) (o : ∀ q : Nat, q ≠ d + 9 → M1 q = M q) : Md G d sc X2 M1 := by
  refine ⟨by rw [o d (by omega)]; exact h.1, fun i h1 h2 => ?_⟩
  by_cases hij : i = 9
  · subst hij; exact e
  · rw [hne i h1 (by omega)]; exact (h.2 i h1 h2).kept (o _ (by omega))
theorem wi_dk {ps : Nat → Nat} {ln a m : Nat} (hps : ∀ i, i < ln → ps i < 128) (hm : m ≤ 9) : wi (nI (sgn ps ln a)) (nI 48) (nI (48 + m)) = dk ps ln m a := by
  have := sgn_lt (a := a) hps
  exact wi_N (by omega) (by decide) (by omega)

set_option maxHeartbeats 4000000 in
set_option maxRecDepth 100000 in
theorem c_X6_sign (l : Launch) (G : zG) (B0 : Nat) (M : Mm) (d : Nat) (t un bm : Int32) (ln a : Nat) (b : Bool) (ps : Nat → Nat) (v : Wv) (A U L K SE SH BU : Nat → Int32) (hM : Md G d (sg t un (nI ln) (nI a) (zb b) bm) (xs v A U L K (fun i => nI (ps i)) SE SH BU) M) (hv : wOk v) (hBd : B0 ≤ d) (hln : ln ≤ 60) (hps : ∀ i, i < ln → ps i < 128) (ha : a ≤ ln) : zMet l yX6_sign cX6_sign 1 (some .int) 0 0 0 G B0 M [.ref d] (some (.int (nI (sgn ps ln a)))) (fun M1 => M = M1) := by
  refine z_met RX6 [(0, .ref d)] (by decide) rfl (Nat.le_of_ble_eq_true rfl) rfl ?_
  intro pg ev s m below meth cd ls hE hin hB0 hH hl
  have hx := hE.1
  have hb := hE.2.1
  have hn : v 0 ≤ 12 := hv.1
  have hA : zArr G 0 M (d + 1) 818 (fun i => nI (v i)) := hM.s (fun _ _ => rfl)
  have hF : ∀ q, (q < d ∨ d + 10 ≤ q) → M q = M q := fun _ _ => rfl
  refine z_gen B0 (fun H locs hH hS => ?_) hH
  refine lv_aload_n hx hb dX6_sign_0 rfl (lv_at hl 0 rfl) ?_
  refine z_get (T := TX6) (v := .int (nI a)) hE hH hM.1 rfl uw_X6 11 (by decide) fkX6_140 rfl dX6_sign_1 ?_
  refine lv_aload_n hx hb dX6_sign_4 rfl (lv_at hl 0 rfl) ?_
  refine z_get (T := TX6) (v := .int (nI ln)) hE hH hM.1 rfl uw_X6 8 (by decide) fkX6_104 rfl dX6_sign_5 ?_
  refine n_cmp_ge (tgt := 23) hx hb (by omega) (by omega) dX6_sign_8 (by decide) (fun h1 => ?_) (fun h1 => ?_)
  · refine n_iconst hx hb 0 dX6_sign_23 (by decide) ?_
    exact z_iret hE hH hS (by unfold sgn; rw [if_neg (by omega)]) rfl dX6_sign_24
  · refine lv_aload_n hx hb dX6_sign_11 rfl (lv_at hl 0 rfl) ?_
    refine z_get (T := TX6) (v := .ref (d + 6)) hE hH hM.1 rfl uw_X6 7 (by decide) fkX6_26 rfl dX6_sign_12 ?_
    refine lv_aload_n hx hb dX6_sign_15 rfl (lv_at hl 0 rfl) ?_
    refine z_get (T := TX6) (v := .int (nI a)) hE hH hM.1 rfl uw_X6 11 (by decide) fkX6_140 rfl dX6_sign_16 ?_
    refine z_iald hE hH (show zArr G 0 M (d + 6) 60 (fun i => nI (ps i)) from hM.2 6 (by decide) (by decide)) (k := a) (by omega) (by decide) dX6_sign_19 ?_
    refine lv_goto (tgt := 24) hx hb dX6_sign_20 (by decide) ?_
    exact z_iret hE hH hS (by unfold sgn; rw [if_pos (by omega)]) rfl dX6_sign_24

theorem wd_le {ln a a' : Nat} {b b' x : Bool} (h : b' = (b && x)) (h' : a' = a + b'.toNat) (ha : a ≤ ln) (hx : x = true → a < ln) : a' ≤ ln := by
  cases b <;> cases x <;> subst h
  · exact h' ▸ ha
  · exact h' ▸ ha
  · exact h' ▸ ha
  · have := hx rfl
    rw [h']; exact this

set_option maxHeartbeats 4000000 in
set_option maxRecDepth 100000 in
theorem c_X6_wants (l : Launch) (G : zG) (B0 : Nat) (M : Mm) (d : Nat) (t un bm : Int32) (ln a : Nat) (b : Bool) (ps : Nat → Nat) (v : Wv) (A U L K SE SH BU : Nat → Int32) (hM : Md G d (sg t un (nI ln) (nI a) (zb b) bm) (xs v A U L K (fun i => nI (ps i)) SE SH BU) M) (hv : wOk v) (hBd : B0 ≤ d) (hln : ln ≤ 60) (hps : ∀ i, i < ln → ps i < 128) (ha : a ≤ ln) (c : Nat) (hc9 : c < 128) : zMet l yX6_wants cX6_wants 2 none 1 0 0 G B0 M [.ref d, .int (nI c)] none (fun M1 => ∃ b1 a1, b1 = (b && decide (sgn ps ln a = c)) ∧ a1 = a + b1.toNat ∧ Md G d (sg t un (nI ln) (nI a1) (zb b1) bm) (xs v A U L K (fun i => nI (ps i)) SE SH BU) M1 ∧ ∀ q, (q < d ∨ d + 10 ≤ q) → M1 q = M q) := by
  refine z_met RX6 [(0, .ref d), (1, .int (nI c))] (by decide) rfl (Nat.le_of_ble_eq_true rfl) rfl ?_
  intro pg ev s m below meth cd ls hE hin hB0 hH hl
  have hx := hE.1
  have hb := hE.2.1
  have hn : v 0 ≤ 12 := hv.1
  have hA : zArr G 0 M (d + 1) 818 (fun i => nI (v i)) := hM.s (fun _ _ => rfl)
  have hF : ∀ q, (q < d ∨ d + 10 ≤ q) → M q = M q := fun _ _ => rfl
  refine z_gen B0 (fun H locs hH hS => ?_) hH
  refine lv_aload_n hx hb dX6_wants_0 rfl (lv_at hl 0 rfl) ?_
  refine lv_aload_n hx hb dX6_wants_1 rfl (lv_at hl 0 rfl) ?_
  refine z_get (T := TX6) (v := .int (zb b)) hE hH hM.1 rfl uw_X6 12 (by decide) fkX6_143 rfl dX6_wants_2 ?_
  refine b_if_eq (tgt := 20) hx hb dX6_wants_5 (by decide) (fun h2 => ?_) (fun h2 => ?_)
  · refine n_iconst hx hb 0 dX6_wants_20 (by decide) ?_
    refine z_put (T := TX6) hE hH hS hM.1 rfl uw_X6 tyX6 tyX6_ok nmX6 12 (by decide) fkX6_143 rfl rfl rfl (Nat.le_of_ble_eq_true rfl) (by omega) dX6_wants_21 (fun H locs M5 hH hS e3 o4 => ?_)
    have hM6 : Md G d (sg t un (nI ln) (nI a) (zb false) bm) (xs v A U L K (fun i => nI (ps i)) SE SH BU) M5 := Md.setC hM e3 o4
    have hA7 := hM6.s (fun _ _ => rfl)
    have hF8 := fun q hq => (o4 q (by omega)).trans (hF q hq)
    refine lv_aload_n hx hb dX6_wants_24 rfl (lv_at hl 0 rfl) ?_
    refine lv_dup hx hb dX6_wants_25 rfl ?_
    refine z_get (T := TX6) (v := .int (nI a)) hE hH hM6.1 rfl uw_X6 11 (by decide) fkX6_140 rfl dX6_wants_26 ?_
    refine lv_aload_n hx hb dX6_wants_29 rfl (lv_at hl 0 rfl) ?_
    refine z_get (T := TX6) (v := .int (zb false)) hE hH hM6.1 rfl uw_X6 12 (by decide) fkX6_143 rfl dX6_wants_30 ?_
    refine b_if_eq (tgt := 40) hx hb dX6_wants_33 (by decide) (fun _ => ?_) (fun h => Bool.noConfusion h)
    refine n_iconst hx hb 0 dX6_wants_40 (by decide) ?_
    refine n_iadd hx hb dX6_wants_41 ?_
    refine z_put (T := TX6) hE hH hS hM6.1 rfl uw_X6 tyX6 tyX6_ok nmX6 11 (by decide) fkX6_140 rfl rfl rfl (Nat.le_of_ble_eq_true rfl) (by omega) dX6_wants_42 (fun H locs M12 hH hS e10 o11 => ?_)
    have hM13 : Md G d (sg t un (nI ln) (nI (a + 0)) (zb false) bm) (xs v A U L K (fun i => nI (ps i)) SE SH BU) M12 := Md.setC hM6 e10 o11
    have hA14 := hM13.s (fun _ _ => rfl)
    have hF15 := fun q hq => (o11 q (by omega)).trans (hF8 q hq)
    exact z_vret hE hH hS ⟨false, _, (by rw [h2]; rfl), rfl, hM13, hF15⟩ dX6_wants_45
  · refine lv_aload_n hx hb dX6_wants_8 rfl (lv_at hl 0 rfl) ?_
    refine z_callV (rest := [.ref d]) (st2 := [.int (nI (sgn ps ln a)), .ref d]) hE hH hS hB0 hl ca_X6_sign mkX6_147 (c_X6_sign l G B0 M d t un bm ln a b ps v A U L K SE SH BU hM hv (by omega) (by omega) hps (by omega)) hM.1 rfl rfl rfl rfl rfl ⟨Nat.le_of_ble_eq_true rfl, Nat.le_of_ble_eq_true rfl⟩ (Nat.le_of_ble_eq_true rfl) ⟨Nat.le_refl _, Nat.le_refl _⟩ dX6_wants_9 (fun H locs M1 hH hp hS => ?_)
    subst hp
    have q16 := sgn_lt (a := a) hps
    refine lv_iload_n hx hb dX6_wants_12 rfl (lv_at hl 1 rfl) ?_
    refine n_cmp_ne (tgt := 20) hx hb (by omega) (by omega) dX6_wants_13 (by decide) (fun h17 => ?_) (fun h17 => ?_)
    · refine n_iconst hx hb 0 dX6_wants_20 (by decide) ?_
      refine z_put (T := TX6) hE hH hS hM.1 rfl uw_X6 tyX6 tyX6_ok nmX6 12 (by decide) fkX6_143 rfl rfl rfl (Nat.le_of_ble_eq_true rfl) (by omega) dX6_wants_21 (fun H locs M20 hH hS e18 o19 => ?_)
      have hM21 : Md G d (sg t un (nI ln) (nI a) (zb false) bm) (xs v A U L K (fun i => nI (ps i)) SE SH BU) M20 := Md.setC hM e18 o19
      have hA22 := hM21.s (fun _ _ => rfl)
      have hF23 := fun q hq => (o19 q (by omega)).trans (hF q hq)
      refine lv_aload_n hx hb dX6_wants_24 rfl (lv_at hl 0 rfl) ?_
      refine lv_dup hx hb dX6_wants_25 rfl ?_
      refine z_get (T := TX6) (v := .int (nI a)) hE hH hM21.1 rfl uw_X6 11 (by decide) fkX6_140 rfl dX6_wants_26 ?_
      refine lv_aload_n hx hb dX6_wants_29 rfl (lv_at hl 0 rfl) ?_
      refine z_get (T := TX6) (v := .int (zb false)) hE hH hM21.1 rfl uw_X6 12 (by decide) fkX6_143 rfl dX6_wants_30 ?_
      refine b_if_eq (tgt := 40) hx hb dX6_wants_33 (by decide) (fun _ => ?_) (fun h => Bool.noConfusion h)
      refine n_iconst hx hb 0 dX6_wants_40 (by decide) ?_
      refine n_iadd hx hb dX6_wants_41 ?_
      refine z_put (T := TX6) hE hH hS hM21.1 rfl uw_X6 tyX6 tyX6_ok nmX6 11 (by decide) fkX6_140 rfl rfl rfl (Nat.le_of_ble_eq_true rfl) (by omega) dX6_wants_42 (fun H locs M27 hH hS e25 o26 => ?_)
      have hM28 : Md G d (sg t un (nI ln) (nI (a + 0)) (zb false) bm) (xs v A U L K (fun i => nI (ps i)) SE SH BU) M27 := Md.setC hM21 e25 o26
      have hA29 := hM28.s (fun _ _ => rfl)
      have hF30 := fun q hq => (o26 q (by omega)).trans (hF23 q hq)
      exact z_vret hE hH hS ⟨false, _, (by rw [h2, decide_eq_false h17]; rfl), rfl, hM28, hF30⟩ dX6_wants_45
    · refine n_iconst hx hb 1 dX6_wants_16 (by decide) ?_
      refine lv_goto (tgt := 21) hx hb dX6_wants_17 (by decide) ?_
      refine z_put (T := TX6) hE hH hS hM.1 rfl uw_X6 tyX6 tyX6_ok nmX6 12 (by decide) fkX6_143 rfl rfl rfl (Nat.le_of_ble_eq_true rfl) (by omega) dX6_wants_21 (fun H locs M33 hH hS e31 o32 => ?_)
      have hM34 : Md G d (sg t un (nI ln) (nI a) (zb true) bm) (xs v A U L K (fun i => nI (ps i)) SE SH BU) M33 := Md.setC hM e31 o32
      have hA35 := hM34.s (fun _ _ => rfl)
      have hF36 := fun q hq => (o32 q (by omega)).trans (hF q hq)
      refine lv_aload_n hx hb dX6_wants_24 rfl (lv_at hl 0 rfl) ?_
      refine lv_dup hx hb dX6_wants_25 rfl ?_
      refine z_get (T := TX6) (v := .int (nI a)) hE hH hM34.1 rfl uw_X6 11 (by decide) fkX6_140 rfl dX6_wants_26 ?_
      refine lv_aload_n hx hb dX6_wants_29 rfl (lv_at hl 0 rfl) ?_
      refine z_get (T := TX6) (v := .int (zb true)) hE hH hM34.1 rfl uw_X6 12 (by decide) fkX6_143 rfl dX6_wants_30 ?_
      refine b_if_eq (tgt := 40) hx hb dX6_wants_33 (by decide) (fun h => Bool.noConfusion h) (fun _ => ?_)
      refine n_iconst hx hb 1 dX6_wants_36 (by decide) ?_
      refine lv_goto (tgt := 41) hx hb dX6_wants_37 (by decide) ?_
      refine n_iadd hx hb dX6_wants_41 ?_
      refine z_put (T := TX6) hE hH hS hM34.1 rfl uw_X6 tyX6 tyX6_ok nmX6 11 (by decide) fkX6_140 rfl rfl rfl (Nat.le_of_ble_eq_true rfl) (by omega) dX6_wants_42 (fun H locs M40 hH hS e38 o39 => ?_)
      have hM41 : Md G d (sg t un (nI ln) (nI (a + 1)) (zb true) bm) (xs v A U L K (fun i => nI (ps i)) SE SH BU) M40 := Md.setC hM34 e38 o39
      have hA42 := hM41.s (fun _ _ => rfl)
      have hF43 := fun q hq => (o39 q (by omega)).trans (hF36 q hq)
      exact z_vret hE hH hS ⟨true, _, (by rw [h2, decide_eq_true h17]; rfl), rfl, hM41, hF43⟩ dX6_wants_45

set_option maxHeartbeats 4000000 in
set_option maxRecDepth 100000 in
theorem c_X6_digit (l : Launch) (G : zG) (B0 : Nat) (M : Mm) (d : Nat) (t un bm : Int32) (ln a : Nat) (b : Bool) (ps : Nat → Nat) (v : Wv) (A U L K SE SH BU : Nat → Int32) (hM : Md G d (sg t un (nI ln) (nI a) (zb b) bm) (xs v A U L K (fun i => nI (ps i)) SE SH BU) M) (hv : wOk v) (hBd : B0 ≤ d) (hln : ln ≤ 60) (hps : ∀ i, i < ln → ps i < 128) (ha : a ≤ ln) (md : Nat) (hm9 : md ≤ 9) : zMet l yX6_digit cX6_digit 3 (some .int) 1 0 0 G B0 M [.ref d, .int (nI md)] (some (.int (nI (sgn ps ln a) - nI 48))) (fun M1 => ∃ b1 a1, b1 = (b && dk ps ln md a) ∧ a1 = a + b1.toNat ∧ Md G d (sg t un (nI ln) (nI a1) (zb b1) bm) (xs v A U L K (fun i => nI (ps i)) SE SH BU) M1 ∧ ∀ q, (q < d ∨ d + 10 ≤ q) → M1 q = M q) := by
  refine z_met RX6 [(0, .ref d), (1, .int (nI md))] (by decide) rfl (Nat.le_of_ble_eq_true rfl) rfl ?_
  intro pg ev s m below meth cd ls hE hin hB0 hH hl
  have hx := hE.1
  have hb := hE.2.1
  have hn : v 0 ≤ 12 := hv.1
  have hA : zArr G 0 M (d + 1) 818 (fun i => nI (v i)) := hM.s (fun _ _ => rfl)
  have hF : ∀ q, (q < d ∨ d + 10 ≤ q) → M q = M q := fun _ _ => rfl
  refine z_gen B0 (fun H locs hH hS => ?_) hH
  refine lv_aload_n hx hb dX6_digit_0 rfl (lv_at hl 0 rfl) ?_
  refine lv_aload_n hx hb dX6_digit_1 rfl (lv_at hl 0 rfl) ?_
  refine z_get (T := TX6) (v := .int (zb b)) hE hH hM.1 rfl uw_X6 12 (by decide) fkX6_143 rfl dX6_digit_2 ?_
  refine b_if_eq (tgt := 28) hx hb dX6_digit_5 (by decide) (fun h2 => ?_) (fun h2 => ?_)
  · refine n_iconst hx hb 0 dX6_digit_28 (by decide) ?_
    refine z_put (T := TX6) hE hH hS hM.1 rfl uw_X6 tyX6 tyX6_ok nmX6 12 (by decide) fkX6_143 rfl rfl rfl (Nat.le_of_ble_eq_true rfl) (by omega) dX6_digit_29 (fun H locs M5 hH hS e3 o4 => ?_)
    have hM6 : Md G d (sg t un (nI ln) (nI a) (zb false) bm) (xs v A U L K (fun i => nI (ps i)) SE SH BU) M5 := Md.setC hM e3 o4
    have hA7 := hM6.s (fun _ _ => rfl)
    have hF8 := fun q hq => (o4 q (by omega)).trans (hF q hq)
    refine lv_aload_n hx hb dX6_digit_32 rfl (lv_at hl 0 rfl) ?_
    refine z_callV (rest := []) (st2 := [.int (nI (sgn ps ln a))]) hE hH hS hB0 hl ca_X6_sign mkX6_147 (c_X6_sign l G B0 M5 d t un bm ln a false ps v A U L K SE SH BU hM6 hv (by omega) (by omega) hps (by omega)) hM6.1 rfl rfl rfl rfl rfl ⟨Nat.le_of_ble_eq_true rfl, Nat.le_of_ble_eq_true rfl⟩ (Nat.le_of_ble_eq_true rfl) ⟨Nat.le_refl _, Nat.le_refl _⟩ dX6_digit_33 (fun H locs M1 hH hp hS => ?_)
    subst hp
    have q9 := sgn_lt (a := a) hps
    refine n_bipush hx hb 48 dX6_digit_36 (by decide) ?_
    refine lv_isub hx hb dX6_digit_38 ?_
    refine lv_istore_n (lv' := [(2, .int (nI (sgn ps ln a) - nI 48)), (0, .ref d), (1, .int (nI md))]) hx hb dX6_digit_39 rfl hl (by decide) rfl (fun ls hl => ?_)
    refine lv_aload_n hx hb dX6_digit_40 rfl (lv_at hl 1 rfl) ?_
    refine lv_dup hx hb dX6_digit_41 rfl ?_
    refine z_get (T := TX6) (v := .int (nI a)) hE hH hM6.1 rfl uw_X6 11 (by decide) fkX6_140 rfl dX6_digit_42 ?_
    refine lv_aload_n hx hb dX6_digit_45 rfl (lv_at hl 1 rfl) ?_
    refine z_get (T := TX6) (v := .int (zb false)) hE hH hM6.1 rfl uw_X6 12 (by decide) fkX6_143 rfl dX6_digit_46 ?_
    refine b_if_eq (tgt := 56) hx hb dX6_digit_49 (by decide) (fun _ => ?_) (fun h => Bool.noConfusion h)
    refine n_iconst hx hb 0 dX6_digit_56 (by decide) ?_
    refine n_iadd hx hb dX6_digit_57 ?_
    refine z_put (T := TX6) hE hH hS hM6.1 rfl uw_X6 tyX6 tyX6_ok nmX6 11 (by decide) fkX6_140 rfl rfl rfl (Nat.le_of_ble_eq_true rfl) (by omega) dX6_digit_58 (fun H locs M13 hH hS e11 o12 => ?_)
    have hM14 : Md G d (sg t un (nI ln) (nI (a + 0)) (zb false) bm) (xs v A U L K (fun i => nI (ps i)) SE SH BU) M13 := Md.setC hM6 e11 o12
    have hA15 := hM14.s (fun _ _ => rfl)
    have hF16 := fun q hq => (o12 q (by omega)).trans (hF8 q hq)
    refine lv_iload_n hx hb dX6_digit_61 rfl (lv_at hl 0 rfl) ?_
    exact z_iret hE hH hS rfl ⟨false, _, (by rw [h2]; rfl), rfl, hM14, hF16⟩ dX6_digit_62
  · refine lv_aload_n hx hb dX6_digit_8 rfl (lv_at hl 0 rfl) ?_
    refine z_callV (rest := [.ref d]) (st2 := [.int (nI (sgn ps ln a)), .ref d]) hE hH hS hB0 hl ca_X6_sign mkX6_147 (c_X6_sign l G B0 M d t un bm ln a b ps v A U L K SE SH BU hM hv (by omega) (by omega) hps (by omega)) hM.1 rfl rfl rfl rfl rfl ⟨Nat.le_of_ble_eq_true rfl, Nat.le_of_ble_eq_true rfl⟩ (Nat.le_of_ble_eq_true rfl) ⟨Nat.le_refl _, Nat.le_refl _⟩ dX6_digit_9 (fun H locs M1 hH hp hS => ?_)
    subst hp
    have q17 := sgn_lt (a := a) hps
    refine n_bipush hx hb 48 dX6_digit_12 (by decide) ?_
    refine n_bipush hx hb 48 dX6_digit_14 (by decide) ?_
    refine lv_iload_n hx hb dX6_digit_16 rfl (lv_at hl 1 rfl) ?_
    refine n_iadd hx hb dX6_digit_17 ?_
    refine z_callS (rest := [.ref d]) (st2 := [.int (zb (wi (nI (sgn ps ln a)) (nI 48) (nI (48 + md)))), .ref d]) hE hH hS hB0 hl ca_X6_in mkX6_42 (c_X6_in l G B0 M (nI (sgn ps ln a)) (nI 48) (nI (48 + md))) rfl rfl rfl ⟨Nat.le_of_ble_eq_true rfl, Nat.le_of_ble_eq_true rfl⟩ (Nat.le_of_ble_eq_true rfl) ⟨Nat.le_refl _, Nat.le_refl _⟩ dX6_digit_18 (fun H locs M1 hH hp hS => ?_)
    subst hp
    refine b_if_eq (tgt := 28) hx hb dX6_digit_21 (by decide) (fun h19 => ?_) (fun h19 => ?_)
    · refine n_iconst hx hb 0 dX6_digit_28 (by decide) ?_
      refine z_put (T := TX6) hE hH hS hM.1 rfl uw_X6 tyX6 tyX6_ok nmX6 12 (by decide) fkX6_143 rfl rfl rfl (Nat.le_of_ble_eq_true rfl) (by omega) dX6_digit_29 (fun H locs M22 hH hS e20 o21 => ?_)
      have hM23 : Md G d (sg t un (nI ln) (nI a) (zb false) bm) (xs v A U L K (fun i => nI (ps i)) SE SH BU) M22 := Md.setC hM e20 o21
      have hA24 := hM23.s (fun _ _ => rfl)
      have hF25 := fun q hq => (o21 q (by omega)).trans (hF q hq)
      refine lv_aload_n hx hb dX6_digit_32 rfl (lv_at hl 0 rfl) ?_
      refine z_callV (rest := []) (st2 := [.int (nI (sgn ps ln a))]) hE hH hS hB0 hl ca_X6_sign mkX6_147 (c_X6_sign l G B0 M22 d t un bm ln a false ps v A U L K SE SH BU hM23 hv (by omega) (by omega) hps (by omega)) hM23.1 rfl rfl rfl rfl rfl ⟨Nat.le_of_ble_eq_true rfl, Nat.le_of_ble_eq_true rfl⟩ (Nat.le_of_ble_eq_true rfl) ⟨Nat.le_refl _, Nat.le_refl _⟩ dX6_digit_33 (fun H locs M1 hH hp hS => ?_)
      subst hp
      have q26 := sgn_lt (a := a) hps
      refine n_bipush hx hb 48 dX6_digit_36 (by decide) ?_
      refine lv_isub hx hb dX6_digit_38 ?_
      refine lv_istore_n (lv' := [(2, .int (nI (sgn ps ln a) - nI 48)), (0, .ref d), (1, .int (nI md))]) hx hb dX6_digit_39 rfl hl (by decide) rfl (fun ls hl => ?_)
      refine lv_aload_n hx hb dX6_digit_40 rfl (lv_at hl 1 rfl) ?_
      refine lv_dup hx hb dX6_digit_41 rfl ?_
      refine z_get (T := TX6) (v := .int (nI a)) hE hH hM23.1 rfl uw_X6 11 (by decide) fkX6_140 rfl dX6_digit_42 ?_
      refine lv_aload_n hx hb dX6_digit_45 rfl (lv_at hl 1 rfl) ?_
      refine z_get (T := TX6) (v := .int (zb false)) hE hH hM23.1 rfl uw_X6 12 (by decide) fkX6_143 rfl dX6_digit_46 ?_
      refine b_if_eq (tgt := 56) hx hb dX6_digit_49 (by decide) (fun _ => ?_) (fun h => Bool.noConfusion h)
      refine n_iconst hx hb 0 dX6_digit_56 (by decide) ?_
      refine n_iadd hx hb dX6_digit_57 ?_
      refine z_put (T := TX6) hE hH hS hM23.1 rfl uw_X6 tyX6 tyX6_ok nmX6 11 (by decide) fkX6_140 rfl rfl rfl (Nat.le_of_ble_eq_true rfl) (by omega) dX6_digit_58 (fun H locs M30 hH hS e28 o29 => ?_)
      have hM31 : Md G d (sg t un (nI ln) (nI (a + 0)) (zb false) bm) (xs v A U L K (fun i => nI (ps i)) SE SH BU) M30 := Md.setC hM23 e28 o29
      have hA32 := hM31.s (fun _ _ => rfl)
      have hF33 := fun q hq => (o29 q (by omega)).trans (hF25 q hq)
      refine lv_iload_n hx hb dX6_digit_61 rfl (lv_at hl 0 rfl) ?_
      exact z_iret hE hH hS rfl ⟨false, _, (by rw [h2, ← wi_dk hps hm9, h19]; rfl), rfl, hM31, hF33⟩ dX6_digit_62
    · refine n_iconst hx hb 1 dX6_digit_24 (by decide) ?_
      refine lv_goto (tgt := 29) hx hb dX6_digit_25 (by decide) ?_
      refine z_put (T := TX6) hE hH hS hM.1 rfl uw_X6 tyX6 tyX6_ok nmX6 12 (by decide) fkX6_143 rfl rfl rfl (Nat.le_of_ble_eq_true rfl) (by omega) dX6_digit_29 (fun H locs M36 hH hS e34 o35 => ?_)
      have hM37 : Md G d (sg t un (nI ln) (nI a) (zb true) bm) (xs v A U L K (fun i => nI (ps i)) SE SH BU) M36 := Md.setC hM e34 o35
      have hA38 := hM37.s (fun _ _ => rfl)
      have hF39 := fun q hq => (o35 q (by omega)).trans (hF q hq)
      refine lv_aload_n hx hb dX6_digit_32 rfl (lv_at hl 0 rfl) ?_
      refine z_callV (rest := []) (st2 := [.int (nI (sgn ps ln a))]) hE hH hS hB0 hl ca_X6_sign mkX6_147 (c_X6_sign l G B0 M36 d t un bm ln a true ps v A U L K SE SH BU hM37 hv (by omega) (by omega) hps (by omega)) hM37.1 rfl rfl rfl rfl rfl ⟨Nat.le_of_ble_eq_true rfl, Nat.le_of_ble_eq_true rfl⟩ (Nat.le_of_ble_eq_true rfl) ⟨Nat.le_refl _, Nat.le_refl _⟩ dX6_digit_33 (fun H locs M1 hH hp hS => ?_)
      subst hp
      have q40 := sgn_lt (a := a) hps
      refine n_bipush hx hb 48 dX6_digit_36 (by decide) ?_
      refine lv_isub hx hb dX6_digit_38 ?_
      refine lv_istore_n (lv' := [(2, .int (nI (sgn ps ln a) - nI 48)), (0, .ref d), (1, .int (nI md))]) hx hb dX6_digit_39 rfl hl (by decide) rfl (fun ls hl => ?_)
      refine lv_aload_n hx hb dX6_digit_40 rfl (lv_at hl 1 rfl) ?_
      refine lv_dup hx hb dX6_digit_41 rfl ?_
      refine z_get (T := TX6) (v := .int (nI a)) hE hH hM37.1 rfl uw_X6 11 (by decide) fkX6_140 rfl dX6_digit_42 ?_
      refine lv_aload_n hx hb dX6_digit_45 rfl (lv_at hl 1 rfl) ?_
      refine z_get (T := TX6) (v := .int (zb true)) hE hH hM37.1 rfl uw_X6 12 (by decide) fkX6_143 rfl dX6_digit_46 ?_
      refine b_if_eq (tgt := 56) hx hb dX6_digit_49 (by decide) (fun h => Bool.noConfusion h) (fun _ => ?_)
      refine n_iconst hx hb 1 dX6_digit_52 (by decide) ?_
      refine lv_goto (tgt := 57) hx hb dX6_digit_53 (by decide) ?_
      refine n_iadd hx hb dX6_digit_57 ?_
      refine z_put (T := TX6) hE hH hS hM37.1 rfl uw_X6 tyX6 tyX6_ok nmX6 11 (by decide) fkX6_140 rfl rfl rfl (Nat.le_of_ble_eq_true rfl) (by omega) dX6_digit_58 (fun H locs M44 hH hS e42 o43 => ?_)
      have hM45 : Md G d (sg t un (nI ln) (nI (a + 1)) (zb true) bm) (xs v A U L K (fun i => nI (ps i)) SE SH BU) M44 := Md.setC hM37 e42 o43
      have hA46 := hM45.s (fun _ _ => rfl)
      have hF47 := fun q hq => (o43 q (by omega)).trans (hF39 q hq)
      refine lv_iload_n hx hb dX6_digit_61 rfl (lv_at hl 0 rfl) ?_
      exact z_iret hE hH hS rfl ⟨true, _, (by rw [h2, ← wi_dk hps hm9, h19]; rfl), rfl, hM45, hF47⟩ dX6_digit_62

set_option maxHeartbeats 4000000 in
set_option maxRecDepth 100000 in
theorem c_X6_readsBuyer (l : Launch) (G : zG) (B0 : Nat) (M : Mm) (d : Nat) (t un : Int32) (bm ln a : Nat) (ps : Nat → Nat) (v : Wv) (A U L K SE SH BU : Nat → Int32) (hM : Md G d (sg t un (nI ln) (nI a) (zb true) (nI bm)) (xs v A U L K (fun i => nI (ps i)) SE SH BU) M) (hv : wOk v) (hBd : B0 ≤ d) (hln : ln ≤ 60) (hps : ∀ i, i < ln → ps i < 128) (ha : a ≤ ln) (hbm : bm ≤ 12) : zMet l yX6_readsBuyer cX6_readsBuyer 5 none 2 0 0 G B0 M [.ref d] none (fun M1 => ∃ a1 b1 bm1 BU1, Md G d (sg t un (nI ln) (nI a1) (zb b1) (nI bm1)) (xs v A U L K (fun i => nI (ps i)) SE SH BU1) M1 ∧ ((b1 = false ∧ bm1 = bm ∧ rdF ps ln a a1) ∨ (b1 = true ∧ bm1 = bm + 1 ∧ a1 ≤ ln ∧ ∃ c u, rdT ps ln a a1 c u ∧ ∀ i, BU1 i = if i = 2 * bm + 1 then nI u else if i = 2 * bm then nI c else BU i)) ∧ ∀ q, (q < d ∨ d + 10 ≤ q) → M1 q = M q) := by
  refine z_met RX6 [(0, .ref d)] (by decide) rfl (Nat.le_of_ble_eq_true rfl) rfl ?_
  intro pg ev s m below meth cd ls hE hin hB0 hH hl
  have hx := hE.1
  have hb := hE.2.1
  have hn : v 0 ≤ 12 := hv.1
  have hA : zArr G 0 M (d + 1) 818 (fun i => nI (v i)) := hM.s (fun _ _ => rfl)
  have hF : ∀ q, (q < d ∨ d + 10 ≤ q) → M q = M q := fun _ _ => rfl
  refine z_gen B0 (fun H locs hH hS => ?_) hH
  refine lv_aload_n hx hb dX6_readsBuyer_0 rfl (lv_at hl 0 rfl) ?_
  refine n_bipush hx hb 9 dX6_readsBuyer_1 (by decide) ?_
  refine z_callV (rest := []) (st2 := [.int (nI (sgn ps ln a) - nI 48)]) hE hH hS hB0 hl ca_X6_digit mkX6_150 (c_X6_digit l G B0 M d t un (nI bm) ln a true ps v A U L K SE SH BU hM hv (by omega) (by omega) hps (by omega) 9 (by omega)) hM.1 rfl rfl rfl rfl rfl ⟨Nat.le_of_ble_eq_true rfl, Nat.le_of_ble_eq_true rfl⟩ (Nat.le_of_ble_eq_true rfl) ⟨Nat.le_refl _, Nat.le_refl _⟩ dX6_readsBuyer_3 (fun H locs M2 hH hp hS => ?_)
  obtain ⟨b1, a1, hb1, ha1, hM3, hG4⟩ := hp
  have hA6 := hM3.s (fun _ _ => rfl)
  have hF5 := fun q hq => (hG4 q hq).trans (hF q hq)
  have hl1 : a1 ≤ ln := wd_le hb1 ha1 (by omega) (fun q => (dk_in q).1)
  refine lv_istore_n (lv' := [(1, .int (nI (sgn ps ln a) - nI 48)), (0, .ref d)]) hx hb dX6_readsBuyer_6 rfl hl (by decide) rfl (fun ls hl => ?_)
  refine lv_aload_n hx hb dX6_readsBuyer_7 rfl (lv_at hl 1 rfl) ?_
  refine n_iconst hx hb 5 dX6_readsBuyer_8 (by decide) ?_
  refine z_callV (rest := []) (st2 := [.int (nI (sgn ps ln a1) - nI 48)]) hE hH hS hB0 hl ca_X6_digit mkX6_150 (c_X6_digit l G B0 M2 d t un (nI bm) ln a1 b1 ps v A U L K SE SH BU hM3 hv (by omega) (by omega) hps (by omega) 5 (by omega)) hM3.1 rfl rfl rfl rfl rfl ⟨Nat.le_of_ble_eq_true rfl, Nat.le_of_ble_eq_true rfl⟩ (Nat.le_of_ble_eq_true rfl) ⟨Nat.le_refl _, Nat.le_refl _⟩ dX6_readsBuyer_9 (fun H locs M8 hH hp hS => ?_)
  obtain ⟨b7, a7, hb7, ha7, hM9, hG10⟩ := hp
  have hA12 := hM9.s (fun _ _ => rfl)
  have hF11 := fun q hq => (hG10 q hq).trans (hF5 q hq)
  have hl7 : a7 ≤ ln := wd_le hb7 ha7 (by omega) (fun q => (dk_in q).1)
  refine lv_istore_n (lv' := [(2, .int (nI (sgn ps ln a1) - nI 48)), (1, .int (nI (sgn ps ln a) - nI 48)), (0, .ref d)]) hx hb dX6_readsBuyer_12 rfl hl (by decide) rfl (fun ls hl => ?_)
  refine lv_aload_n hx hb dX6_readsBuyer_13 rfl (lv_at hl 2 rfl) ?_
  refine n_bipush hx hb 58 dX6_readsBuyer_14 (by decide) ?_
  refine z_callV (rest := []) (st2 := []) hE hH hS hB0 hl ca_X6_wants mkX6_153 (c_X6_wants l G B0 M8 d t un (nI bm) ln a7 b7 ps v A U L K SE SH BU hM9 hv (by omega) (by omega) hps (by omega) 58 (by omega)) hM9.1 rfl rfl rfl rfl rfl ⟨Nat.le_of_ble_eq_true rfl, Nat.le_of_ble_eq_true rfl⟩ (Nat.le_of_ble_eq_true rfl) ⟨Nat.le_refl _, Nat.le_refl _⟩ dX6_readsBuyer_16 (fun H locs M14 hH hp hS => ?_)
  obtain ⟨b13, a13, hb13, ha13, hM15, hG16⟩ := hp
  have hA18 := hM15.s (fun _ _ => rfl)
  have hF17 := fun q hq => (hG16 q hq).trans (hF11 q hq)
  have hl13 : a13 ≤ ln := wd_le hb13 ha13 (by omega) (fun q => sgn_in (by rw [of_decide_eq_true q]; decide))
  refine lv_aload_n hx hb dX6_readsBuyer_19 rfl (lv_at hl 2 rfl) ?_
  refine n_bipush hx hb 9 dX6_readsBuyer_20 (by decide) ?_
  refine z_callV (rest := []) (st2 := [.int (nI (sgn ps ln a13) - nI 48)]) hE hH hS hB0 hl ca_X6_digit mkX6_150 (c_X6_digit l G B0 M14 d t un (nI bm) ln a13 b13 ps v A U L K SE SH BU hM15 hv (by omega) (by omega) hps (by omega) 9 (by omega)) hM15.1 rfl rfl rfl rfl rfl ⟨Nat.le_of_ble_eq_true rfl, Nat.le_of_ble_eq_true rfl⟩ (Nat.le_of_ble_eq_true rfl) ⟨Nat.le_refl _, Nat.le_refl _⟩ dX6_readsBuyer_22 (fun H locs M20 hH hp hS => ?_)
  obtain ⟨b19, a19, hb19, ha19, hM21, hG22⟩ := hp
  have hA24 := hM21.s (fun _ _ => rfl)
  have hF23 := fun q hq => (hG22 q hq).trans (hF17 q hq)
  have hl19 : a19 ≤ ln := wd_le hb19 ha19 (by omega) (fun q => (dk_in q).1)
  refine lv_istore_n (lv' := [(3, .int (nI (sgn ps ln a13) - nI 48)), (2, .int (nI (sgn ps ln a1) - nI 48)), (1, .int (nI (sgn ps ln a) - nI 48)), (0, .ref d)]) hx hb dX6_readsBuyer_25 rfl hl (by decide) rfl (fun ls hl => ?_)
  refine n_iconst hx hb 1 dX6_readsBuyer_26 (by decide) ?_
  refine lv_istore (lv' := [(4, .int (nI 1)), (3, .int (nI (sgn ps ln a13) - nI 48)), (2, .int (nI (sgn ps ln a1) - nI 48)), (1, .int (nI (sgn ps ln a) - nI 48)), (0, .ref d)]) hx hb dX6_readsBuyer_27 hl (by decide) rfl (fun ls hl => ?_)
  rcases rd_chain hb1 ha1 hb7 ha7 hb13 ha13 hb19 ha19 with ⟨hw, g1, g2, g3, g4, k0, k1, k2, k3⟩ | ⟨hw, hF4⟩
  · have j0 := dk_in k0
    have j1 := dk_in k1
    have j3 := dk_in k3
    have hMt : Md G d (sg t un (nI ln) (nI a19) (zb true) (nI bm)) (xs v A U L K (fun i => nI (ps i)) SE SH BU) M20 := by rw [← hw]; exact hM21
    rw [g1] at hl
    rw [g3] at hl
    rw [nI_sub j0.2.1, nI_sub j1.2.1, nI_sub j3.2.1] at hl
    obtain ⟨x, hxd⟩ : ∃ x, x = sgn ps ln a - 48 := ⟨_, rfl⟩
    obtain ⟨y, hyd⟩ : ∃ y, y = sgn ps ln (a + 1) - 48 := ⟨_, rfl⟩
    obtain ⟨u0, hud⟩ : ∃ u0, u0 = sgn ps ln (a + 3) - 48 := ⟨_, rfl⟩
    rw [← hxd, ← hyd, ← hud] at hl
    replace hl : lv_has ls 5 [(4, .int (nI 1)), (3, .int (nI u0)), (2, .int (nI y)), (1, .int (nI x)), (0, .ref d)] := hl
    have hAt := hMt.s (v := v) (fun _ _ => rfl)
    have L29 : ∀ (dd : Nat) (k : Nat) (u : Nat) (q : Nat) (M1 : Mm), 3 < k + dd → (k ≤ 3) → (1 ≤ k) → (Md G d (sg t un (nI ln) (nI q) (zb true) (nI bm)) (xs v A U L K (fun i => nI (ps i)) SE SH BU) M1) → (∀ q, (q < d ∨ d + 10 ≤ q) → M1 q = M q) → (q ≤ ln) → (prs ps ln (3 - k) q u = prs ps ln 2 (a + 4) u0) → (u ≤ 999 ∧ (k ≤ 2 → u ≤ 99) ∧ (k ≤ 1 → u ≤ 9)) → ∀ (H : Heap) (locs : List Loc), zH G M1 H → zS 0 B0 s.heap H locs → ∀ (ls : Array Slot), lv_has ls 5 [(0, .ref d), (1, .int (nI x)), (2, .int (nI y)), (3, .int (nI u)), (4, .int (nI k))] → zW pg l ev 2 0 0 s m [.ref d] below meth cd H locs 0 0 G B0 none (fun M1 => ∃ a1 b1 bm1 BU1, Md G d (sg t un (nI ln) (nI a1) (zb b1) (nI bm1)) (xs v A U L K (fun i => nI (ps i)) SE SH BU1) M1 ∧ ((b1 = false ∧ bm1 = bm ∧ rdF ps ln a a1) ∨ (b1 = true ∧ bm1 = bm + 1 ∧ a1 ≤ ln ∧ ∃ c u, rdT ps ln a a1 c u ∧ ∀ i, BU1 i = if i = 2 * bm + 1 then nI u else if i = 2 * bm then nI c else BU i)) ∧ ∀ q, (q < d ∨ d + 10 ≤ q) → M1 q = M q) (F0 m 29 ls []) := by
      intro dd
      induction dd with
      | zero =>
        intro k u q M1 hdd hk hk1 hM1 hF1 hq hpr hu9
        exact absurd hdd (by omega)
      | succ dd ih =>
        intro k u q M1 hdd hk hk1 hM1 hF1 hq hpr hu9 H locs hH hS ls hl
        have hA1 : zArr G 0 M1 (d + 1) 818 (fun i => nI (v i)) := hM1.s (fun _ _ => rfl)
        refine lv_iload hx hb dX6_readsBuyer_29 (lv_at hl 4 rfl) ?_
        refine n_iconst hx hb 3 dX6_readsBuyer_31 (by decide) ?_
        refine n_cmp_ge (tgt := 89) hx hb (by omega) (by decide) dX6_readsBuyer_32 (by decide) (fun h25 => ?_) (fun h25 => ?_)
        · have hex : prs ps ln (3 - k) q u = (q, u) := by first | (rw [show 3 - k = 0 by omega]; rfl) | (cases hz : 3 - k with | zero => rfl | succ n => first | (rw [prs_succ, if_pos (by omega)]) | (rw [prs_succ]; split; (· rfl); (· rw [if_neg (by rw [← wi_dk hps (by decide), h]; decide)])))
          refine lv_aload_n hx hb dX6_readsBuyer_89 rfl (lv_at hl 0 rfl) ?_
          refine z_get (T := TX6) (v := .ref (d + 9)) hE hH hM1.1 rfl uw_X6 13 (by decide) fkX6_35 rfl dX6_readsBuyer_90 ?_
          refine n_iconst hx hb 2 dX6_readsBuyer_93 (by decide) ?_
          refine lv_aload_n hx hb dX6_readsBuyer_94 rfl (lv_at hl 0 rfl) ?_
          refine z_get (T := TX6) (v := .int (nI bm)) hE hH hM1.1 rfl uw_X6 14 (by decide) fkX6_107 rfl dX6_readsBuyer_95 ?_
          refine n_imul hx hb dX6_readsBuyer_98 ?_
          refine n_bipush hx hb 10 dX6_readsBuyer_99 (by decide) ?_
          refine lv_iload_n hx hb dX6_readsBuyer_101 rfl (lv_at hl 2 rfl) ?_
          refine n_imul hx hb dX6_readsBuyer_102 ?_
          refine lv_iload_n hx hb dX6_readsBuyer_103 rfl (lv_at hl 1 rfl) ?_
          refine n_iadd hx hb dX6_readsBuyer_104 ?_
          refine z_topeq (show nI ((10 * y) + x) = nI (y * 10 + x) from by rw [show (10 * y) + x = y * 10 + x by omega]) ?_
          refine z_iast hE hH hS (show zArr G 0 M1 (d + 9) 64 BU from hM1.2 9 (by decide) (by decide)) (k := 2 * bm) (by omega) (by decide) (by omega) dX6_readsBuyer_105 (fun H locs M28 hH hS e26 o27 => ?_)
          have hM29 : Md G d (sg t un (nI ln) (nI q) (zb true) (nI bm)) (xs v A U L K (fun i => nI (ps i)) SE SH (fun i => if i = (2 * bm) then (nI (y * 10 + x)) else BU i)) M28 := Md.setJ9 hM1 e26 (fun i h1 h2 => by rcases (show i = 1 ∨ i = 2 ∨ i = 3 ∨ i = 4 ∨ i = 5 ∨ i = 6 ∨ i = 7 ∨ i = 8 by omega) with rfl | rfl | rfl | rfl | rfl | rfl | rfl | rfl <;> rfl) o27
          have hA30 := hM29.s (fun _ _ => rfl)
          have hF31 := fun q hq => (o27 q (by omega)).trans (hF1 q hq)
          refine lv_aload_n hx hb dX6_readsBuyer_106 rfl (lv_at hl 0 rfl) ?_
          refine z_get (T := TX6) (v := .ref (d + 9)) hE hH hM29.1 rfl uw_X6 13 (by decide) fkX6_35 rfl dX6_readsBuyer_107 ?_
          refine n_iconst hx hb 2 dX6_readsBuyer_110 (by decide) ?_
          refine lv_aload_n hx hb dX6_readsBuyer_111 rfl (lv_at hl 0 rfl) ?_
          refine z_get (T := TX6) (v := .int (nI bm)) hE hH hM29.1 rfl uw_X6 14 (by decide) fkX6_107 rfl dX6_readsBuyer_112 ?_
          refine n_imul hx hb dX6_readsBuyer_115 ?_
          refine n_iconst hx hb 1 dX6_readsBuyer_116 (by decide) ?_
          refine n_iadd hx hb dX6_readsBuyer_117 ?_
          refine lv_iload_n hx hb dX6_readsBuyer_118 rfl (lv_at hl 3 rfl) ?_
          refine z_iast hE hH hS (show zArr G 0 M28 (d + 9) 64 (fun i => if i = (2 * bm) then (nI (y * 10 + x)) else BU i) from hM29.2 9 (by decide) (by decide)) (k := (2 * bm) + 1) (by omega) (by decide) (by omega) dX6_readsBuyer_119 (fun H locs M34 hH hS e32 o33 => ?_)
          have hM35 : Md G d (sg t un (nI ln) (nI q) (zb true) (nI bm)) (xs v A U L K (fun i => nI (ps i)) SE SH (fun i => if i = ((2 * bm) + 1) then (nI u) else (fun i => if i = (2 * bm) then (nI (y * 10 + x)) else BU i) i)) M34 := Md.setJ9 hM29 e32 (fun i h1 h2 => by rcases (show i = 1 ∨ i = 2 ∨ i = 3 ∨ i = 4 ∨ i = 5 ∨ i = 6 ∨ i = 7 ∨ i = 8 by omega) with rfl | rfl | rfl | rfl | rfl | rfl | rfl | rfl <;> rfl) o33
          have hA36 := hM35.s (fun _ _ => rfl)
          have hF37 := fun q hq => (o33 q (by omega)).trans (hF31 q hq)
          refine lv_aload_n hx hb dX6_readsBuyer_120 rfl (lv_at hl 0 rfl) ?_
          refine lv_dup hx hb dX6_readsBuyer_121 rfl ?_
          refine z_get (T := TX6) (v := .int (nI bm)) hE hH hM35.1 rfl uw_X6 14 (by decide) fkX6_107 rfl dX6_readsBuyer_122 ?_
          refine lv_aload_n hx hb dX6_readsBuyer_125 rfl (lv_at hl 0 rfl) ?_
          refine z_get (T := TX6) (v := .int (zb true)) hE hH hM35.1 rfl uw_X6 12 (by decide) fkX6_143 rfl dX6_readsBuyer_126 ?_
          refine b_if_eq (tgt := 136) hx hb dX6_readsBuyer_129 (by decide) (fun h => Bool.noConfusion h) (fun _ => ?_)
          refine n_iconst hx hb 1 dX6_readsBuyer_132 (by decide) ?_
          refine lv_goto (tgt := 137) hx hb dX6_readsBuyer_133 (by decide) ?_
          refine n_iadd hx hb dX6_readsBuyer_137 ?_
          refine z_put (T := TX6) hE hH hS hM35.1 rfl uw_X6 tyX6 tyX6_ok nmX6 14 (by decide) fkX6_107 rfl rfl rfl (Nat.le_of_ble_eq_true rfl) (by omega) dX6_readsBuyer_138 (fun H locs M41 hH hS e39 o40 => ?_)
          have hM42 : Md G d (sg t un (nI ln) (nI q) (zb true) (nI (bm + 1))) (xs v A U L K (fun i => nI (ps i)) SE SH (fun i => if i = ((2 * bm) + 1) then (nI u) else (fun i => if i = (2 * bm) then (nI (y * 10 + x)) else BU i) i)) M41 := Md.setC hM35 e39 o40
          have hA43 := hM42.s (fun _ _ => rfl)
          have hF44 := fun q hq => (o40 q (by omega)).trans (hF37 q hq)
          exact z_vret hE hH hS ⟨_, true, bm + 1, _, hM42, Or.inr ⟨rfl, rfl, hq, _, _, ⟨k0, k1, k2, k3, by rw [← hxd, ← hyd], by rw [← hud, ← hpr]; exact hex, by omega, by omega⟩, fun _ => rfl⟩, hF44⟩ dX6_readsBuyer_141
        · refine lv_aload_n hx hb dX6_readsBuyer_35 rfl (lv_at hl 0 rfl) ?_
          refine z_get (T := TX6) (v := .int (zb true)) hE hH hM1.1 rfl uw_X6 12 (by decide) fkX6_143 rfl dX6_readsBuyer_36 ?_
          refine b_if_eq (tgt := 89) hx hb dX6_readsBuyer_39 (by decide) (fun h => Bool.noConfusion h) (fun _ => ?_)
          refine lv_iload_n hx hb dX6_readsBuyer_42 rfl (lv_at hl 3 rfl) ?_
          refine n_if_le (tgt := 89) hx hb (by omega) dX6_readsBuyer_43 (by decide) (fun h46 => ?_) (fun h46 => ?_)
          · have hex : prs ps ln (3 - k) q u = (q, u) := by first | (rw [show 3 - k = 0 by omega]; rfl) | (cases hz : 3 - k with | zero => rfl | succ n => first | (rw [prs_succ, if_pos (by omega)]) | (rw [prs_succ]; split; (· rfl); (· rw [if_neg (by rw [← wi_dk hps (by decide), h]; decide)])))
            refine lv_aload_n hx hb dX6_readsBuyer_89 rfl (lv_at hl 0 rfl) ?_
            refine z_get (T := TX6) (v := .ref (d + 9)) hE hH hM1.1 rfl uw_X6 13 (by decide) fkX6_35 rfl dX6_readsBuyer_90 ?_
            refine n_iconst hx hb 2 dX6_readsBuyer_93 (by decide) ?_
            refine lv_aload_n hx hb dX6_readsBuyer_94 rfl (lv_at hl 0 rfl) ?_
            refine z_get (T := TX6) (v := .int (nI bm)) hE hH hM1.1 rfl uw_X6 14 (by decide) fkX6_107 rfl dX6_readsBuyer_95 ?_
            refine n_imul hx hb dX6_readsBuyer_98 ?_
            refine n_bipush hx hb 10 dX6_readsBuyer_99 (by decide) ?_
            refine lv_iload_n hx hb dX6_readsBuyer_101 rfl (lv_at hl 2 rfl) ?_
            refine n_imul hx hb dX6_readsBuyer_102 ?_
            refine lv_iload_n hx hb dX6_readsBuyer_103 rfl (lv_at hl 1 rfl) ?_
            refine n_iadd hx hb dX6_readsBuyer_104 ?_
            refine z_topeq (show nI ((10 * y) + x) = nI (y * 10 + x) from by rw [show (10 * y) + x = y * 10 + x by omega]) ?_
            refine z_iast hE hH hS (show zArr G 0 M1 (d + 9) 64 BU from hM1.2 9 (by decide) (by decide)) (k := 2 * bm) (by omega) (by decide) (by omega) dX6_readsBuyer_105 (fun H locs M49 hH hS e47 o48 => ?_)
            have hM50 : Md G d (sg t un (nI ln) (nI q) (zb true) (nI bm)) (xs v A U L K (fun i => nI (ps i)) SE SH (fun i => if i = (2 * bm) then (nI (y * 10 + x)) else BU i)) M49 := Md.setJ9 hM1 e47 (fun i h1 h2 => by rcases (show i = 1 ∨ i = 2 ∨ i = 3 ∨ i = 4 ∨ i = 5 ∨ i = 6 ∨ i = 7 ∨ i = 8 by omega) with rfl | rfl | rfl | rfl | rfl | rfl | rfl | rfl <;> rfl) o48
            have hA51 := hM50.s (fun _ _ => rfl)
            have hF52 := fun q hq => (o48 q (by omega)).trans (hF1 q hq)
            refine lv_aload_n hx hb dX6_readsBuyer_106 rfl (lv_at hl 0 rfl) ?_
            refine z_get (T := TX6) (v := .ref (d + 9)) hE hH hM50.1 rfl uw_X6 13 (by decide) fkX6_35 rfl dX6_readsBuyer_107 ?_
            refine n_iconst hx hb 2 dX6_readsBuyer_110 (by decide) ?_
            refine lv_aload_n hx hb dX6_readsBuyer_111 rfl (lv_at hl 0 rfl) ?_
            refine z_get (T := TX6) (v := .int (nI bm)) hE hH hM50.1 rfl uw_X6 14 (by decide) fkX6_107 rfl dX6_readsBuyer_112 ?_
            refine n_imul hx hb dX6_readsBuyer_115 ?_
            refine n_iconst hx hb 1 dX6_readsBuyer_116 (by decide) ?_
            refine n_iadd hx hb dX6_readsBuyer_117 ?_
            refine lv_iload_n hx hb dX6_readsBuyer_118 rfl (lv_at hl 3 rfl) ?_
            refine z_iast hE hH hS (show zArr G 0 M49 (d + 9) 64 (fun i => if i = (2 * bm) then (nI (y * 10 + x)) else BU i) from hM50.2 9 (by decide) (by decide)) (k := (2 * bm) + 1) (by omega) (by decide) (by omega) dX6_readsBuyer_119 (fun H locs M55 hH hS e53 o54 => ?_)
            have hM56 : Md G d (sg t un (nI ln) (nI q) (zb true) (nI bm)) (xs v A U L K (fun i => nI (ps i)) SE SH (fun i => if i = ((2 * bm) + 1) then (nI u) else (fun i => if i = (2 * bm) then (nI (y * 10 + x)) else BU i) i)) M55 := Md.setJ9 hM50 e53 (fun i h1 h2 => by rcases (show i = 1 ∨ i = 2 ∨ i = 3 ∨ i = 4 ∨ i = 5 ∨ i = 6 ∨ i = 7 ∨ i = 8 by omega) with rfl | rfl | rfl | rfl | rfl | rfl | rfl | rfl <;> rfl) o54
            have hA57 := hM56.s (fun _ _ => rfl)
            have hF58 := fun q hq => (o54 q (by omega)).trans (hF52 q hq)
            refine lv_aload_n hx hb dX6_readsBuyer_120 rfl (lv_at hl 0 rfl) ?_
            refine lv_dup hx hb dX6_readsBuyer_121 rfl ?_
            refine z_get (T := TX6) (v := .int (nI bm)) hE hH hM56.1 rfl uw_X6 14 (by decide) fkX6_107 rfl dX6_readsBuyer_122 ?_
            refine lv_aload_n hx hb dX6_readsBuyer_125 rfl (lv_at hl 0 rfl) ?_
            refine z_get (T := TX6) (v := .int (zb true)) hE hH hM56.1 rfl uw_X6 12 (by decide) fkX6_143 rfl dX6_readsBuyer_126 ?_
            refine b_if_eq (tgt := 136) hx hb dX6_readsBuyer_129 (by decide) (fun h => Bool.noConfusion h) (fun _ => ?_)
            refine n_iconst hx hb 1 dX6_readsBuyer_132 (by decide) ?_
            refine lv_goto (tgt := 137) hx hb dX6_readsBuyer_133 (by decide) ?_
            refine n_iadd hx hb dX6_readsBuyer_137 ?_
            refine z_put (T := TX6) hE hH hS hM56.1 rfl uw_X6 tyX6 tyX6_ok nmX6 14 (by decide) fkX6_107 rfl rfl rfl (Nat.le_of_ble_eq_true rfl) (by omega) dX6_readsBuyer_138 (fun H locs M62 hH hS e60 o61 => ?_)
            have hM63 : Md G d (sg t un (nI ln) (nI q) (zb true) (nI (bm + 1))) (xs v A U L K (fun i => nI (ps i)) SE SH (fun i => if i = ((2 * bm) + 1) then (nI u) else (fun i => if i = (2 * bm) then (nI (y * 10 + x)) else BU i) i)) M62 := Md.setC hM56 e60 o61
            have hA64 := hM63.s (fun _ _ => rfl)
            have hF65 := fun q hq => (o61 q (by omega)).trans (hF58 q hq)
            exact z_vret hE hH hS ⟨_, true, bm + 1, _, hM63, Or.inr ⟨rfl, rfl, hq, _, _, ⟨k0, k1, k2, k3, by rw [← hxd, ← hyd], by rw [← hud, ← hpr]; exact hex, by omega, by omega⟩, fun _ => rfl⟩, hF65⟩ dX6_readsBuyer_141
          · refine lv_aload_n hx hb dX6_readsBuyer_46 rfl (lv_at hl 0 rfl) ?_
            refine z_callV (rest := []) (st2 := [.int (nI (sgn ps ln q))]) hE hH hS hB0 hl ca_X6_sign mkX6_147 (c_X6_sign l G B0 M1 d t un (nI bm) ln q true ps v A U L K SE SH BU hM1 hv (by omega) (by omega) hps (by omega)) hM1.1 rfl rfl rfl rfl rfl ⟨Nat.le_of_ble_eq_true rfl, Nat.le_of_ble_eq_true rfl⟩ (Nat.le_of_ble_eq_true rfl) ⟨Nat.le_refl _, Nat.le_refl _⟩ dX6_readsBuyer_47 (fun H locs M1 hH hp hS => ?_)
            subst hp
            have q66 := sgn_lt (a := q) hps
            refine n_bipush hx hb 48 dX6_readsBuyer_50 (by decide) ?_
            refine n_bipush hx hb 57 dX6_readsBuyer_52 (by decide) ?_
            refine z_callS (rest := []) (st2 := [.int (zb (wi (nI (sgn ps ln q)) (nI 48) (nI 57)))]) hE hH hS hB0 hl ca_X6_in mkX6_42 (c_X6_in l G B0 M1 (nI (sgn ps ln q)) (nI 48) (nI 57)) rfl rfl rfl ⟨Nat.le_of_ble_eq_true rfl, Nat.le_of_ble_eq_true rfl⟩ (Nat.le_of_ble_eq_true rfl) ⟨Nat.le_refl _, Nat.le_refl _⟩ dX6_readsBuyer_54 (fun H locs M1 hH hp hS => ?_)
            subst hp
            refine b_if_eq (tgt := 89) hx hb dX6_readsBuyer_57 (by decide) (fun h68 => ?_) (fun h68 => ?_)
            · have hex : prs ps ln (3 - k) q u = (q, u) := by first | (rw [show 3 - k = 0 by omega]; rfl) | (cases hz : 3 - k with | zero => rfl | succ n => first | (rw [prs_succ, if_pos (by omega)]) | (rw [prs_succ]; split; (· rfl); (· rw [if_neg (by rw [← wi_dk hps (by decide), h68]; decide)])))
              refine lv_aload_n hx hb dX6_readsBuyer_89 rfl (lv_at hl 0 rfl) ?_
              refine z_get (T := TX6) (v := .ref (d + 9)) hE hH hM1.1 rfl uw_X6 13 (by decide) fkX6_35 rfl dX6_readsBuyer_90 ?_
              refine n_iconst hx hb 2 dX6_readsBuyer_93 (by decide) ?_
              refine lv_aload_n hx hb dX6_readsBuyer_94 rfl (lv_at hl 0 rfl) ?_
              refine z_get (T := TX6) (v := .int (nI bm)) hE hH hM1.1 rfl uw_X6 14 (by decide) fkX6_107 rfl dX6_readsBuyer_95 ?_
              refine n_imul hx hb dX6_readsBuyer_98 ?_
              refine n_bipush hx hb 10 dX6_readsBuyer_99 (by decide) ?_
              refine lv_iload_n hx hb dX6_readsBuyer_101 rfl (lv_at hl 2 rfl) ?_
              refine n_imul hx hb dX6_readsBuyer_102 ?_
              refine lv_iload_n hx hb dX6_readsBuyer_103 rfl (lv_at hl 1 rfl) ?_
              refine n_iadd hx hb dX6_readsBuyer_104 ?_
              refine z_topeq (show nI ((10 * y) + x) = nI (y * 10 + x) from by rw [show (10 * y) + x = y * 10 + x by omega]) ?_
              refine z_iast hE hH hS (show zArr G 0 M1 (d + 9) 64 BU from hM1.2 9 (by decide) (by decide)) (k := 2 * bm) (by omega) (by decide) (by omega) dX6_readsBuyer_105 (fun H locs M71 hH hS e69 o70 => ?_)
              have hM72 : Md G d (sg t un (nI ln) (nI q) (zb true) (nI bm)) (xs v A U L K (fun i => nI (ps i)) SE SH (fun i => if i = (2 * bm) then (nI (y * 10 + x)) else BU i)) M71 := Md.setJ9 hM1 e69 (fun i h1 h2 => by rcases (show i = 1 ∨ i = 2 ∨ i = 3 ∨ i = 4 ∨ i = 5 ∨ i = 6 ∨ i = 7 ∨ i = 8 by omega) with rfl | rfl | rfl | rfl | rfl | rfl | rfl | rfl <;> rfl) o70
              have hA73 := hM72.s (fun _ _ => rfl)
              have hF74 := fun q hq => (o70 q (by omega)).trans (hF1 q hq)
              refine lv_aload_n hx hb dX6_readsBuyer_106 rfl (lv_at hl 0 rfl) ?_
              refine z_get (T := TX6) (v := .ref (d + 9)) hE hH hM72.1 rfl uw_X6 13 (by decide) fkX6_35 rfl dX6_readsBuyer_107 ?_
              refine n_iconst hx hb 2 dX6_readsBuyer_110 (by decide) ?_
              refine lv_aload_n hx hb dX6_readsBuyer_111 rfl (lv_at hl 0 rfl) ?_
              refine z_get (T := TX6) (v := .int (nI bm)) hE hH hM72.1 rfl uw_X6 14 (by decide) fkX6_107 rfl dX6_readsBuyer_112 ?_
              refine n_imul hx hb dX6_readsBuyer_115 ?_
              refine n_iconst hx hb 1 dX6_readsBuyer_116 (by decide) ?_
              refine n_iadd hx hb dX6_readsBuyer_117 ?_
              refine lv_iload_n hx hb dX6_readsBuyer_118 rfl (lv_at hl 3 rfl) ?_
              refine z_iast hE hH hS (show zArr G 0 M71 (d + 9) 64 (fun i => if i = (2 * bm) then (nI (y * 10 + x)) else BU i) from hM72.2 9 (by decide) (by decide)) (k := (2 * bm) + 1) (by omega) (by decide) (by omega) dX6_readsBuyer_119 (fun H locs M77 hH hS e75 o76 => ?_)
              have hM78 : Md G d (sg t un (nI ln) (nI q) (zb true) (nI bm)) (xs v A U L K (fun i => nI (ps i)) SE SH (fun i => if i = ((2 * bm) + 1) then (nI u) else (fun i => if i = (2 * bm) then (nI (y * 10 + x)) else BU i) i)) M77 := Md.setJ9 hM72 e75 (fun i h1 h2 => by rcases (show i = 1 ∨ i = 2 ∨ i = 3 ∨ i = 4 ∨ i = 5 ∨ i = 6 ∨ i = 7 ∨ i = 8 by omega) with rfl | rfl | rfl | rfl | rfl | rfl | rfl | rfl <;> rfl) o76
              have hA79 := hM78.s (fun _ _ => rfl)
              have hF80 := fun q hq => (o76 q (by omega)).trans (hF74 q hq)
              refine lv_aload_n hx hb dX6_readsBuyer_120 rfl (lv_at hl 0 rfl) ?_
              refine lv_dup hx hb dX6_readsBuyer_121 rfl ?_
              refine z_get (T := TX6) (v := .int (nI bm)) hE hH hM78.1 rfl uw_X6 14 (by decide) fkX6_107 rfl dX6_readsBuyer_122 ?_
              refine lv_aload_n hx hb dX6_readsBuyer_125 rfl (lv_at hl 0 rfl) ?_
              refine z_get (T := TX6) (v := .int (zb true)) hE hH hM78.1 rfl uw_X6 12 (by decide) fkX6_143 rfl dX6_readsBuyer_126 ?_
              refine b_if_eq (tgt := 136) hx hb dX6_readsBuyer_129 (by decide) (fun h => Bool.noConfusion h) (fun _ => ?_)
              refine n_iconst hx hb 1 dX6_readsBuyer_132 (by decide) ?_
              refine lv_goto (tgt := 137) hx hb dX6_readsBuyer_133 (by decide) ?_
              refine n_iadd hx hb dX6_readsBuyer_137 ?_
              refine z_put (T := TX6) hE hH hS hM78.1 rfl uw_X6 tyX6 tyX6_ok nmX6 14 (by decide) fkX6_107 rfl rfl rfl (Nat.le_of_ble_eq_true rfl) (by omega) dX6_readsBuyer_138 (fun H locs M84 hH hS e82 o83 => ?_)
              have hM85 : Md G d (sg t un (nI ln) (nI q) (zb true) (nI (bm + 1))) (xs v A U L K (fun i => nI (ps i)) SE SH (fun i => if i = ((2 * bm) + 1) then (nI u) else (fun i => if i = (2 * bm) then (nI (y * 10 + x)) else BU i) i)) M84 := Md.setC hM78 e82 o83
              have hA86 := hM85.s (fun _ _ => rfl)
              have hF87 := fun q hq => (o83 q (by omega)).trans (hF80 q hq)
              exact z_vret hE hH hS ⟨_, true, bm + 1, _, hM85, Or.inr ⟨rfl, rfl, hq, _, _, ⟨k0, k1, k2, k3, by rw [← hxd, ← hyd], by rw [← hud, ← hpr]; exact hex, by omega, by omega⟩, fun _ => rfl⟩, hF87⟩ dX6_readsBuyer_141
            · have hdk := dk_in (show dk ps ln 9 q = true by rw [← wi_dk hps (by decide)]; exact h68)
              refine n_bipush hx hb 10 dX6_readsBuyer_60 (by decide) ?_
              refine lv_iload_n hx hb dX6_readsBuyer_62 rfl (lv_at hl 3 rfl) ?_
              refine n_imul hx hb dX6_readsBuyer_63 ?_
              refine lv_aload_n hx hb dX6_readsBuyer_64 rfl (lv_at hl 0 rfl) ?_
              refine z_callV (rest := [.int (nI (10 * u))]) (st2 := [.int (nI (sgn ps ln q)), .int (nI (10 * u))]) hE hH hS hB0 hl ca_X6_sign mkX6_147 (c_X6_sign l G B0 M1 d t un (nI bm) ln q true ps v A U L K SE SH BU hM1 hv (by omega) (by omega) hps (by omega)) hM1.1 rfl rfl rfl rfl rfl ⟨Nat.le_of_ble_eq_true rfl, Nat.le_of_ble_eq_true rfl⟩ (Nat.le_of_ble_eq_true rfl) ⟨Nat.le_refl _, Nat.le_refl _⟩ dX6_readsBuyer_65 (fun H locs M1 hH hp hS => ?_)
              subst hp
              have q88 := sgn_lt (a := q) hps
              refine n_iadd hx hb dX6_readsBuyer_68 ?_
              refine n_bipush hx hb 48 dX6_readsBuyer_69 (by decide) ?_
              refine n_isub hx hb (by omega) dX6_readsBuyer_71 ?_
              refine lv_istore_n (lv' := [(3, .int (nI (((10 * u) + (sgn ps ln q)) - 48))), (0, .ref d), (1, .int (nI x)), (2, .int (nI y)), (4, .int (nI k))]) hx hb dX6_readsBuyer_72 rfl hl (by decide) rfl (fun ls hl => ?_)
              refine lv_aload_n hx hb dX6_readsBuyer_73 rfl (lv_at hl 1 rfl) ?_
              refine lv_dup hx hb dX6_readsBuyer_74 rfl ?_
              refine z_get (T := TX6) (v := .int (nI q)) hE hH hM1.1 rfl uw_X6 11 (by decide) fkX6_140 rfl dX6_readsBuyer_75 ?_
              refine n_iconst hx hb 1 dX6_readsBuyer_78 (by decide) ?_
              refine n_iadd hx hb dX6_readsBuyer_79 ?_
              refine z_put (T := TX6) hE hH hS hM1.1 rfl uw_X6 tyX6 tyX6_ok nmX6 11 (by decide) fkX6_140 rfl rfl rfl (Nat.le_of_ble_eq_true rfl) (by omega) dX6_readsBuyer_80 (fun H locs M91 hH hS e89 o90 => ?_)
              have hM92 : Md G d (sg t un (nI ln) (nI (q + 1)) (zb true) (nI bm)) (xs v A U L K (fun i => nI (ps i)) SE SH BU) M91 := Md.setC hM1 e89 o90
              have hA93 := hM92.s (fun _ _ => rfl)
              have hF94 := fun q hq => (o90 q (by omega)).trans (hF1 q hq)
              refine lv_iinc (v := (nI (k + 1))) (lv' := [(4, .int (nI (k + 1))), (3, .int (nI (((10 * u) + (sgn ps ln q)) - 48))), (0, .ref d), (1, .int (nI x)), (2, .int (nI y))]) hx hb dX6_readsBuyer_83 hl (k := 4) rfl (nI_inc _) (by decide) rfl (fun ls hl => ?_)
              refine lv_goto (tgt := 29) hx hb dX6_readsBuyer_86 (by decide) ?_
              exact ih  (k + 1) (((10 * u) + (sgn ps ln q)) - 48) (q + 1) M91 (by omega) (by omega) (by omega) hM92 hF94 (by omega) (by rw [← hpr, show 3 - k = (3 - (k + 1)) + 1 by omega, prs_succ, if_neg (by omega), if_pos (by rw [← wi_dk hps (by decide)]; exact h68)]; exact congrArg (prs ps ln (3 - (k + 1)) (q + 1)) (by omega)) (by omega) _ _ hH hS _ (lv_sub hl [2, 3, 4, 1, 0] rfl)
    exact L29 4 1 u0 a19 M20 (by omega) (by omega) (by omega) hMt hF23 (by omega) (by rw [g4]) (by omega) _ _ hH hS _ (lv_sub hl [4, 3, 2, 1, 0] rfl)
  · have hMt : Md G d (sg t un (nI ln) (nI a19) (zb false) (nI bm)) (xs v A U L K (fun i => nI (ps i)) SE SH BU) M20 := by rw [← hw]; exact hM21
    have hAt := hMt.s (v := v) (fun _ _ => rfl)
    refine lv_iload hx hb dX6_readsBuyer_29 (lv_at hl 0 rfl) ?_
    refine n_iconst hx hb 3 dX6_readsBuyer_31 (by decide) ?_
    refine n_cmp_ge (tgt := 89) hx hb (by decide) (by decide) dX6_readsBuyer_32 (by decide) (fun h => absurd h (by decide)) (fun _ => ?_)
    refine lv_aload_n hx hb dX6_readsBuyer_35 rfl (lv_at hl 4 rfl) ?_
    refine z_get (T := TX6) (v := .int (zb false)) hE hH hMt.1 rfl uw_X6 12 (by decide) fkX6_143 rfl dX6_readsBuyer_36 ?_
    refine b_if_eq (tgt := 89) hx hb dX6_readsBuyer_39 (by decide) (fun _ => ?_) (fun h => Bool.noConfusion h)
    refine lv_aload_n hx hb dX6_readsBuyer_89 rfl (lv_at hl 4 rfl) ?_
    refine z_get (T := TX6) (v := .ref (d + 9)) hE hH hMt.1 rfl uw_X6 13 (by decide) fkX6_35 rfl dX6_readsBuyer_90 ?_
    refine n_iconst hx hb 2 dX6_readsBuyer_93 (by decide) ?_
    refine lv_aload_n hx hb dX6_readsBuyer_94 rfl (lv_at hl 4 rfl) ?_
    refine z_get (T := TX6) (v := .int (nI bm)) hE hH hMt.1 rfl uw_X6 14 (by decide) fkX6_107 rfl dX6_readsBuyer_95 ?_
    refine n_imul hx hb dX6_readsBuyer_98 ?_
    refine n_bipush hx hb 10 dX6_readsBuyer_99 (by decide) ?_
    refine lv_iload_n hx hb dX6_readsBuyer_101 rfl (lv_at hl 2 rfl) ?_
    refine lv_imul hx hb dX6_readsBuyer_102 ?_
    refine lv_iload_n hx hb dX6_readsBuyer_103 rfl (lv_at hl 3 rfl) ?_
    refine lv_iadd hx hb dX6_readsBuyer_104 ?_
    refine z_iast hE hH hS (show zArr G 0 M20 (d + 9) 64 BU from hMt.2 9 (by decide) (by decide)) (k := 2 * bm) (by omega) (by decide) (by omega) dX6_readsBuyer_105 (fun H locs M98 hH hS e96 o97 => ?_)
    have hM99 : Md G d (sg t un (nI ln) (nI a19) (zb false) (nI bm)) (xs v A U L K (fun i => nI (ps i)) SE SH (fun i => if i = (2 * bm) then (((nI 10) * (nI (sgn ps ln a1) - nI 48)) + (nI (sgn ps ln a) - nI 48)) else BU i)) M98 := Md.setJ9 hMt e96 (fun i h1 h2 => by rcases (show i = 1 ∨ i = 2 ∨ i = 3 ∨ i = 4 ∨ i = 5 ∨ i = 6 ∨ i = 7 ∨ i = 8 by omega) with rfl | rfl | rfl | rfl | rfl | rfl | rfl | rfl <;> rfl) o97
    have hA100 := hM99.s (fun _ _ => rfl)
    have hF101 := fun q hq => (o97 q (by omega)).trans (hF23 q hq)
    refine lv_aload_n hx hb dX6_readsBuyer_106 rfl (lv_at hl 4 rfl) ?_
    refine z_get (T := TX6) (v := .ref (d + 9)) hE hH hM99.1 rfl uw_X6 13 (by decide) fkX6_35 rfl dX6_readsBuyer_107 ?_
    refine n_iconst hx hb 2 dX6_readsBuyer_110 (by decide) ?_
    refine lv_aload_n hx hb dX6_readsBuyer_111 rfl (lv_at hl 4 rfl) ?_
    refine z_get (T := TX6) (v := .int (nI bm)) hE hH hM99.1 rfl uw_X6 14 (by decide) fkX6_107 rfl dX6_readsBuyer_112 ?_
    refine n_imul hx hb dX6_readsBuyer_115 ?_
    refine n_iconst hx hb 1 dX6_readsBuyer_116 (by decide) ?_
    refine n_iadd hx hb dX6_readsBuyer_117 ?_
    refine lv_iload_n hx hb dX6_readsBuyer_118 rfl (lv_at hl 1 rfl) ?_
    refine z_iast hE hH hS (show zArr G 0 M98 (d + 9) 64 (fun i => if i = (2 * bm) then (((nI 10) * (nI (sgn ps ln a1) - nI 48)) + (nI (sgn ps ln a) - nI 48)) else BU i) from hM99.2 9 (by decide) (by decide)) (k := (2 * bm) + 1) (by omega) (by decide) (by omega) dX6_readsBuyer_119 (fun H locs M104 hH hS e102 o103 => ?_)
    have hM105 : Md G d (sg t un (nI ln) (nI a19) (zb false) (nI bm)) (xs v A U L K (fun i => nI (ps i)) SE SH (fun i => if i = ((2 * bm) + 1) then (nI (sgn ps ln a13) - nI 48) else (fun i => if i = (2 * bm) then (((nI 10) * (nI (sgn ps ln a1) - nI 48)) + (nI (sgn ps ln a) - nI 48)) else BU i) i)) M104 := Md.setJ9 hM99 e102 (fun i h1 h2 => by rcases (show i = 1 ∨ i = 2 ∨ i = 3 ∨ i = 4 ∨ i = 5 ∨ i = 6 ∨ i = 7 ∨ i = 8 by omega) with rfl | rfl | rfl | rfl | rfl | rfl | rfl | rfl <;> rfl) o103
    have hA106 := hM105.s (fun _ _ => rfl)
    have hF107 := fun q hq => (o103 q (by omega)).trans (hF101 q hq)
    refine lv_aload_n hx hb dX6_readsBuyer_120 rfl (lv_at hl 4 rfl) ?_
    refine lv_dup hx hb dX6_readsBuyer_121 rfl ?_
    refine z_get (T := TX6) (v := .int (nI bm)) hE hH hM105.1 rfl uw_X6 14 (by decide) fkX6_107 rfl dX6_readsBuyer_122 ?_
    refine lv_aload_n hx hb dX6_readsBuyer_125 rfl (lv_at hl 4 rfl) ?_
    refine z_get (T := TX6) (v := .int (zb false)) hE hH hM105.1 rfl uw_X6 12 (by decide) fkX6_143 rfl dX6_readsBuyer_126 ?_
    refine b_if_eq (tgt := 136) hx hb dX6_readsBuyer_129 (by decide) (fun _ => ?_) (fun h => Bool.noConfusion h)
    refine n_iconst hx hb 0 dX6_readsBuyer_136 (by decide) ?_
    refine n_iadd hx hb dX6_readsBuyer_137 ?_
    refine z_put (T := TX6) hE hH hS hM105.1 rfl uw_X6 tyX6 tyX6_ok nmX6 14 (by decide) fkX6_107 rfl rfl rfl (Nat.le_of_ble_eq_true rfl) (by omega) dX6_readsBuyer_138 (fun H locs M111 hH hS e109 o110 => ?_)
    have hM112 : Md G d (sg t un (nI ln) (nI a19) (zb false) (nI (bm + 0))) (xs v A U L K (fun i => nI (ps i)) SE SH (fun i => if i = ((2 * bm) + 1) then (nI (sgn ps ln a13) - nI 48) else (fun i => if i = (2 * bm) then (((nI 10) * (nI (sgn ps ln a1) - nI 48)) + (nI (sgn ps ln a) - nI 48)) else BU i) i)) M111 := Md.setC hM105 e109 o110
    have hA113 := hM112.s (fun _ _ => rfl)
    have hF114 := fun q hq => (o110 q (by omega)).trans (hF107 q hq)
    exact z_vret hE hH hS ⟨_, false, bm, _, hM112, Or.inl ⟨rfl, rfl, hF4⟩, hF114⟩ dX6_readsBuyer_141
