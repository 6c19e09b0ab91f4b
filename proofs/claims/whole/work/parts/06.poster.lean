
def fset (f : Nat → Nat) (k x : Nat) : Nat → Nat := fun i => if i = k then x else f i
theorem fset_self (f : Nat → Nat) (k x : Nat) : fset f k x k = x := by simp [fset]
theorem fset_ne (f : Nat → Nat) {k i : Nat} (x : Nat) (h : i ≠ k) : fset f k x i = f i := by simp [fset, h]
abbrev vset (v : Wv) (i x : Nat) : Wv := fset v i x
theorem Pst.setF {G : zG} {a k x : Nat} {f g : Nat → Nat} {M M1 : Mm} (h : Pst G a f g M) (hk : k < 7) (e : M1 a = some (.inr (3, ([.int (nI (f 0)), .int (nI (f 1)), .int (nI (f 2)), .int (nI (f 3)), .int (nI (f 4)), .int (nI (f 5)), .int (nI (f 6)), .ref (a + 1)] : List Value).set k (.int (nI x))))) (o : ∀ q : Nat, q ≠ a → M1 q = M q) : Pst G a (fset f k x) g M1 := by
  refine ⟨?_, h.2.kept (o _ (by omega))⟩
  rw [e]
  rcases (show k = 0 ∨ k = 1 ∨ k = 2 ∨ k = 3 ∨ k = 4 ∨ k = 5 ∨ k = 6 by omega) with rfl | rfl | rfl | rfl | rfl | rfl | rfl <;> rfl
theorem Pst.setC {G : zG} {a c x : Nat} {f g : Nat → Nat} {M M1 : Mm} (h : Pst G a f g M) (e : zArr G 0 M1 (a + 1) 60 (fun i => if i = c then nI x else nI (g i))) (o : ∀ q : Nat, q ≠ a + 1 → M1 q = M q) : Pst G a f (fset g c x) M1 := by
  refine ⟨by rw [o a (by omega)]; exact h.1, e.to fun i _ => ?_⟩
  unfold fset
  by_cases hi : i = c <;> simp [hi]
theorem Pst.to {G : zG} {a : Nat} {f g f' g' : Nat → Nat} {M : Mm} (h : Pst G a f g M) (hf : ∀ k, k < 7 → f k = f' k) (hg : ∀ c, c < 60 → g c = g' c) : Pst G a f' g' M := by
  refine ⟨?_, h.2.to fun i hi => congrArg nI (hg i hi)⟩
  rw [h.1, hf 0 (by decide), hf 1 (by decide), hf 2 (by decide), hf 3 (by decide), hf 4 (by decide), hf 5 (by decide), hf 6 (by decide)]
def ncCnt (g : Nat → Nat) : Nat := zcnt (fun c => decide (0 < g c)) 60
theorem ncCnt_le (g : Nat → Nat) : ncCnt g ≤ 60 := zcnt_le _ _

set_option maxHeartbeats 4000000 in
set_option maxRecDepth 100000 in
theorem c_X3_liesAt (l : Launch) (G : zG) (B0 : Nat) (M : Mm) (a : Nat) (f g : Nat → Nat) (hP : Pst G a f g M) (hf0 : f 0 + f 2 ≤ 10) (hf1 : f 1 + f 3 ≤ 6) (x y : Nat) (hx9 : x < 10) (hy9 : y < 6) : zMet l yX3_liesAt cX3_liesAt 3 (some .boolean) 1 0 0 G B0 M [.ref a, .int (nI x), .int (nI y)] (some (.int (zb (liesN f x y)))) (fun M1 => M = M1) := by
  refine z_met RX3 [(0, .ref a), (1, .int (nI x)), (2, .int (nI y))] (by decide) rfl (Nat.le_of_ble_eq_true rfl) rfl ?_
  intro pg ev s m below meth cd ls hE hin hB0 hH hl
  have hx := hE.1
  have hb := hE.2.1
  refine z_gen B0 (fun H locs hH hS => ?_) hH
  refine lv_iload_n hx hb dX3_liesAt_0 rfl (lv_at hl 1 rfl) ?_
  refine lv_aload_n hx hb dX3_liesAt_1 rfl (lv_at hl 0 rfl) ?_
  refine z_get (T := TX3) (v := .int (nI (f 0))) hE hH hP.1 rfl uw_X3 0 (by decide) fkX3_15 rfl dX3_liesAt_2 ?_
  refine n_cmp_lt (tgt := 46) hx hb (by omega) (by omega) dX3_liesAt_5 (by decide) (fun h1 => ?_) (fun h1 => ?_)
  · refine n_iconst hx hb 0 dX3_liesAt_46 (by decide) ?_
    exact z_zret hE hH hS (by rw [show liesN f x y = false from by simp [liesN]; omega]; rfl) rfl dX3_liesAt_47
  · refine lv_iload_n hx hb dX3_liesAt_8 rfl (lv_at hl 1 rfl) ?_
    refine lv_aload_n hx hb dX3_liesAt_9 rfl (lv_at hl 0 rfl) ?_
    refine z_get (T := TX3) (v := .int (nI (f 0))) hE hH hP.1 rfl uw_X3 0 (by decide) fkX3_15 rfl dX3_liesAt_10 ?_
    refine lv_aload_n hx hb dX3_liesAt_13 rfl (lv_at hl 0 rfl) ?_
    refine z_get (T := TX3) (v := .int (nI (f 2))) hE hH hP.1 rfl uw_X3 2 (by decide) fkX3_22 rfl dX3_liesAt_14 ?_
    refine n_iadd hx hb dX3_liesAt_17 ?_
    refine n_cmp_ge (tgt := 46) hx hb (by omega) (by omega) dX3_liesAt_18 (by decide) (fun h2 => ?_) (fun h2 => ?_)
    · refine n_iconst hx hb 0 dX3_liesAt_46 (by decide) ?_
      exact z_zret hE hH hS (by rw [show liesN f x y = false from by simp [liesN]; omega]; rfl) rfl dX3_liesAt_47
    · refine lv_iload_n hx hb dX3_liesAt_21 rfl (lv_at hl 2 rfl) ?_
      refine lv_aload_n hx hb dX3_liesAt_22 rfl (lv_at hl 0 rfl) ?_
      refine z_get (T := TX3) (v := .int (nI (f 1))) hE hH hP.1 rfl uw_X3 1 (by decide) fkX3_19 rfl dX3_liesAt_23 ?_
      refine n_cmp_lt (tgt := 46) hx hb (by omega) (by omega) dX3_liesAt_26 (by decide) (fun h3 => ?_) (fun h3 => ?_)
      · refine n_iconst hx hb 0 dX3_liesAt_46 (by decide) ?_
        exact z_zret hE hH hS (by rw [show liesN f x y = false from by simp [liesN]; omega]; rfl) rfl dX3_liesAt_47
      · refine lv_iload_n hx hb dX3_liesAt_29 rfl (lv_at hl 2 rfl) ?_
        refine lv_aload_n hx hb dX3_liesAt_30 rfl (lv_at hl 0 rfl) ?_
        refine z_get (T := TX3) (v := .int (nI (f 1))) hE hH hP.1 rfl uw_X3 1 (by decide) fkX3_19 rfl dX3_liesAt_31 ?_
        refine lv_aload_n hx hb dX3_liesAt_34 rfl (lv_at hl 0 rfl) ?_
        refine z_get (T := TX3) (v := .int (nI (f 3))) hE hH hP.1 rfl uw_X3 3 (by decide) fkX3_25 rfl dX3_liesAt_35 ?_
        refine n_iadd hx hb dX3_liesAt_38 ?_
        refine n_cmp_ge (tgt := 46) hx hb (by omega) (by omega) dX3_liesAt_39 (by decide) (fun h4 => ?_) (fun h4 => ?_)
        · refine n_iconst hx hb 0 dX3_liesAt_46 (by decide) ?_
          exact z_zret hE hH hS (by rw [show liesN f x y = false from by simp [liesN]; omega]; rfl) rfl dX3_liesAt_47
        · refine n_iconst hx hb 1 dX3_liesAt_42 (by decide) ?_
          refine lv_goto (tgt := 47) hx hb dX3_liesAt_43 (by decide) ?_
          exact z_zret hE hH hS (by rw [show liesN f x y = true from by simp [liesN]; omega]; rfl) rfl dX3_liesAt_47

set_option maxHeartbeats 4000000 in
set_option maxRecDepth 100000 in
theorem c_X3_notClearCells (l : Launch) (G : zG) (B0 : Nat) (M : Mm) (a : Nat) (f g : Nat → Nat) (hP : Pst G a f g M) (hg : ∀ c, c < 60 → g c ≤ 99) : zMet l yX3_notClearCells cX3_notClearCells 3 (some .int) 1 0 0 G B0 M [.ref a] (some (.int (nI (ncCnt g)))) (fun M1 => M = M1) := by
  refine z_met RX3 [(0, .ref a)] (by decide) rfl (Nat.le_of_ble_eq_true rfl) rfl ?_
  intro pg ev s m below meth cd ls hE hin hB0 hH hl
  have hx := hE.1
  have hb := hE.2.1
  refine z_gen B0 (fun H locs hH hS => ?_) hH
  refine n_iconst hx hb 0 dX3_notClearCells_0 (by decide) ?_
  refine lv_istore_n (lv' := [(1, .int (nI 0)), (0, .ref a)]) hx hb dX3_notClearCells_1 rfl hl (by decide) rfl (fun ls hl => ?_)
  refine n_iconst hx hb 0 dX3_notClearCells_2 (by decide) ?_
  refine lv_istore_n (lv' := [(2, .int (nI 0)), (1, .int (nI 0)), (0, .ref a)]) hx hb dX3_notClearCells_3 rfl hl (by decide) rfl (fun ls hl => ?_)
  have L4 : ∀ (dd : Nat) (k : Nat) (b : Nat), 60 < k + dd → (k ≤ 60) → (b = zcnt (fun c => decide (0 < g c)) k) → ∀ (H : Heap) (locs : List Loc), zH G M H → zS 0 B0 s.heap H locs → ∀ (ls : Array Slot), lv_has ls 3 [(0, .ref a), (1, .int (nI b)), (2, .int (nI k))] → zW pg l ev 1 0 0 s m [.ref a] below meth cd H locs 0 0 G B0 (some (.int (nI (ncCnt g)))) (fun M1 => M = M1) (F0 m 4 ls []) := by
    intro dd
    induction dd with
    | zero =>
      intro k b hdd hk ha
      exact absurd hdd (by omega)
    | succ dd ih =>
      intro k b hdd hk ha H locs hH hS ls hl
      refine lv_iload_n hx hb dX3_notClearCells_4 rfl (lv_at hl 2 rfl) ?_
      refine n_bipush hx hb 60 dX3_notClearCells_5 (by decide) ?_
      refine n_cmp_ge (tgt := 28) hx hb (by omega) (by decide) dX3_notClearCells_7 (by decide) (fun h1 => ?_) (fun h1 => ?_)
      · refine lv_iload_n hx hb dX3_notClearCells_28 rfl (lv_at hl 1 rfl) ?_
        exact z_iret hE hH hS (by have hkk : k = 60 := (by omega); subst hkk; rw [ha]; first | done | rfl) rfl dX3_notClearCells_29
      · refine lv_aload_n hx hb dX3_notClearCells_10 rfl (lv_at hl 0 rfl) ?_
        refine z_get (T := TX3) (v := .ref (a + 1)) hE hH hP.1 rfl uw_X3 7 (by decide) fkX3_9 rfl dX3_notClearCells_11 ?_
        refine lv_iload_n hx hb dX3_notClearCells_14 rfl (lv_at hl 2 rfl) ?_
        refine z_iald hE hH hP.2 (k := k) (by omega) (by decide) dX3_notClearCells_15 ?_
        have q2 := hg k (by omega)
        refine n_if_le (tgt := 22) hx hb (by omega) dX3_notClearCells_16 (by decide) (fun h3 => ?_) (fun h3 => ?_)
        · refine lv_iinc (v := (nI (k + 1))) (lv' := [(2, .int (nI (k + 1))), (0, .ref a), (1, .int (nI b))]) hx hb dX3_notClearCells_22 hl (k := 2) rfl (nI_inc _) (by decide) rfl (fun ls hl => ?_)
          refine lv_goto (tgt := 4) hx hb dX3_notClearCells_25 (by decide) ?_
          exact ih  (k + 1) b (by omega) (by omega) (by unfold zcnt; rw [← ha]; simp [*]) _ _ hH hS _ (lv_sub hl [1, 2, 0] rfl)
        · refine lv_iinc (v := (nI (b + 1))) (lv' := [(1, .int (nI (b + 1))), (0, .ref a), (2, .int (nI k))]) hx hb dX3_notClearCells_19 hl (k := 1) rfl (nI_inc _) (by decide) rfl (fun ls hl => ?_)
          refine lv_iinc (v := (nI (k + 1))) (lv' := [(2, .int (nI (k + 1))), (1, .int (nI (b + 1))), (0, .ref a)]) hx hb dX3_notClearCells_22 hl (k := 2) rfl (nI_inc _) (by decide) rfl (fun ls hl => ?_)
          refine lv_goto (tgt := 4) hx hb dX3_notClearCells_25 (by decide) ?_
          exact ih  (k + 1) (b + 1) (by omega) (by omega) (by unfold zcnt; rw [← ha]; simp [*]) _ _ hH hS _ (lv_sub hl [2, 1, 0] rfl)
  exact L4 61 0 0 (by omega) (by omega) rfl _ _ hH hS _ (lv_sub hl [2, 1, 0] rfl)

set_option maxHeartbeats 4000000 in
set_option maxRecDepth 100000 in
theorem c_X3_clearCells (l : Launch) (G : zG) (B0 : Nat) (M : Mm) (a : Nat) (f g : Nat → Nat) (hP : Pst G a f g M) (hg : ∀ c, c < 60 → g c ≤ 99) : zMet l yX3_clearCells cX3_clearCells 1 (some .int) 2 0 0 G B0 M [.ref a] (some (.int (nI (f 2 * f 3) - nI (ncCnt g)))) (fun M1 => M = M1) := by
  refine z_met RX3 [(0, .ref a)] (by decide) rfl (Nat.le_of_ble_eq_true rfl) rfl ?_
  intro pg ev s m below meth cd ls hE hin hB0 hH hl
  have hx := hE.1
  have hb := hE.2.1
  refine z_gen B0 (fun H locs hH hS => ?_) hH
  refine lv_aload_n hx hb dX3_clearCells_0 rfl (lv_at hl 0 rfl) ?_
  refine z_get (T := TX3) (v := .int (nI (f 2))) hE hH hP.1 rfl uw_X3 2 (by decide) fkX3_22 rfl dX3_clearCells_1 ?_
  refine lv_aload_n hx hb dX3_clearCells_4 rfl (lv_at hl 0 rfl) ?_
  refine z_get (T := TX3) (v := .int (nI (f 3))) hE hH hP.1 rfl uw_X3 3 (by decide) fkX3_25 rfl dX3_clearCells_5 ?_
  refine n_imul hx hb dX3_clearCells_8 ?_
  refine lv_aload_n hx hb dX3_clearCells_9 rfl (lv_at hl 0 rfl) ?_
  refine z_callV (rest := [.int (nI ((f 2) * (f 3)))]) (st2 := [.int (nI (ncCnt g)), .int (nI ((f 2) * (f 3)))]) hE hH hS hB0 hl ca_X3_notClearCells mkX3_51 (c_X3_notClearCells l G B0 M a f g hP hg) hP.1 rfl rfl rfl rfl rfl ⟨Nat.le_of_ble_eq_true rfl, Nat.le_of_ble_eq_true rfl⟩ (Nat.le_of_ble_eq_true rfl) ⟨Nat.le_refl _, Nat.le_refl _⟩ dX3_clearCells_10 (fun H locs M1 hH hp hS => ?_)
  subst hp
  have q1 := ncCnt_le g
  refine lv_isub hx hb dX3_clearCells_13 ?_
  exact z_iret hE hH hS rfl rfl dX3_clearCells_14

set_option maxHeartbeats 4000000 in
set_option maxRecDepth 100000 in
theorem c_X3_allVarnish (l : Launch) (G : zG) (B0 : Nat) (M : Mm) (a : Nat) (f g : Nat → Nat) (hP : Pst G a f g M) (hg : ∀ c, c < 60 → g c ≤ 99) : zMet l yX3_allVarnish cX3_allVarnish 3 (some .int) 1 0 0 G B0 M [.ref a] (some (.int (nI (zsum g 60)))) (fun M1 => M = M1) := by
  refine z_met RX3 [(0, .ref a)] (by decide) rfl (Nat.le_of_ble_eq_true rfl) rfl ?_
  intro pg ev s m below meth cd ls hE hin hB0 hH hl
  have hx := hE.1
  have hb := hE.2.1
  refine z_gen B0 (fun H locs hH hS => ?_) hH
  refine n_iconst hx hb 0 dX3_allVarnish_0 (by decide) ?_
  refine lv_istore_n (lv' := [(1, .int (nI 0)), (0, .ref a)]) hx hb dX3_allVarnish_1 rfl hl (by decide) rfl (fun ls hl => ?_)
  refine n_iconst hx hb 0 dX3_allVarnish_2 (by decide) ?_
  refine lv_istore_n (lv' := [(2, .int (nI 0)), (1, .int (nI 0)), (0, .ref a)]) hx hb dX3_allVarnish_3 rfl hl (by decide) rfl (fun ls hl => ?_)
  have L4 : ∀ (dd : Nat) (k : Nat) (b : Nat), 60 < k + dd → (k ≤ 60) → (b = zsum g k) → ∀ (H : Heap) (locs : List Loc), zH G M H → zS 0 B0 s.heap H locs → ∀ (ls : Array Slot), lv_has ls 3 [(0, .ref a), (1, .int (nI b)), (2, .int (nI k))] → zW pg l ev 1 0 0 s m [.ref a] below meth cd H locs 0 0 G B0 (some (.int (nI (zsum g 60)))) (fun M1 => M = M1) (F0 m 4 ls []) := by
    intro dd
    induction dd with
    | zero =>
      intro k b hdd hk ha
      exact absurd hdd (by omega)
    | succ dd ih =>
      intro k b hdd hk ha H locs hH hS ls hl
      refine lv_iload_n hx hb dX3_allVarnish_4 rfl (lv_at hl 2 rfl) ?_
      refine n_bipush hx hb 60 dX3_allVarnish_5 (by decide) ?_
      refine n_cmp_ge (tgt := 25) hx hb (by omega) (by decide) dX3_allVarnish_7 (by decide) (fun h1 => ?_) (fun h1 => ?_)
      · refine lv_iload_n hx hb dX3_allVarnish_25 rfl (lv_at hl 1 rfl) ?_
        exact z_iret hE hH hS (by have hkk : k = 60 := (by omega); subst hkk; rw [ha]; first | done | rfl) rfl dX3_allVarnish_26
      · refine lv_iload_n hx hb dX3_allVarnish_10 rfl (lv_at hl 1 rfl) ?_
        refine lv_aload_n hx hb dX3_allVarnish_11 rfl (lv_at hl 0 rfl) ?_
        refine z_get (T := TX3) (v := .ref (a + 1)) hE hH hP.1 rfl uw_X3 7 (by decide) fkX3_9 rfl dX3_allVarnish_12 ?_
        refine lv_iload_n hx hb dX3_allVarnish_15 rfl (lv_at hl 2 rfl) ?_
        refine z_iald hE hH hP.2 (k := k) (by omega) (by decide) dX3_allVarnish_16 ?_
        have q2 := hg k (by omega)
        refine n_iadd hx hb dX3_allVarnish_17 ?_
        refine lv_istore_n (lv' := [(1, .int (nI (b + (g k)))), (0, .ref a), (2, .int (nI k))]) hx hb dX3_allVarnish_18 rfl hl (by decide) rfl (fun ls hl => ?_)
        refine lv_iinc (v := (nI (k + 1))) (lv' := [(2, .int (nI (k + 1))), (1, .int (nI (b + (g k)))), (0, .ref a)]) hx hb dX3_allVarnish_19 hl (k := 2) rfl (nI_inc _) (by decide) rfl (fun ls hl => ?_)
        refine lv_goto (tgt := 4) hx hb dX3_allVarnish_22 (by decide) ?_
        exact ih  (k + 1) (b + (g k)) (by omega) (by omega) (by unfold zsum; rw [← ha]) _ _ hH hS _ (lv_sub hl [2, 1, 0] rfl)
  exact L4 61 0 0 (by omega) (by omega) rfl _ _ hH hS _ (lv_sub hl [2, 1, 0] rfl)

set_option maxHeartbeats 4000000 in
set_option maxRecDepth 100000 in
theorem c_X3_cover (l : Launch) (G : zG) (B0 : Nat) (M : Mm) (a : Nat) (f g : Nat → Nat) (hP : Pst G a f g M) (hBa : B0 ≤ a) (x y wd ht : Nat) : zMet l yX3_cover cX3_cover 5 none 1 0 0 G B0 M [.ref a, .int (nI x), .int (nI y), .int (nI wd), .int (nI ht)] none (fun M1 => Pst G a (fset (fset (fset (fset f 0 x) 1 y) 2 wd) 3 ht) (g) M1 ∧ ∀ q, q ≠ a → q ≠ a + 1 → M1 q = M q) := by
  refine z_met RX3 [(0, .ref a), (1, .int (nI x)), (2, .int (nI y)), (3, .int (nI wd)), (4, .int (nI ht))] (by decide) rfl (Nat.le_of_ble_eq_true rfl) rfl ?_
  intro pg ev s m below meth cd ls hE hin hB0 hH hl
  have hx := hE.1
  have hb := hE.2.1
  have hF : ∀ q, q ≠ a ∧ q ≠ a + 1 → M q = M q := fun _ _ => rfl
  refine z_gen B0 (fun H locs hH hS => ?_) hH
  refine lv_aload_n hx hb dX3_cover_0 rfl (lv_at hl 0 rfl) ?_
  refine lv_iload_n hx hb dX3_cover_1 rfl (lv_at hl 1 rfl) ?_
  refine z_put (T := TX3) hE hH hS hP.1 rfl uw_X3 tyX3 tyX3_ok nmX3 0 (by decide) fkX3_15 rfl rfl rfl (Nat.le_of_ble_eq_true rfl) (by omega) dX3_cover_2 (fun H locs M3 hH hS e1 o2 => ?_)
  have hP4 := Pst.setF (k := 0) hP (by decide) e1 o2
  have hF5 := fun q hq => (o2 q (by omega)).trans (hF q hq)
  refine lv_aload_n hx hb dX3_cover_5 rfl (lv_at hl 0 rfl) ?_
  refine lv_iload_n hx hb dX3_cover_6 rfl (lv_at hl 2 rfl) ?_
  refine z_put (T := TX3) hE hH hS hP4.1 rfl uw_X3 tyX3 tyX3_ok nmX3 1 (by decide) fkX3_19 rfl rfl rfl (Nat.le_of_ble_eq_true rfl) (by omega) dX3_cover_7 (fun H locs M8 hH hS e6 o7 => ?_)
  have hP9 := Pst.setF (k := 1) hP4 (by decide) e6 o7
  have hF10 := fun q hq => (o7 q (by omega)).trans (hF5 q hq)
  refine lv_aload_n hx hb dX3_cover_10 rfl (lv_at hl 0 rfl) ?_
  refine lv_iload_n hx hb dX3_cover_11 rfl (lv_at hl 3 rfl) ?_
  refine z_put (T := TX3) hE hH hS hP9.1 rfl uw_X3 tyX3 tyX3_ok nmX3 2 (by decide) fkX3_22 rfl rfl rfl (Nat.le_of_ble_eq_true rfl) (by omega) dX3_cover_12 (fun H locs M13 hH hS e11 o12 => ?_)
  have hP14 := Pst.setF (k := 2) hP9 (by decide) e11 o12
  have hF15 := fun q hq => (o12 q (by omega)).trans (hF10 q hq)
  refine lv_aload_n hx hb dX3_cover_15 rfl (lv_at hl 0 rfl) ?_
  refine lv_iload hx hb dX3_cover_16 (lv_at hl 4 rfl) ?_
  refine z_put (T := TX3) hE hH hS hP14.1 rfl uw_X3 tyX3 tyX3_ok nmX3 3 (by decide) fkX3_25 rfl rfl rfl (Nat.le_of_ble_eq_true rfl) (by omega) dX3_cover_18 (fun H locs M18 hH hS e16 o17 => ?_)
  have hP19 := Pst.setF (k := 3) hP14 (by decide) e16 o17
  have hF20 := fun q hq => (o17 q (by omega)).trans (hF15 q hq)
  exact z_vret hE hH hS ⟨hP19, fun q h1 h2 => hF20 q ⟨h1, h2⟩⟩ dX3_cover_21

def beginG (f : Nat → Nat) (vn : Nat) (g : Nat → Nat) : Nat → Nat → Nat
  | 0 => g
  | k + 1 => fset (beginG f vn g k) k (if liesN f (k % 10) (k / 10) = true then vn else 0)
theorem beginG_at (f : Nat → Nat) (q : Nat) (g : Nat → Nat) : ∀ (n c : Nat), beginG f q g n c = if c < n then (if liesN f (c % 10) (c / 10) = true then q else 0) else g c
  | 0, c => by simp [beginG]
  | n + 1, c => by
    unfold beginG fset
    by_cases h : c = n
    · subst h; simp
    · rw [if_neg h, beginG_at f q g n c]
      by_cases h2 : c < n
      · have h3 : c < n + 1 := by omega
        simp [h2, h3]
      · have h3 : ¬ c < n + 1 := by omega
        simp [h2, h3]
theorem liesN_fset (f : Nat → Nat) {k x : Nat} (hk : 4 ≤ k) (a b : Nat) : liesN (fset f k x) a b = liesN f a b := by
  unfold liesN
  rw [fset_ne f x (by omega), fset_ne f x (by omega), fset_ne f x (by omega), fset_ne f x (by omega)]

set_option maxHeartbeats 4000000 in
set_option maxRecDepth 100000 in
theorem c_X3_begin (l : Launch) (G : zG) (B0 : Nat) (M : Mm) (a : Nat) (f g : Nat → Nat) (hP : Pst G a f g M) (hBa : B0 ≤ a) (hf0 : f 0 + f 2 ≤ 10) (hf1 : f 1 + f 3 ≤ 6) (p' vn : Nat) : zMet l yX3_begin cX3_begin 4 none 2 0 0 G B0 M [.ref a, .int (nI p'), .int (nI vn)] none (fun M1 => Pst G a (fset (fset (fset f 4 p') 5 0) 6 0) (beginG f vn g 60) M1 ∧ ∀ q, q ≠ a → q ≠ a + 1 → M1 q = M q) := by
  refine z_met RX3 [(0, .ref a), (1, .int (nI p')), (2, .int (nI vn))] (by decide) rfl (Nat.le_of_ble_eq_true rfl) rfl ?_
  intro pg ev s m below meth cd ls hE hin hB0 hH hl
  have hx := hE.1
  have hb := hE.2.1
  have hF : ∀ q, q ≠ a ∧ q ≠ a + 1 → M q = M q := fun _ _ => rfl
  refine z_gen B0 (fun H locs hH hS => ?_) hH
  refine lv_aload_n hx hb dX3_begin_0 rfl (lv_at hl 0 rfl) ?_
  refine lv_iload_n hx hb dX3_begin_1 rfl (lv_at hl 1 rfl) ?_
  refine z_put (T := TX3) hE hH hS hP.1 rfl uw_X3 tyX3 tyX3_ok nmX3 4 (by decide) fkX3_28 rfl rfl rfl (Nat.le_of_ble_eq_true rfl) (by omega) dX3_begin_2 (fun H locs M3 hH hS e1 o2 => ?_)
  have hP4 := Pst.setF (k := 4) hP (by decide) e1 o2
  have hF5 := fun q hq => (o2 q (by omega)).trans (hF q hq)
  refine lv_aload_n hx hb dX3_begin_5 rfl (lv_at hl 0 rfl) ?_
  refine n_iconst hx hb 0 dX3_begin_6 (by decide) ?_
  refine z_put (T := TX3) hE hH hS hP4.1 rfl uw_X3 tyX3 tyX3_ok nmX3 5 (by decide) fkX3_31 rfl rfl rfl (Nat.le_of_ble_eq_true rfl) (by omega) dX3_begin_7 (fun H locs M8 hH hS e6 o7 => ?_)
  have hP9 := Pst.setF (k := 5) hP4 (by decide) e6 o7
  have hF10 := fun q hq => (o7 q (by omega)).trans (hF5 q hq)
  refine lv_aload_n hx hb dX3_begin_10 rfl (lv_at hl 0 rfl) ?_
  refine n_iconst hx hb 0 dX3_begin_11 (by decide) ?_
  refine z_put (T := TX3) hE hH hS hP9.1 rfl uw_X3 tyX3 tyX3_ok nmX3 6 (by decide) fkX3_34 rfl rfl rfl (Nat.le_of_ble_eq_true rfl) (by omega) dX3_begin_12 (fun H locs M13 hH hS e11 o12 => ?_)
  have hP14 := Pst.setF (k := 6) hP9 (by decide) e11 o12
  have hF15 := fun q hq => (o12 q (by omega)).trans (hF10 q hq)
  refine n_iconst hx hb 0 dX3_begin_15 (by decide) ?_
  refine lv_istore_n (lv' := [(3, .int (nI 0)), (0, .ref a), (1, .int (nI p')), (2, .int (nI vn))]) hx hb dX3_begin_16 rfl hl (by decide) rfl (fun ls hl => ?_)
  have L17 : ∀ (dd : Nat) (k : Nat) (M1 : Mm), 60 < k + dd → (k ≤ 60) → (Pst G a (fset (fset (fset f 4 p') 5 0) 6 0) (beginG f vn g k) M1) → (∀ q, q ≠ a ∧ q ≠ a + 1 → M1 q = M q) → ∀ (H : Heap) (locs : List Loc), zH G M1 H → zS 0 B0 s.heap H locs → ∀ (ls : Array Slot), lv_has ls 4 [(0, .ref a), (1, .int (nI p')), (2, .int (nI vn)), (3, .int (nI k))] → zW pg l ev 2 0 0 s m [.ref a, .int (nI p'), .int (nI vn)] below meth cd H locs 0 0 G B0 none (fun M1 => Pst G a (fset (fset (fset f 4 p') 5 0) 6 0) (beginG f vn g 60) M1 ∧ ∀ q, q ≠ a → q ≠ a + 1 → M1 q = M q) (F0 m 17 ls []) := by
    intro dd
    induction dd with
    | zero =>
      intro k M1 hdd hk hP1 hF1
      exact absurd hdd (by omega)
    | succ dd ih =>
      intro k M1 hdd hk hP1 hF1 H locs hH hS ls hl
      refine lv_iload_n hx hb dX3_begin_17 rfl (lv_at hl 3 rfl) ?_
      refine n_bipush hx hb 60 dX3_begin_18 (by decide) ?_
      refine n_cmp_ge (tgt := 55) hx hb (by omega) (by decide) dX3_begin_20 (by decide) (fun h16 => ?_) (fun h16 => ?_)
      · exact z_vret hE hH hS ⟨by have hkk : k = 60 := (by omega); subst hkk; exact hP1, fun q h1 h2 => hF1 q ⟨h1, h2⟩⟩ dX3_begin_55
      · refine lv_aload_n hx hb dX3_begin_23 rfl (lv_at hl 0 rfl) ?_
        refine z_get (T := TX3) (v := .ref (a + 1)) hE hH hP1.1 rfl uw_X3 7 (by decide) fkX3_9 rfl dX3_begin_24 ?_
        refine lv_iload_n hx hb dX3_begin_27 rfl (lv_at hl 3 rfl) ?_
        refine lv_aload_n hx hb dX3_begin_28 rfl (lv_at hl 0 rfl) ?_
        refine lv_iload_n hx hb dX3_begin_29 rfl (lv_at hl 3 rfl) ?_
        refine n_bipush hx hb 10 dX3_begin_30 (by decide) ?_
        refine n_irem hx hb (by omega) (by decide) (by decide) dX3_begin_32 ?_
        refine lv_iload_n hx hb dX3_begin_33 rfl (lv_at hl 3 rfl) ?_
        refine n_bipush hx hb 10 dX3_begin_34 (by decide) ?_
        refine n_idiv hx hb (by omega) (by decide) (by decide) dX3_begin_36 ?_
        refine z_callV (rest := [.int (nI k), .ref (a + 1)]) (st2 := [.int (zb (liesN (fset (fset (fset f 4 p') 5 0) 6 0) (k % 10) (k / 10))), .int (nI k), .ref (a + 1)]) hE hH hS hB0 hl ca_X3_liesAt mkX3_37 (c_X3_liesAt l G B0 M1 a (fset (fset (fset f 4 p') 5 0) 6 0) (beginG f vn g k) hP1 (by simpa [fset] using hf0) (by simpa [fset] using hf1) (k % 10) (k / 10) (by omega) (by omega)) hP1.1 rfl rfl rfl rfl rfl ⟨Nat.le_of_ble_eq_true rfl, Nat.le_of_ble_eq_true rfl⟩ (Nat.le_of_ble_eq_true rfl) ⟨Nat.le_refl _, Nat.le_refl _⟩ dX3_begin_37 (fun H locs M1 hH hp hS => ?_)
        subst hp
        refine b_if_eq (tgt := 47) hx hb dX3_begin_40 (by decide) (fun h17 => ?_) (fun h17 => ?_)
        · refine n_iconst hx hb 0 dX3_begin_47 (by decide) ?_
          refine z_iast hE hH hS hP1.2 (k := k) (by omega) (by decide) (by omega) dX3_begin_48 (fun H locs M20 hH hS e18 o19 => ?_)
          have hP21 := Pst.setC (c := k) hP1 e18 o19
          have hF22 := fun q hq => (o19 q (by omega)).trans (hF1 q hq)
          refine lv_iinc (v := (nI (k + 1))) (lv' := [(3, .int (nI (k + 1))), (0, .ref a), (1, .int (nI p')), (2, .int (nI vn))]) hx hb dX3_begin_49 hl (k := 3) rfl (nI_inc _) (by decide) rfl (fun ls hl => ?_)
          refine lv_goto (tgt := 17) hx hb dX3_begin_52 (by decide) ?_
          exact ih  (k + 1) M20 (by omega) (by omega) (by have hh := h17; simp [liesN_fset] at hh; unfold beginG; rw [hh]; exact hP21) hF22 _ _ hH hS _ (lv_sub hl [1, 2, 3, 0] rfl)
        · refine lv_iload_n hx hb dX3_begin_43 rfl (lv_at hl 2 rfl) ?_
          refine lv_goto (tgt := 48) hx hb dX3_begin_44 (by decide) ?_
          refine z_iast hE hH hS hP1.2 (k := k) (by omega) (by decide) (by omega) dX3_begin_48 (fun H locs M25 hH hS e23 o24 => ?_)
          have hP26 := Pst.setC (c := k) hP1 e23 o24
          have hF27 := fun q hq => (o24 q (by omega)).trans (hF1 q hq)
          refine lv_iinc (v := (nI (k + 1))) (lv' := [(3, .int (nI (k + 1))), (0, .ref a), (1, .int (nI p')), (2, .int (nI vn))]) hx hb dX3_begin_49 hl (k := 3) rfl (nI_inc _) (by decide) rfl (fun ls hl => ?_)
          refine lv_goto (tgt := 17) hx hb dX3_begin_52 (by decide) ?_
          exact ih  (k + 1) M25 (by omega) (by omega) (by have hh := h17; simp [liesN_fset] at hh; unfold beginG; rw [hh]; exact hP26) hF27 _ _ hH hS _ (lv_sub hl [1, 2, 3, 0] rfl)
  exact L17 61 0 M13 (by omega) (by omega) hP14 hF15 _ _ hH hS _ (lv_sub hl [1, 2, 3, 0] rfl)

/-- System.arraycopy of ints, from one array to another -/
theorem z_copy {p : Program} {l : Launch} {e : Env} {R : Room} {s : State} {m : MethodId} {args : Array Value} {below : List Frame} {meth : Method} {c : Code} {H : Heap} {locs : List Loc} {cells slots : Nat} {Q : State → Prop} {cc : ByteArray} {pc nL : Nat} {ls : Array Slot} {lv : List (Nat × Value)} {rest : List Value} {G : zG} {M : Mm} {a a0 n B0 idx : Nat} {H0 : Heap} {own : String} {ret : Option FieldType} {N : Nat} {f g : Nat → Int32}
    (hE : zE p s m args meth c G own cc nL ret) (hH : zH G M H) (hS : zS n B0 H0 H locs) (hl : lv_has ls nL lv) (hli : Cond.methodLink own idx arraycopyName ∈ Tb) (hA0 : zArr G 0 M a0 N f) (hA : zArr G 0 M a N g) (hN : N < 2 ^ 31) (hB : B0 ≤ a) (hr : 1 ≤ R.frames ∧ (rest.map fun v => v.category).sum + (nativeFrameWords "java/lang/System" "arraycopy" 5 + 11) ≤ R.locals) (hdg : decode cc pc = .ok (.invokestatic idx, 3))
    (kk : ∀ (H1 : Heap) (locs1 : List Loc) (M1 : Mm), zH G M1 H1 → zS n B0 H0 H1 locs1 → zArr G 0 M1 a N f → (∀ q : Nat, q ≠ a → M1 q = M q) → W p l e R s m args below meth c H1 locs1 cells slots Q (F0 m (pc + 3) ls rest)) : W p l e R s m args below meth c H locs cells slots Q (F0 m pc ls (.int (nI N) :: .int (nI 0) :: .ref a :: .int (nI 0) :: .ref a0 :: rest)) := by
  have hts := hE.2.2.2.2.1
  have hK := hE.2.2.2.2.2.2.2.1
  obtain ⟨f', hf1, hf2⟩ := hA0
  obtain ⟨g', hg1, hg2⟩ := hA
  have hz : (nI 0).toNatClampNeg = 0 := nI_clamp (by decide)
  have hn : (nI N).toNatClampNeg = N := nI_clamp hN
  intro T hT X
  have hc0 : H[a0]? = some (vp_cell (G.2 0) (N, .inl f')) := hH _ _ hf1
  have hc1 : H[a]? = some (vp_cell (G.2 0) (N, .inl g')) := hH _ _ hg1
  obtain ⟨-, k0, hk0, cm0, hkk0⟩ := (hK.2 0 _ rfl).1 N (fun j => .int (f' j))
  obtain ⟨-, k1, hk1, cm1, hkk1⟩ := (hK.2 0 _ rfl).1 N (fun j => .int (g' j))
  obtain ⟨vm', X', step⟩ := X.arraycopy hE.1 hE.2.2.2.1 (hts _ hli) (hts _ na_arraycopy) (hts _ st_arraycopyName) (hts _ ini_J10) (src := a0) (dst := a) (cs := vp_cell (G.2 0) (N, .inl f')) (cd := vp_cell (G.2 0) (N, .inl g')) (srcPos := nI 0) (destPos := nI 0) (n := nI N) (by rw [hT]; exact hc0) (by rw [hT]; exact hc1)
    (fun _ h => by cases h) (fun _ h => by cases h) (fun h => by cases h) (fun h => by cases h) hk0 hk1 hkk0 hkk1 (by simp [refKind]) (nI_pos (by decide)) (nI_pos (by decide)) (nI_pos hN)
    (by rw [nI_toInt (by decide), nI_toInt hN]; show ¬ _ > ((arrV (G.2 0) N (fun j => .int (f' j))).slots.size : Int); rw [arrV_size]; omega)
    (by rw [nI_toInt (by decide), nI_toInt hN]; show ¬ _ > ((arrV (G.2 0) N (fun j => .int (g' j))).slots.size : Int); rw [arrV_size]; omega)
    (fun vm₁ _ i hi => by
      rw [hn] at hi
      have e : (vp_cell (G.2 0) (N, .inl f')).slots.getD ((nI 0).toNatClampNeg + i) .null = .int (f' i) := by
        rw [hz, Nat.zero_add]
        show (arrV (G.2 0) N (fun j => .int (f' j))).slots.getD _ _ = _
        rw [Array.getD_eq_getD_getElem?, arrV_read _ _ hi]
        rfl
      refine ⟨?_, ?_⟩
      · rw [e]
        rfl
      · rw [e]
        exact trivial)
    (g := F0 m pc ls (.int (nI N) :: .int (nI 0) :: .ref a :: .int (nI 0) :: .ref a0 :: rest)) rfl (by rw [hE.2.2.1]; exact hl.1) (rest := rest) rfl (by rw [hE.2.1]; exact hdg) hr.1 (by have := hr.2; show 2 * 0 + _ + _ ≤ _; omega)
  have e1 : copied (vp_cell (G.2 0) (N, .inl f')) (vp_cell (G.2 0) (N, .inl g')) (nI 0) (nI 0) (nI N) = vp_cell (G.2 0) (N, .inl (va_cpy f' g' (nI 0).toNatClampNeg (nI 0).toNatClampNeg (nI N).toNatClampNeg)) := va_copied (fun z => .int z) (G.2 0) (G.2 0) f' g' (by rw [hz, hn]; omega)
  rw [hz, hn] at e1
  rw [e1] at X' step
  have hl1 : a < H.size := (Array.getElem?_eq_some_iff.mp hc1).1
  have hheap : ((T.setVm vm').setCell a (vp_cell (G.2 0) (N, .inl (va_cpy f' g' 0 0 N)))).heap = H.setIfInBounds a (vp_cell (G.2 0) (N, .inl (va_cpy f' g' 0 0 N))) := by rw [← hT]; rfl
  have oq : ∀ q : Nat, q ≠ a → (H.setIfInBounds a (vp_cell (G.2 0) (N, .inl (va_cpy f' g' 0 0 N))))[q]? = H[q]? := fun q hq => by simp [Array.getElem?_setIfInBounds, Ne.symm hq]
  have hsz : (H.setIfInBounds a (vp_cell (G.2 0) (N, .inl (va_cpy f' g' 0 0 N)))).size = H.size := by simp
  obtain ⟨t, a1, b1⟩ := kk _ _ (zset M a (.inl (G.2 0, N, .inl (va_cpy f' g' 0 0 N)))) (hH.set (show (H.setIfInBounds a _)[a]? = some _ by simp [Array.getElem?_setIfInBounds, hl1]) oq) ⟨⟨by rw [hsz]; exact hS.1.1, fun q g1 g2 => by
      rw [oq q (fun e => g2 (by rw [e]; exact hB))]
      exact hS.1.2.1 q g1 g2, fun q hq => by
      rcases List.mem_append.mp hq with h | h
      · exact hS.1.2.2 q h
      · obtain ⟨z, -, hz⟩ := List.mem_map.mp h
        rw [← hz]
        exact hB⟩, hsz.trans hS.2⟩ ⟨_, zset_self _ _ _, fun i hi => by
          show va_cpy f' g' 0 0 N i = f i
          unfold va_cpy
          rw [if_pos ⟨Nat.zero_le _, by omega⟩, ← hf2 i hi]
          congr 1
          omega⟩ (zset_ne _ _ _) _ hheap X'
  exact ⟨t, step t a1, b1⟩

theorem Pst.setG {G : zG} {a : Nat} {f g g2 : Nat → Nat} {M M1 : Mm} (h : Pst G a f g M) (e : zArr G 0 M1 (a + 1) 60 (fun i => nI (g2 i))) (o : ∀ q : Nat, q ≠ a + 1 → M1 q = M q) : Pst G a f g2 M1 := ⟨by rw [o a (by omega)]; exact h.1, e⟩

set_option maxHeartbeats 4000000 in
set_option maxRecDepth 100000 in
theorem c_X3_copyFrom (l : Launch) (G : zG) (B0 : Nat) (M : Mm) (a : Nat) (f g : Nat → Nat) (hP : Pst G a f g M) (hBa : B0 ≤ a) (b : Nat) (f2 g2 : Nat → Nat) (hO : Pst G b f2 g2 M) (hab : a + 1 < b ∨ b + 1 < a) : zMet l yX3_copyFrom cX3_copyFrom 2 none 2 0 0 G B0 M [.ref a, .ref b] none (fun M1 => Pst G a (f2) (g2) M1 ∧ ∀ q, q ≠ a → q ≠ a + 1 → M1 q = M q) := by
  refine z_met RX3 [(0, .ref a), (1, .ref b)] (by decide) rfl (Nat.le_of_ble_eq_true rfl) rfl ?_
  intro pg ev s m below meth cd ls hE hin hB0 hH hl
  have hx := hE.1
  have hb := hE.2.1
  have hF : ∀ q, q ≠ a ∧ q ≠ a + 1 → M q = M q := fun _ _ => rfl
  refine z_gen B0 (fun H locs hH hS => ?_) hH
  refine lv_aload_n hx hb dX3_copyFrom_0 rfl (lv_at hl 0 rfl) ?_
  refine lv_aload_n hx hb dX3_copyFrom_1 rfl (lv_at hl 1 rfl) ?_
  refine z_get (T := TX3) (v := .int (nI (f2 0))) hE hH hO.1 rfl uw_X3 0 (by decide) fkX3_15 rfl dX3_copyFrom_2 ?_
  refine lv_aload_n hx hb dX3_copyFrom_5 rfl (lv_at hl 1 rfl) ?_
  refine z_get (T := TX3) (v := .int (nI (f2 1))) hE hH hO.1 rfl uw_X3 1 (by decide) fkX3_19 rfl dX3_copyFrom_6 ?_
  refine lv_aload_n hx hb dX3_copyFrom_9 rfl (lv_at hl 1 rfl) ?_
  refine z_get (T := TX3) (v := .int (nI (f2 2))) hE hH hO.1 rfl uw_X3 2 (by decide) fkX3_22 rfl dX3_copyFrom_10 ?_
  refine lv_aload_n hx hb dX3_copyFrom_13 rfl (lv_at hl 1 rfl) ?_
  refine z_get (T := TX3) (v := .int (nI (f2 3))) hE hH hO.1 rfl uw_X3 3 (by decide) fkX3_25 rfl dX3_copyFrom_14 ?_
  refine z_callV (rest := []) (st2 := []) hE hH hS hB0 hl ca_X3_cover mkX3_41 (c_X3_cover l G B0 M a f g hP (by omega) (f2 0) (f2 1) (f2 2) (f2 3)) hP.1 rfl rfl rfl rfl rfl ⟨Nat.le_of_ble_eq_true rfl, Nat.le_of_ble_eq_true rfl⟩ (Nat.le_of_ble_eq_true rfl) ⟨Nat.le_refl _, Nat.le_refl _⟩ dX3_copyFrom_17 (fun H locs M1 hH hp hS => ?_)
  obtain ⟨hP2, hF3⟩ := hp
  have hF4 := fun q hq => (hF3 q (by omega) (by omega)).trans (hF q hq)
  have hO5 := hO.kept (hF3 _ (by omega) (by omega)) (hF3 _ (by omega) (by omega))
  refine lv_aload_n hx hb dX3_copyFrom_20 rfl (lv_at hl 0 rfl) ?_
  refine lv_aload_n hx hb dX3_copyFrom_21 rfl (lv_at hl 1 rfl) ?_
  refine z_get (T := TX3) (v := .int (nI (f2 4))) hE hH hO5.1 rfl uw_X3 4 (by decide) fkX3_28 rfl dX3_copyFrom_22 ?_
  refine z_put (T := TX3) hE hH hS hP2.1 rfl uw_X3 tyX3 tyX3_ok nmX3 4 (by decide) fkX3_28 rfl rfl rfl (Nat.le_of_ble_eq_true rfl) (by omega) dX3_copyFrom_25 (fun H locs M8 hH hS e6 o7 => ?_)
  have hP9 := Pst.setF (k := 4) hP2 (by decide) e6 o7
  have hF10 := fun q hq => (o7 q (by omega)).trans (hF4 q hq)
  have hO11 := hO5.kept (o7 _ (by omega)) (o7 _ (by omega))
  refine lv_aload_n hx hb dX3_copyFrom_28 rfl (lv_at hl 0 rfl) ?_
  refine lv_aload_n hx hb dX3_copyFrom_29 rfl (lv_at hl 1 rfl) ?_
  refine z_get (T := TX3) (v := .int (nI (f2 5))) hE hH hO11.1 rfl uw_X3 5 (by decide) fkX3_31 rfl dX3_copyFrom_30 ?_
  refine z_put (T := TX3) hE hH hS hP9.1 rfl uw_X3 tyX3 tyX3_ok nmX3 5 (by decide) fkX3_31 rfl rfl rfl (Nat.le_of_ble_eq_true rfl) (by omega) dX3_copyFrom_33 (fun H locs M14 hH hS e12 o13 => ?_)
  have hP15 := Pst.setF (k := 5) hP9 (by decide) e12 o13
  have hF16 := fun q hq => (o13 q (by omega)).trans (hF10 q hq)
  have hO17 := hO11.kept (o13 _ (by omega)) (o13 _ (by omega))
  refine lv_aload_n hx hb dX3_copyFrom_36 rfl (lv_at hl 0 rfl) ?_
  refine lv_aload_n hx hb dX3_copyFrom_37 rfl (lv_at hl 1 rfl) ?_
  refine z_get (T := TX3) (v := .int (nI (f2 6))) hE hH hO17.1 rfl uw_X3 6 (by decide) fkX3_34 rfl dX3_copyFrom_38 ?_
  refine z_put (T := TX3) hE hH hS hP15.1 rfl uw_X3 tyX3 tyX3_ok nmX3 6 (by decide) fkX3_34 rfl rfl rfl (Nat.le_of_ble_eq_true rfl) (by omega) dX3_copyFrom_41 (fun H locs M20 hH hS e18 o19 => ?_)
  have hP21 := Pst.setF (k := 6) hP15 (by decide) e18 o19
  have hF22 := fun q hq => (o19 q (by omega)).trans (hF16 q hq)
  have hO23 := hO17.kept (o19 _ (by omega)) (o19 _ (by omega))
  refine lv_aload_n hx hb dX3_copyFrom_44 rfl (lv_at hl 1 rfl) ?_
  refine z_get (T := TX3) (v := .ref (b + 1)) hE hH hO23.1 rfl uw_X3 7 (by decide) fkX3_9 rfl dX3_copyFrom_45 ?_
  refine n_iconst hx hb 0 dX3_copyFrom_48 (by decide) ?_
  refine lv_aload_n hx hb dX3_copyFrom_49 rfl (lv_at hl 0 rfl) ?_
  refine z_get (T := TX3) (v := .ref (a + 1)) hE hH hP21.1 rfl uw_X3 7 (by decide) fkX3_9 rfl dX3_copyFrom_50 ?_
  refine n_iconst hx hb 0 dX3_copyFrom_53 (by decide) ?_
  refine n_bipush hx hb 60 dX3_copyFrom_54 (by decide) ?_
  refine z_copy (rest := []) hE hH hS hl mkX3_45 hO23.2 hP21.2 (by decide) (by omega) ⟨Nat.le_of_ble_eq_true rfl, Nat.le_of_ble_eq_true rfl⟩ dX3_copyFrom_56 (fun H locs M24 hH hS e25 o26 => ?_)
  have hP27 := Pst.setG hP21 e25 o26
  have hF28 := fun q hq => (o26 q (by omega)).trans (hF22 q hq)
  have hO29 := hO23.kept (o26 _ (by omega)) (o26 _ (by omega))
  exact z_vret hE hH hS ⟨hP27.to (fun k hk => by rcases (show k = 0 ∨ k = 1 ∨ k = 2 ∨ k = 3 ∨ k = 4 ∨ k = 5 ∨ k = 6 by omega) with rfl | rfl | rfl | rfl | rfl | rfl | rfl <;> rfl) (fun _ _ => rfl), fun q h1 h2 => hF28 q ⟨h1, h2⟩⟩ dX3_copyFrom_59
