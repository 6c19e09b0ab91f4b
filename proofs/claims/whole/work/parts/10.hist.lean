theorem tdR_stepA (A : Nat → Nat) (r : Nat → Nat) {p k : Nat} (hpk : p < k) (i : Nat) : (if i = k - 1 then A (tdR r p k k) else A (tdR r p k i)) = A (tdR r p (k + 1) i) := by
  by_cases h : i = k - 1
  · rw [if_pos h, tdR_k]
    subst h
    unfold tdR
    rw [if_pos (by omega)]
    rw [Nat.sub_add_cancel (by omega)]
  · rw [if_neg h]
    unfold tdR
    by_cases h2 : p ≤ i ∧ i + 1 < k
    · rw [if_pos h2, if_pos (by omega)]
    · rw [if_neg h2, if_neg (by omega)]
def hOk (t : Nat → Nat) : Prop := (∀ j, j < 6 → t j < 6) ∧ ∀ i j, i < 6 → j < 6 → t i = t j → i = j
/-- the history's cells, the references by t, the size n -/
def HsB (G : zG) (h n : Nat) (t : Nat → Nat) (M : Mm) : Prop :=
  M h = some (.inr (1, [.ref (h + 1), .int (nI n)])) ∧ zRef G 2 M (h + 1) 6 (fun k => h + 2 + 27 * t k) ∧ ∀ k, k < 6 → ∃ v, v 0 ≤ 12 ∧ Wl G (h + 2 + 27 * k) v M
def HsL (G : zG) (h n : Nat) (t : Nat → Nat) (hist : Nat → Wv) (M : Mm) : Prop := ∀ k, k < n → Wl G (h + 2 + 27 * t k) (hist k) M
def Hs (G : zG) (h n : Nat) (hist : Nat → Wv) (M : Mm) : Prop := ∃ t, hOk t ∧ HsB G h n t M ∧ HsL G h n t hist M
theorem HsB.kept {G : zG} {h n : Nat} {t : Nat → Nat} {M M1 : Mm} (H : HsB G h n t M) (o : ∀ q, h ≤ q → q < h + 164 → M1 q = M q) : HsB G h n t M1 := by
  obtain ⟨h1, h2, h3⟩ := H
  refine ⟨by rw [o h (by omega) (by omega)]; exact h1, h2.kept (o _ (by omega) (by omega)), fun k hk => ?_⟩
  obtain ⟨v, hv, hw⟩ := h3 k hk
  exact ⟨v, hv, hw.kept hv (fun q a b => o q (by omega) (by omega))⟩
theorem HsL.kept {G : zG} {h n : Nat} {t : Nat → Nat} {hist : Nat → Wv} {M M1 : Mm} (H : HsL G h n t hist M) (ht : hOk t) (hn : n ≤ 6) (hv : ∀ k, k < n → wOk (hist k)) (o : ∀ q, h + 2 ≤ q → q < h + 164 → M1 q = M q) : HsL G h n t hist M1 := fun k hk => by
  have := ht.1 k (by omega)
  exact (H k hk).kept (hv k hk).1 (fun q a b => o q (by omega) (by omega))
theorem Hs.kept {G : zG} {h n : Nat} {hist : Nat → Wv} {M M1 : Mm} (H : Hs G h n hist M) (hn : n ≤ 6) (hv : ∀ k, k < n → wOk (hist k)) (o : ∀ q, h ≤ q → q < h + 164 → M1 q = M q) : Hs G h n hist M1 := by
  obtain ⟨t, ht, h1, h2⟩ := H
  exact ⟨t, ht, h1.kept o, h2.kept ht hn hv (fun q a b => o q (by omega) b)⟩
theorem HsB.setN {G : zG} {h n x : Nat} {t : Nat → Nat} {M M1 : Mm} (H : HsB G h n t M) (e : M1 h = some (.inr (1, ([.ref (h + 1), .int (nI n)] : List Value).set 1 (.int (nI x))))) (o : ∀ q : Nat, q ≠ h → M1 q = M q) : HsB G h x t M1 := by
  obtain ⟨h1, h2, h3⟩ := H
  refine ⟨e, h2.kept (o _ (by omega)), fun k hk => ?_⟩
  obtain ⟨v, hv, hw⟩ := h3 k hk
  exact ⟨v, hv, hw.kept hv (fun q a b => o q (by omega))⟩
/-- the references while the oldest is dropped -/
def HsD (G : zG) (h n : Nat) (M : Mm) : Prop := M h = some (.inr (1, [.ref (h + 1), .int (nI n)])) ∧ ∀ k, k < 6 → ∃ v, v 0 ≤ 12 ∧ Wl G (h + 2 + 27 * k) v M
theorem HsD.at {G : zG} {h n j : Nat} {M : Mm} (H : HsD G h n M) (hj : j < 6) : ∃ fs, M (h + 2 + 27 * j) = some (.inr (4, fs)) := by
  obtain ⟨v, hv, r, hr, hw⟩ := H.2 j hj
  exact ⟨_, hw.1⟩
theorem HsD.kept {G : zG} {h n : Nat} {M M1 : Mm} (H : HsD G h n M) (o : ∀ q : Nat, q ≠ h + 1 → M1 q = M q) : HsD G h n M1 := by
  obtain ⟨h1, h3⟩ := H
  refine ⟨by rw [o h (by omega)]; exact h1, fun k hk => ?_⟩
  obtain ⟨v, hv, hw⟩ := h3 k hk
  exact ⟨v, hv, hw.kept hv (fun q a b => o q (by omega))⟩
theorem HsD.setN {G : zG} {h n x : Nat} {M M1 : Mm} (H : HsD G h n M) (e : M1 h = some (.inr (1, ([.ref (h + 1), .int (nI n)] : List Value).set 1 (.int (nI x))))) (o : ∀ q : Nat, q ≠ h → M1 q = M q) : HsD G h x M1 := by
  obtain ⟨h1, h3⟩ := H
  refine ⟨e, fun k hk => ?_⟩
  obtain ⟨v, hv, hw⟩ := h3 k hk
  exact ⟨v, hv, hw.kept hv (fun q a b => o q (by omega))⟩
def tdT (t : Nat → Nat) : Nat → Nat := fun i => if i = 5 then t 0 else t (i + 1)
theorem tdT_ok {t : Nat → Nat} (ht : hOk t) : hOk (tdT t) := by
  refine ⟨fun j hj => ?_, fun i j hi hj h => ?_⟩
  · unfold tdT; split
    · exact ht.1 0 (by decide)
    · exact ht.1 _ (by omega)
  · unfold tdT at h
    split at h <;> split at h
    · omega
    · have := ht.2 _ _ (by decide) (by omega) h; omega
    · have := ht.2 _ _ (by omega) (by decide) h; omega
    · have := ht.2 _ _ (by omega) (by omega) h; omega
theorem drop_fin {G : zG} {h n : Nat} {t : Nat → Nat} {M : Mm} (H : HsD G h n M) (hT : zRef G 2 M (h + 1) 6 (fun i => if i = 5 then h + 2 + 27 * t 0 else h + 2 + 27 * tdR t 0 6 i)) : HsB G h n (tdT t) M := by
  refine ⟨H.1, hT.to fun i hi => ?_, H.2⟩
  unfold tdT tdR
  by_cases h5 : i = 5
  · rw [if_pos h5, if_pos h5]
  · rw [if_neg h5, if_neg h5, if_pos ⟨Nat.zero_le _, by omega⟩]
def keepN (n : Nat) : Nat := if n = 6 then 6 else n + 1
def keepH (hist : Nat → Wv) (n : Nat) (v : Wv) : Nat → Wv := fun k => if n = 6 then (if k < 5 then hist (k + 1) else v) else if k = n then v else hist k
theorem keepN_le {n : Nat} (h : n ≤ 6) : keepN n ≤ 6 := by unfold keepN; split <;> omega
theorem keepH_ok {hist : Nat → Wv} {n : Nat} {v : Wv} (hn : n ≤ 6) (hh : ∀ k, k < n → wOk (hist k)) (hv : wOk v) : ∀ k, k < keepN n → wOk (keepH hist n v k) := by
  intro k hk
  unfold keepN at hk
  unfold keepH
  split at hk
  · next h6 =>
    rw [if_pos h6]
    split
    · exact hh _ (by omega)
    · exact hv
  · next h6 =>
    rw [if_neg h6]
    split
    · exact hv
    · exact hh _ (by omega)
/-- behind a state's copy: all its places, those of before and the new one -/
theorem keep_fin {G : zG} {h n x : Nat} {t : Nat → Nat} {hist : Nat → Wv} {v : Wv} {M M1 : Mm} (H : HsB G h n t M) (L : HsL G h n t hist M) (ht : hOk t) (hn : n < 6) (hv : ∀ k, k < n → wOk (hist k)) {rd : Nat → Nat} (hrd : rOk rd) (hvv : wOk v) (hW : WlR G (h + 2 + 27 * t n) rd v M1) (o : ∀ q, (q < h + 2 + 27 * t n ∨ h + 2 + 27 * t n + 27 ≤ q) → M1 q = M q) : HsB G h n t M1 ∧ HsL G h (n + 1) t (fun k => if k = n then v else hist k) M1 := by
  obtain ⟨h1, h2, h3⟩ := H
  have htn := ht.1 n (by omega)
  refine ⟨⟨by rw [o h (by omega)]; exact h1, h2.kept (o _ (by omega)), fun k hk => ?_⟩, fun k hk => ?_⟩
  · by_cases hkn : k = t n
    · subst hkn; exact ⟨v, hvv.1, rd, hrd, hW⟩
    · obtain ⟨v2, hv2, hw⟩ := h3 k hk
      exact ⟨v2, hv2, hw.kept hv2 (fun q a b => o q (by omega))⟩
  · by_cases hkn : k = n
    · subst hkn
      show Wl G _ (if k = k then v else hist k) M1
      rw [if_pos rfl]
      exact ⟨rd, hrd, hW⟩
    · have hne : t k ≠ t n := fun q => hkn (ht.2 k n (by omega) (by omega) q)
      have := ht.1 k (by omega)
      show Wl G _ (if k = n then v else hist k) M1
      rw [if_neg hkn]
      exact (L k (by omega)).kept (hv k (by omega)).1 (fun q a b => o q (by omega))
theorem HsL.to {G : zG} {h n : Nat} {t : Nat → Nat} {hist hist2 : Nat → Wv} {M : Mm} (H : HsL G h n t hist M) (e : ∀ k, k < n → hist k = hist2 k) : HsL G h n t hist2 M := fun k hk => by rw [← e k hk]; exact H k hk

set_option maxHeartbeats 4000000 in
set_option maxRecDepth 100000 in
theorem c_X1_dropOldest (l : Launch) (G : zG) (B0 : Nat) (M : Mm) (h : Nat) (t : Nat → Nat) (ht : hOk t) (hHs : HsB G h 6 t M) (hBh : B0 ≤ h) : zMet l yX1_dropOldest cX1_dropOldest 3 none 1 0 0 G B0 M [.ref h] none (fun M1 => HsB G h 5 (tdT t) M1 ∧ ∀ q, (q ≠ h ∧ q ≠ h + 1) → M1 q = M q) := by
  refine z_met RX1 [(0, .ref h)] (by decide) rfl (Nat.le_of_ble_eq_true rfl) rfl ?_
  intro pg ev s m below meth cd ls hE hin hB0 hH hl
  have hx := hE.1
  have hb := hE.2.1
  have hD : HsD G h 6 M := ⟨hHs.1, hHs.2.2⟩
  have hT : zRef G 2 M (h + 1) 6 (fun i => h + 2 + 27 * tdR t 0 (0 + 1) i) := hHs.2.1.to (fun i _ => by rw [tdR_0])
  have hF : ∀ q, (q ≠ h ∧ q ≠ h + 1) → M q = M q := fun _ _ => rfl
  refine z_gen B0 (fun H locs hH hS => ?_) hH
  refine lv_aload_n hx hb dX1_dropOldest_0 rfl (lv_at hl 0 rfl) ?_
  refine z_get (T := TX1) (v := .ref (h + 1)) hE hH hD.1 rfl uw_X1 0 (by decide) fkX1_11 rfl dX1_dropOldest_1 ?_
  refine n_iconst hx hb 0 dX1_dropOldest_4 (by decide) ?_
  have q1 := ht.1 0 (by omega)
  obtain ⟨fs2, hm3⟩ := hD.at (j := t 0) (by omega)
  refine z_aald hE hH hT rfl (k := 0) (by omega) (by decide) dX1_dropOldest_5 ?_
  refine lv_astore_n (lv' := [(1, .ref (h + 2 + 27 * tdR t 0 (0 + 1) 0)), (0, .ref h)]) hx hb dX1_dropOldest_6 rfl hl (by decide) rfl (fun ls hl => ?_)
  refine n_iconst hx hb 1 dX1_dropOldest_7 (by decide) ?_
  refine lv_istore_n (lv' := [(2, .int (nI 1)), (1, .ref (h + 2 + 27 * tdR t 0 (0 + 1) 0)), (0, .ref h)]) hx hb dX1_dropOldest_8 rfl hl (by decide) rfl (fun ls hl => ?_)
  have L9 : ∀ (dd : Nat) (k : Nat) (M1 : Mm), 6 < k + dd → (k ≤ 6) → (0 < k) → (HsD G h 6 M1) → (zRef G 2 M1 (h + 1) 6 (fun i => h + 2 + 27 * tdR t 0 k i)) → (∀ q, (q ≠ h ∧ q ≠ h + 1) → M1 q = M q) → ∀ (H : Heap) (locs : List Loc), zH G M1 H → zS 0 B0 s.heap H locs → ∀ (ls : Array Slot), lv_has ls 3 [(0, .ref h), (1, .ref (h + 2 + 27 * tdR t 0 (0 + 1) 0)), (2, .int (nI k))] → zW pg l ev 1 0 0 s m [.ref h] below meth cd H locs 0 0 G B0 none (fun M1 => HsB G h 5 (tdT t) M1 ∧ ∀ q, (q ≠ h ∧ q ≠ h + 1) → M1 q = M q) (F0 m 9 ls []) := by
    intro dd
    induction dd with
    | zero =>
      intro k M1 hdd hk hpk hD1 hT1 hF1
      exact absurd hdd (by omega)
    | succ dd ih =>
      intro k M1 hdd hk hpk hD1 hT1 hF1 H locs hH hS ls hl
      refine lv_iload_n hx hb dX1_dropOldest_9 rfl (lv_at hl 2 rfl) ?_
      refine n_bipush hx hb 6 dX1_dropOldest_10 (by decide) ?_
      refine n_cmp_ge (tgt := 35) hx hb (by omega) (by decide) dX1_dropOldest_12 (by decide) (fun h4 => ?_) (fun h4 => ?_)
      · obtain rfl : k = 6 := by omega
        refine lv_aload_n hx hb dX1_dropOldest_35 rfl (lv_at hl 0 rfl) ?_
        refine z_get (T := TX1) (v := .ref (h + 1)) hE hH hD1.1 rfl uw_X1 0 (by decide) fkX1_11 rfl dX1_dropOldest_36 ?_
        refine n_iconst hx hb 5 dX1_dropOldest_39 (by decide) ?_
        refine lv_aload_n hx hb dX1_dropOldest_40 rfl (lv_at hl 1 rfl) ?_
        have ht0 := ht.1 0 (by decide)
        obtain ⟨fs8, hm9⟩ := hD1.at (j := t 0) (by omega)
        refine z_aastR hE hH hS hT1 rfl (by rw [tdR_0]; exact hm9) rfl (k := 5) (by omega) (by decide) (by omega) dX1_dropOldest_41 (fun H locs M7 hH hS e5 o6 => ?_)
        have hD10 := HsD.kept hD1 o6
        have hT11 := e5
        have hF12 := fun q hq => (o6 q (by omega)).trans (hF1 q hq)
        refine lv_aload_n hx hb dX1_dropOldest_42 rfl (lv_at hl 0 rfl) ?_
        refine n_iconst hx hb 5 dX1_dropOldest_43 (by decide) ?_
        refine z_put (T := TX1) hE hH hS hD10.1 rfl uw_X1 tyX1 tyX1_ok nmX1 1 (by decide) fkX1_18 rfl rfl rfl (Nat.le_of_ble_eq_true rfl) (by omega) dX1_dropOldest_44 (fun H locs M15 hH hS e13 o14 => ?_)
        have hD16 := HsD.setN (x := 5) hD10 e13 o14
        have hT17 := hT11.kept (o14 _ (by omega))
        have hF18 := fun q hq => (o14 q (by omega)).trans (hF12 q hq)
        exact z_vret hE hH hS ⟨drop_fin hD16 (hT17.to (fun i _ => by rw [tdR_0])), hF18⟩ dX1_dropOldest_47
      · refine lv_aload_n hx hb dX1_dropOldest_15 rfl (lv_at hl 0 rfl) ?_
        refine z_get (T := TX1) (v := .ref (h + 1)) hE hH hD1.1 rfl uw_X1 0 (by decide) fkX1_11 rfl dX1_dropOldest_16 ?_
        refine lv_iload_n hx hb dX1_dropOldest_19 rfl (lv_at hl 2 rfl) ?_
        refine n_iconst hx hb 1 dX1_dropOldest_20 (by decide) ?_
        refine n_isub hx hb (by omega) dX1_dropOldest_21 ?_
        refine lv_aload_n hx hb dX1_dropOldest_22 rfl (lv_at hl 0 rfl) ?_
        refine z_get (T := TX1) (v := .ref (h + 1)) hE hH hD1.1 rfl uw_X1 0 (by decide) fkX1_11 rfl dX1_dropOldest_23 ?_
        refine lv_iload_n hx hb dX1_dropOldest_26 rfl (lv_at hl 2 rfl) ?_
        have q19 := ht.1 k (by omega)
        obtain ⟨fs20, hm21⟩ := hD1.at (j := t k) (by omega)
        refine z_aald hE hH hT1 rfl (k := k) (by omega) (by decide) dX1_dropOldest_27 ?_
        refine z_aastR hE hH hS hT1 rfl (by rw [tdR_k]; exact hm21) rfl (k := k - 1) (by omega) (by decide) (by omega) dX1_dropOldest_28 (fun H locs M24 hH hS e22 o23 => ?_)
        have hD25 := HsD.kept hD1 o23
        have hT26 := zRef.to (g' := fun i => h + 2 + 27 * tdR t 0 (k + 1) i) e22 (fun i hi => tdR_stepA (fun z => h + 2 + 27 * z) t (by omega) i)
        have hF27 := fun q hq => (o23 q (by omega)).trans (hF1 q hq)
        refine lv_iinc (v := (nI (k + 1))) (lv' := [(2, .int (nI (k + 1))), (0, .ref h), (1, .ref (h + 2 + 27 * tdR t 0 (0 + 1) 0))]) hx hb dX1_dropOldest_29 hl (k := 2) rfl (nI_inc _) (by decide) rfl (fun ls hl => ?_)
        refine lv_goto (tgt := 9) hx hb dX1_dropOldest_32 (by decide) ?_
        exact ih  (k + 1) M24 (by omega) (by omega) (by omega) hD25 hT26 hF27 _ _ hH hS _ (lv_sub hl [1, 2, 0] rfl)
  exact L9 7 1 M (by omega) (by omega) (by omega) hD hT hF _ _ hH hS _ (lv_sub hl [2, 1, 0] rfl)

set_option maxHeartbeats 4000000 in
set_option maxRecDepth 100000 in
theorem c_X1_keep (l : Launch) (G : zG) (B0 : Nat) (M : Mm) (h n : Nat) (hist : Nat → Wv) (hHs : Hs G h n hist M) (hn6 : n ≤ 6) (hhv : ∀ k, k < n → wOk (hist k)) (w : Nat) (r : Nat → Nat) (v : Wv) (hW : WlR G w r v M) (hr : rOk r) (hv : wOk v) (hBh : B0 ≤ h) (hd : w + 27 ≤ h ∨ h + 164 ≤ w) : zMet l yX1_keep cX1_keep 2 none 4 0 0 G B0 M [.ref h, .ref w] none (fun M1 => Hs G h (keepN n) (keepH hist n v) M1 ∧ ∀ q, (q < h ∨ h + 164 ≤ q) → M1 q = M q) := by
  refine z_met RX1 [(0, .ref h), (1, .ref w)] (by decide) rfl (Nat.le_of_ble_eq_true rfl) rfl ?_
  intro pg ev s m below meth cd ls hE hin hB0 hH hl
  have hx := hE.1
  have hb := hE.2.1
  obtain ⟨t, ht, hB, hL⟩ := hHs
  have hF : ∀ q, (q < h ∨ h + 164 ≤ q) → M q = M q := fun _ _ => rfl
  refine z_gen B0 (fun H locs hH hS => ?_) hH
  refine lv_aload_n hx hb dX1_keep_0 rfl (lv_at hl 0 rfl) ?_
  refine z_get (T := TX1) (v := .int (nI n)) hE hH hB.1 rfl uw_X1 1 (by decide) fkX1_18 rfl dX1_keep_1 ?_
  refine n_bipush hx hb 6 dX1_keep_4 (by decide) ?_
  refine n_cmp_lt (tgt := 13) hx hb (by omega) (by decide) dX1_keep_6 (by decide) (fun h1 => ?_) (fun h1 => ?_)
  · refine lv_aload_n hx hb dX1_keep_13 rfl (lv_at hl 0 rfl) ?_
    refine z_get (T := TX1) (v := .ref (h + 1)) hE hH hB.1 rfl uw_X1 0 (by decide) fkX1_11 rfl dX1_keep_14 ?_
    refine lv_aload_n hx hb dX1_keep_17 rfl (lv_at hl 0 rfl) ?_
    refine z_get (T := TX1) (v := .int (nI n)) hE hH hB.1 rfl uw_X1 1 (by decide) fkX1_18 rfl dX1_keep_18 ?_
    refine z_aald hE hH hB.2.1 rfl (k := n) (by omega) (by decide) dX1_keep_21 ?_
    refine lv_aload_n hx hb dX1_keep_22 rfl (lv_at hl 1 rfl) ?_
    have hti := ht.1 n (by omega)
    obtain ⟨vd, hvd0, rd, hrd, hWdst⟩ := hB.2.2 (t n) hti
    refine z_callV (rest := []) (st2 := []) hE hH hS hB0 hl ca_X4_copyFrom mkX1_25 (c_X4_copyFrom l G B0 M (h + 2 + 27 * t n) rd vd hWdst hrd hvd0 (by omega) w r v hW hr hv (by omega)) hWdst.1 rfl rfl rfl rfl rfl ⟨Nat.le_of_ble_eq_true rfl, Nat.le_of_ble_eq_true rfl⟩ (Nat.le_of_ble_eq_true rfl) ⟨Nat.le_refl _, Nat.le_refl _⟩ dX1_keep_23 (fun H locs M2 hH hp hS => ?_)
    obtain ⟨hWn, hGn⟩ := hp
    obtain ⟨hBn, hLn⟩ := keep_fin hB hL ht (by omega) hhv hrd hv hWn hGn (x := 0)
    have hFn := fun q (hq : q < h ∨ h + 164 ≤ q) => (hGn q (by omega)).trans (hF q hq)
    have hvn : ∀ k, k < n + 1 → wOk ((fun k => if k = n then v else hist k) k) := fun k hk => by
      show wOk (if k = n then v else hist k)
      split
      · exact hv
      · exact hhv k (by omega)
    refine lv_aload_n hx hb dX1_keep_26 rfl (lv_at hl 0 rfl) ?_
    refine lv_dup hx hb dX1_keep_27 rfl ?_
    refine z_get (T := TX1) (v := .int (nI n)) hE hH hBn.1 rfl uw_X1 1 (by decide) fkX1_18 rfl dX1_keep_28 ?_
    refine n_iconst hx hb 1 dX1_keep_31 (by decide) ?_
    refine n_iadd hx hb dX1_keep_32 ?_
    refine z_put (T := TX1) hE hH hS hBn.1 rfl uw_X1 tyX1 tyX1_ok nmX1 1 (by decide) fkX1_18 rfl rfl rfl (Nat.le_of_ble_eq_true rfl) (by omega) dX1_keep_33 (fun H locs M5 hH hS e3 o4 => ?_)
    have hB6 := HsB.setN (x := n + 1) hBn e3 o4
    have hL7 := HsL.kept hLn ht (by omega) hvn (fun q _ _ => o4 q (by omega))
    have hF8 := fun q hq => (o4 q (by omega)).trans (hFn q hq)
    exact z_vret hE hH hS ⟨⟨t, ht, by rw [show keepN n = n + 1 from if_neg (by omega)]; exact hB6, by rw [show keepN n = n + 1 from if_neg (by omega)]; exact hL7.to (fun k _ => (if_neg (show n ≠ 6 by omega)).symm)⟩, hF8⟩ dX1_keep_36
  · refine lv_aload_n hx hb dX1_keep_9 rfl (lv_at hl 0 rfl) ?_
    obtain rfl : n = 6 := by omega
    refine z_callV (rest := []) (st2 := []) hE hH hS hB0 hl ca_X1_dropOldest mkX1_22 (c_X1_dropOldest l G B0 M h t ht hB (by omega)) hB.1 rfl rfl rfl rfl rfl ⟨Nat.le_of_ble_eq_true rfl, Nat.le_of_ble_eq_true rfl⟩ (Nat.le_of_ble_eq_true rfl) ⟨Nat.le_refl _, Nat.le_refl _⟩ dX1_keep_10 (fun H locs MD hH hp hS => ?_)
    obtain ⟨hBd, hGd⟩ := hp
    have hLd : HsL G h 5 (tdT t) (fun k => hist (k + 1)) MD := fun k hk => by
      have hh := (hL (k + 1) (by omega)).kept (hhv _ (by omega)).1 (M1 := MD) (fun q a b => hGd q (by omega))
      unfold tdT
      rw [if_neg (by omega)]
      exact hh
    have hvd : ∀ k, k < 5 → wOk (hist (k + 1)) := fun k hk => hhv _ (by omega)
    have hFd : ∀ q, (q < h ∨ h + 164 ≤ q) → MD q = M q := fun q hq => hGd q (by omega)
    have hWd := WlR.kept hr hv.1 hW (fun q a b => hGd q (by omega))
    refine lv_aload_n hx hb dX1_keep_13 rfl (lv_at hl 0 rfl) ?_
    refine z_get (T := TX1) (v := .ref (h + 1)) hE hH hBd.1 rfl uw_X1 0 (by decide) fkX1_11 rfl dX1_keep_14 ?_
    refine lv_aload_n hx hb dX1_keep_17 rfl (lv_at hl 0 rfl) ?_
    refine z_get (T := TX1) (v := .int (nI 5)) hE hH hBd.1 rfl uw_X1 1 (by decide) fkX1_18 rfl dX1_keep_18 ?_
    refine z_aald hE hH hBd.2.1 rfl (k := 5) (by omega) (by decide) dX1_keep_21 ?_
    refine lv_aload_n hx hb dX1_keep_22 rfl (lv_at hl 1 rfl) ?_
    have hti := (tdT_ok ht).1 5 (by omega)
    obtain ⟨vd, hvd0, rd, hrd, hWdst⟩ := hBd.2.2 ((tdT t) 5) hti
    refine z_callV (rest := []) (st2 := []) hE hH hS hB0 hl ca_X4_copyFrom mkX1_25 (c_X4_copyFrom l G B0 MD (h + 2 + 27 * (tdT t) 5) rd vd hWdst hrd hvd0 (by omega) w r v hWd hr hv (by omega)) hWdst.1 rfl rfl rfl rfl rfl ⟨Nat.le_of_ble_eq_true rfl, Nat.le_of_ble_eq_true rfl⟩ (Nat.le_of_ble_eq_true rfl) ⟨Nat.le_refl _, Nat.le_refl _⟩ dX1_keep_23 (fun H locs M10 hH hp hS => ?_)
    obtain ⟨hWn, hGn⟩ := hp
    obtain ⟨hBn, hLn⟩ := keep_fin hBd hLd (tdT_ok ht) (by omega) hvd hrd hv hWn hGn (x := 0)
    have hFn := fun q (hq : q < h ∨ h + 164 ≤ q) => (hGn q (by omega)).trans (hFd q hq)
    have hvn : ∀ k, k < 5 + 1 → wOk ((fun k => if k = 5 then v else (fun k => hist (k + 1)) k) k) := fun k hk => by
      show wOk (if k = 5 then v else (fun k => hist (k + 1)) k)
      split
      · exact hv
      · exact hvd k (by omega)
    refine lv_aload_n hx hb dX1_keep_26 rfl (lv_at hl 0 rfl) ?_
    refine lv_dup hx hb dX1_keep_27 rfl ?_
    refine z_get (T := TX1) (v := .int (nI 5)) hE hH hBn.1 rfl uw_X1 1 (by decide) fkX1_18 rfl dX1_keep_28 ?_
    refine n_iconst hx hb 1 dX1_keep_31 (by decide) ?_
    refine n_iadd hx hb dX1_keep_32 ?_
    refine z_put (T := TX1) hE hH hS hBn.1 rfl uw_X1 tyX1 tyX1_ok nmX1 1 (by decide) fkX1_18 rfl rfl rfl (Nat.le_of_ble_eq_true rfl) (by omega) dX1_keep_33 (fun H locs M13 hH hS e11 o12 => ?_)
    have hB14 := HsB.setN (x := 5 + 1) hBn e11 o12
    have hL15 := HsL.kept hLn (tdT_ok ht) (by omega) hvn (fun q _ _ => o12 q (by omega))
    have hF16 := fun q hq => (o12 q (by omega)).trans (hFn q hq)
    exact z_vret hE hH hS ⟨⟨tdT t, tdT_ok ht, hB14, hL15.to (fun k hk => by unfold keepH; rw [if_pos rfl]; by_cases h5 : k = 5; (· rw [if_pos h5, if_neg (by omega)]); (· rw [if_neg h5, if_pos (by have : k < 5 + 1 := hk; omega)]))⟩, hF16⟩ dX1_keep_36

set_option maxHeartbeats 4000000 in
set_option maxRecDepth 100000 in
theorem c_X1_takeBack (l : Launch) (G : zG) (B0 : Nat) (M : Mm) (h n : Nat) (hist : Nat → Wv) (hHs : Hs G h n hist M) (hn0 : 0 < n) (hn6 : n ≤ 6) (hhv : ∀ k, k < n → wOk (hist k)) (w : Nat) (r : Nat → Nat) (v : Wv) (hW : WlR G w r v M) (hr : rOk r) (hn : v 0 ≤ 12) (hBh : B0 ≤ h) (hBw : B0 ≤ w) (hd : w + 27 ≤ h ∨ h + 164 ≤ w) : zMet l yX1_takeBack cX1_takeBack 2 none 4 0 0 G B0 M [.ref h, .ref w] none (fun M1 => Wl G w (hist (n - 1)) M1 ∧ Hs G h (n - 1) hist M1 ∧ ∀ q, q ≠ h → (q < w ∨ w + 27 ≤ q) → M1 q = M q) := by
  refine z_met RX1 [(0, .ref h), (1, .ref w)] (by decide) rfl (Nat.le_of_ble_eq_true rfl) rfl ?_
  intro pg ev s m below meth cd ls hE hin hB0 hH hl
  have hx := hE.1
  have hb := hE.2.1
  obtain ⟨t, ht, hB, hL⟩ := hHs
  refine z_gen B0 (fun H locs hH hS => ?_) hH
  refine lv_aload_n hx hb dX1_takeBack_0 rfl (lv_at hl 0 rfl) ?_
  refine z_get (T := TX1) (v := .int (nI n)) hE hH hB.1 rfl uw_X1 1 (by decide) fkX1_18 rfl dX1_takeBack_1 ?_
  refine n_if_le (tgt := 30) hx hb (by omega) dX1_takeBack_4 (by decide) (fun h1 => ?_) (fun h1 => ?_)
  · exfalso; omega
  · refine lv_aload_n hx hb dX1_takeBack_7 rfl (lv_at hl 0 rfl) ?_
    refine lv_dup hx hb dX1_takeBack_8 rfl ?_
    refine z_get (T := TX1) (v := .int (nI n)) hE hH hB.1 rfl uw_X1 1 (by decide) fkX1_18 rfl dX1_takeBack_9 ?_
    refine n_iconst hx hb 1 dX1_takeBack_12 (by decide) ?_
    refine n_isub hx hb (by omega) dX1_takeBack_13 ?_
    refine z_put (T := TX1) hE hH hS hB.1 rfl uw_X1 tyX1 tyX1_ok nmX1 1 (by decide) fkX1_18 rfl rfl rfl (Nat.le_of_ble_eq_true rfl) (by omega) dX1_takeBack_14 (fun H locs M4 hH hS e2 o3 => ?_)
    have hBn := HsB.setN (x := n - 1) hB e2 o3
    have hLn : HsL G h n t hist M4 := HsL.kept hL ht (by omega) hhv (fun q _ _ => o3 q (by omega))
    have hWn := WlR.kept hr hn hW (fun q a b => o3 q (by omega))
    have hFn : ∀ q, q ≠ h → (q < w ∨ w + 27 ≤ q) → M4 q = M q := fun q hq _ => o3 q hq
    refine lv_aload_n hx hb dX1_takeBack_17 rfl (lv_at hl 1 rfl) ?_
    refine lv_aload_n hx hb dX1_takeBack_18 rfl (lv_at hl 0 rfl) ?_
    refine z_get (T := TX1) (v := .ref (h + 1)) hE hH hBn.1 rfl uw_X1 0 (by decide) fkX1_11 rfl dX1_takeBack_19 ?_
    refine lv_aload_n hx hb dX1_takeBack_22 rfl (lv_at hl 0 rfl) ?_
    refine z_get (T := TX1) (v := .int (nI (n - 1))) hE hH hBn.1 rfl uw_X1 1 (by decide) fkX1_18 rfl dX1_takeBack_23 ?_
    refine z_aald hE hH hBn.2.1 rfl (k := n - 1) (by omega) (by decide) dX1_takeBack_26 ?_
    have hti := ht.1 (n - 1) (by omega)
    obtain ⟨rs, hrs, hWs⟩ := hLn (n - 1) (by omega)
    refine z_callV (rest := []) (st2 := []) hE hH hS hB0 hl ca_X4_copyFrom mkX1_25 (c_X4_copyFrom l G B0 M4 w r v hWn hr hn (by omega) (h + 2 + 27 * t (n - 1)) rs (hist (n - 1)) hWs hrs (hhv _ (by omega)) (by omega)) hWn.1 rfl rfl rfl rfl rfl ⟨Nat.le_of_ble_eq_true rfl, Nat.le_of_ble_eq_true rfl⟩ (Nat.le_of_ble_eq_true rfl) ⟨Nat.le_refl _, Nat.le_refl _⟩ dX1_takeBack_27 (fun H locs M5 hH hp hS => ?_)
    obtain ⟨hWe, hGe⟩ := hp
    have hBe := hBn.kept (fun q a b => hGe q (by omega))
    have hLe : HsL G h (n - 1) t hist _ := HsL.kept (fun k hk => hLn k (by omega)) ht (by omega) (fun k hk => hhv k (by omega)) (fun q a b => hGe q (by omega))
    exact z_vret hE hH hS ⟨⟨r, hr, hWe⟩, ⟨t, ht, hBe, hLe⟩, fun q h1 h2 => (hGe q h2).trans (hFn q h1 h2)⟩ dX1_takeBack_30
