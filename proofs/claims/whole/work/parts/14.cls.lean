/-! what the whole class is: the wall, the history (how many, which), what is saved (which, whether), the pad -/
abbrev Sg : Type := Wv × Nat × (Nat → Wv) × (Nat → Wv) × (Nat → Bool) × Nat × (Nat → Nat)
abbrev sV (σ : Sg) : Wv := σ.1
abbrev sN (σ : Sg) : Nat := σ.2.1
abbrev sH (σ : Sg) : Nat → Wv := σ.2.2.1
abbrev sS (σ : Sg) : Nat → Wv := σ.2.2.2.1
abbrev sD (σ : Sg) : Nat → Bool := σ.2.2.2.2.1
abbrev sL (σ : Sg) : Nat := σ.2.2.2.2.2.1
abbrev sP (σ : Sg) : Nat → Nat := σ.2.2.2.2.2.2
def wD (v : Wv) : Prop := wOk v ∧ v 1 ≤ 9999
def sOk (σ : Sg) : Prop := wD (sV σ) ∧ sN σ ≤ 6 ∧ (∀ k, k < sN σ → wD (sH σ k)) ∧ (∀ k, k < 2 → sD σ k = true → wD (sS σ k)) ∧ sL σ ≤ 60 ∧ ∀ i, i < sL σ → 33 ≤ sP σ i ∧ sP σ i ≤ 126
def SlM (G : zG) (b : Nat) (sl : Nat → Wv) (sd : Nat → Bool) (M : Mm) : Prop :=
  zRef G 2 M (b + 219) 2 (fun k => b + 220 + 27 * k) ∧ zArr G 3 M (b + 274) 2 (fun k => zb (sd k)) ∧ (∀ k, k < 2 → ∃ v, v 0 ≤ 12 ∧ Wl G (b + 220 + 27 * k) v M) ∧ ∀ k, k < 2 → sd k = true → Wl G (b + 220 + 27 * k) (sl k) M
def ObM (b : Nat) (M : Mm) : Prop := M b = some (.inr (5, [.ref (b + 1), .ref (b + 28), .ref (b + 55), .ref (b + 219), .ref (b + 274), .ref (b + 275)]))
def LtM (G : zG) (b : Nat) (M : Mm) : Prop := ∃ v, v 0 ≤ 12 ∧ Wl G (b + 28) v M
def PaM (G : zG) (b len : Nat) (ps : Nat → Nat) (M : Mm) : Prop := PdM G (b + 275) len ps M ∧ ∃ p xo yo uo, RdM G (b + 275 + 2) p xo yo uo M
def Cl (G : zG) (b : Nat) (σ : Sg) (M : Mm) : Prop :=
  ObM b M ∧ Wl G (b + 1) (sV σ) M ∧ LtM G b M ∧ Hs G (b + 55) (sN σ) (sH σ) M ∧ SlM G b (sS σ) (sD σ) M ∧ PaM G b (sL σ) (sP σ) M
theorem ObM.kept {b : Nat} {M M1 : Mm} (h : ObM b M) (o : M1 b = M b) : ObM b M1 := by unfold ObM at *; rw [o]; exact h
theorem LtM.kept {G : zG} {b : Nat} {M M1 : Mm} (h : LtM G b M) (o : ∀ q, b + 28 ≤ q → q < b + 55 → M1 q = M q) : LtM G b M1 := by
  obtain ⟨v, hv, hw⟩ := h
  exact ⟨v, hv, hw.kept hv (fun q a c => o q a (by omega))⟩
theorem SlM.kept {G : zG} {b : Nat} {sl : Nat → Wv} {sd : Nat → Bool} {M M1 : Mm} (h : SlM G b sl sd M) (hv : ∀ k, k < 2 → sd k = true → wOk (sl k)) (o : ∀ q, b + 219 ≤ q → q < b + 275 → M1 q = M q) : SlM G b sl sd M1 := by
  obtain ⟨h1, h2, h3, h4⟩ := h
  refine ⟨h1.kept (o _ (by omega) (by omega)), h2.kept (o _ (by omega) (by omega)), fun k hk => ?_, fun k hk hd => ?_⟩
  · obtain ⟨v, hv, hw⟩ := h3 k hk
    exact ⟨v, hv, hw.kept hv (fun q a c => o q (by omega) (by omega))⟩
  · exact (h4 k hk hd).kept (hv k hk hd).1 (fun q a c => o q (by omega) (by omega))
theorem PaM.kept {G : zG} {b len : Nat} {ps : Nat → Nat} {M M1 : Mm} (h : PaM G b len ps M) (o : ∀ q, b + 275 ≤ q → q < b + 278 → M1 q = M q) : PaM G b len ps M1 := by
  obtain ⟨h1, p, x, y, u, h2⟩ := h
  exact ⟨h1.kept (o _ (by omega) (by omega)) (o _ (by omega) (by omega)), p, x, y, u, by unfold RdM at *; rw [o _ (by omega) (by omega)]; exact h2⟩
theorem sOk.hw {σ : Sg} (h : sOk σ) : wOk (sV σ) := h.1.1
theorem sOk.hh {σ : Sg} (h : sOk σ) : ∀ k, k < sN σ → wOk (sH σ k) := fun k hk => (h.2.2.1 k hk).1
theorem sOk.hs {σ : Sg} (h : sOk σ) : ∀ k, k < 2 → sD σ k = true → wOk (sS σ k) := fun k hk hd => (h.2.2.2.1 k hk hd).1
theorem Cl.setW {G : zG} {b : Nat} {v : Wv} {hn : Nat} {hist sl : Nat → Wv} {sd : Nat → Bool} {len : Nat} {ps : Nat → Nat} {M M1 : Mm} {v2 : Wv} (h : Cl G b (v, hn, hist, sl, sd, len, ps) M) (hn6 : hn ≤ 6) (hh : ∀ k, k < hn → wOk (hist k)) (hs : ∀ k, k < 2 → sd k = true → wOk (sl k)) (hw : Wl G (b + 1) v2 M1) (o : ∀ q, (q < b + 1 ∨ b + 1 + 27 ≤ q) → M1 q = M q) : Cl G b (v2, hn, hist, sl, sd, len, ps) M1 :=
  ⟨h.1.kept (o _ (by omega)), hw, h.2.2.1.kept (fun q a c => o q (by omega)), h.2.2.2.1.kept hn6 hh (fun q a c => o q (by omega)), h.2.2.2.2.1.kept hs (fun q a c => o q (by omega)), h.2.2.2.2.2.kept (fun q a c => o q (by omega))⟩
theorem Cl.setH {G : zG} {b : Nat} {v : Wv} {hn : Nat} {hist sl : Nat → Wv} {sd : Nat → Bool} {len : Nat} {ps : Nat → Nat} {M M1 : Mm} {hn2 : Nat} {hist2 : Nat → Wv} (h : Cl G b (v, hn, hist, sl, sd, len, ps) M) (hv : wOk v) (hs : ∀ k, k < 2 → sd k = true → wOk (sl k)) (hH : Hs G (b + 55) hn2 hist2 M1) (o : ∀ q, (q < b + 55 ∨ b + 55 + 164 ≤ q) → M1 q = M q) : Cl G b (v, hn2, hist2, sl, sd, len, ps) M1 :=
  ⟨h.1.kept (o _ (by omega)), h.2.1.kept hv.1 (fun q a c => o q (by omega)), h.2.2.1.kept (fun q a c => o q (by omega)), hH, h.2.2.2.2.1.kept hs (fun q a c => o q (by omega)), h.2.2.2.2.2.kept (fun q a c => o q (by omega))⟩
theorem Cl.setL {G : zG} {b : Nat} {v : Wv} {hn : Nat} {hist sl : Nat → Wv} {sd : Nat → Bool} {len : Nat} {ps : Nat → Nat} {M M1 : Mm} (h : Cl G b (v, hn, hist, sl, sd, len, ps) M) (hv : wOk v) (hn6 : hn ≤ 6) (hh : ∀ k, k < hn → wOk (hist k)) (hs : ∀ k, k < 2 → sd k = true → wOk (sl k)) (hl : LtM G b M1) (o : ∀ q, (q < b + 28 ∨ b + 28 + 27 ≤ q) → M1 q = M q) : Cl G b (v, hn, hist, sl, sd, len, ps) M1 :=
  ⟨h.1.kept (o _ (by omega)), h.2.1.kept hv.1 (fun q a c => o q (by omega)), hl, h.2.2.2.1.kept hn6 hh (fun q a c => o q (by omega)), h.2.2.2.2.1.kept hs (fun q a c => o q (by omega)), h.2.2.2.2.2.kept (fun q a c => o q (by omega))⟩
theorem Cl.setP {G : zG} {b : Nat} {v : Wv} {hn : Nat} {hist sl : Nat → Wv} {sd : Nat → Bool} {len : Nat} {ps : Nat → Nat} {M M1 : Mm} {len2 : Nat} {ps2 : Nat → Nat} (h : Cl G b (v, hn, hist, sl, sd, len, ps) M) (hv : wOk v) (hn6 : hn ≤ 6) (hh : ∀ k, k < hn → wOk (hist k)) (hs : ∀ k, k < 2 → sd k = true → wOk (sl k)) (hp : PaM G b len2 ps2 M1) (o : ∀ q, (q < b + 275 ∨ b + 275 + 3 ≤ q) → M1 q = M q) : Cl G b (v, hn, hist, sl, sd, len2, ps2) M1 :=
  ⟨h.1.kept (o _ (by omega)), h.2.1.kept hv.1 (fun q a c => o q (by omega)), h.2.2.1.kept (fun q a c => o q (by omega)), h.2.2.2.1.kept hn6 hh (fun q a c => o q (by omega)), h.2.2.2.2.1.kept hs (fun q a c => o q (by omega)), hp⟩
def tn (x : Int32) : Nat := x.toNatClampNeg
theorem tn_nI {k : Nat} (h : k < 2 ^ 31) : tn (nI k) = k := nI_clamp h
def isP (v : Wv) (p : Int32) : Bool := wi p (nI 0) (nI (v 0) - nI 1)
theorem isP_nat {v : Wv} {p : Int32} (hv : v 0 ≤ 12) (h : isP v p = true) : ∃ j, p = nI j ∧ j < v 0 := by
  unfold isP at h
  cases hz : v 0 with
  | zero =>
    rw [hz] at h
    unfold wi at h
    simp only [Bool.and_eq_true, decide_eq_true_eq] at h
    have e : (nI 0 - nI 1 : Int32).toInt = -1 := by decide
    have h1 := Int32.le_iff_toInt_le.mp h.1
    have h2 := Int32.le_iff_toInt_le.mp h.2
    rw [e] at h2
    rw [nI_toInt (by decide)] at h1
    omega
  | succ n =>
    rw [hz, nI_down] at h
    obtain ⟨j, rfl, -, hj⟩ := wi_nat (by decide) (by omega) h
    exact ⟨j, rfl, by omega⟩
/-- what a change does beside what it is for: the history has one more -/
def chg (σ : Sg) (v : Wv) : Sg := (v, keepN (sN σ), keepH (sH σ) (sN σ) (sV σ), sS σ, sD σ, sL σ, sP σ)
def fPaste (σ : Sg) (x y wd ht p q : Int32) : Int32 × Sg :=
  if isC x y = false then (-1, σ) else if wi wd (nI 1) (nI (10 - tn x)) = false then (-1, σ) else if wi ht (nI 1) (nI (6 - tn y)) = false then (-1, σ) else if wi p (nI 1) (nI 999) = false then (-2, σ) else if wi q (nI 1) (nI 99) = false then (-2, σ) else if 12 ≤ sV σ 0 then (-4, σ) else (nI (sV σ 0), chg σ (pasteV (sV σ) (tn x) (tn y) (tn wd) (tn ht) (tn p) (tn q)))
def fTear (σ : Sg) (p : Int32) : Int32 × Sg := if isP (sV σ) p = false then (-1, σ) else (nI (seenCnt (sV σ) (tn p)), chg σ (tearV (sV σ) (tn p)))
def fCoat (σ : Sg) (p c : Int32) : Int32 × Sg := if isP (sV σ) p = false then (-1, σ) else if wi c (nI 1) (nI 99) = false then (-2, σ) else (nI (coatN (sV σ) (tn p) (tn c)), chg σ (coatV (sV σ) (tn p) (tn c) 60))
def fScrape (σ : Sg) (x y c : Int32) : Int32 × Sg := if isC x y = false then (-1, σ) else if wi c (nI 1) (nI 300) = false then (-2, σ) else if prc (sV σ) (-6) (tn y * 10 + tn x) = none then (-5, σ) else (nI (scrN (tn y * 10 + tn x) (sV σ 0) (sV σ) (tn c)), chg σ (scrV (tn y * 10 + tn x) (sV σ 0) (sV σ) (tn c)))
def fSun (σ : Sg) (x c : Int32) : Int32 × Sg := if wi x (nI 0) (nI 9) = false then (-1, σ) else if wi c (nI 0) (nI 9) = false then (-2, σ) else (nI (sv (sV σ) (tn x)), chg σ (vset (sV σ) (4 + tn x) (tn c)))
def fBuy (σ : Sg) (x y c : Int32) : Int32 × Sg := if isC x y = false then (-1, σ) else if wi c (nI 0) (nI 999) = false then (-2, σ) else (prc (sV σ) (-6) (tn y * 10 + tn x)).elim (-5, σ) (fun p => if tn c < p then (-5, σ) else (nI p, chg σ (sellV (sV σ) (tn y * 10 + tn x) (tn c))))
def fPass (σ : Sg) (d : Int32) : Int32 × Sg := if wi d (nI 1) (nI 100) = false then (-2, σ) else if 9999 < sV σ 1 + tn d then (-4, σ) else (nI (fadS (vset (sV σ) 1 (sV σ 1 + tn d)) (tn d)), chg σ (fadA (vset (sV σ) 1 (sV σ 1 + tn d)) (tn d) 60))
def fSunOf (σ : Sg) (x : Int32) : Int32 := if wi x (nI 0) (nI 9) = false then -1 else nI (sv (sV σ) (tn x))

theorem wOk.setDay {v : Wv} (h : wOk v) {x : Nat} (hx : x ≤ 10500) : wOk (vset v 1 x) := by
  obtain ⟨h1, h2, h3, h4⟩ := h
  have hz : (vset v 1 x) 0 = v 0 := fset_ne v x (by omega)
  have hp : ∀ j, pv (vset v 1 x) j = pv v j := fun j => funext fun k => pv_setS v x (by omega)
  have hc : ∀ j, cv (vset v 1 x) j = cv v j := fun j => funext fun k => cv_setS v x (by omega)
  refine ⟨by rw [hz]; exact h1, by rw [show (vset v 1 x) 1 = x from fset_self v 1 x]; exact hx, fun u hu => by rw [show sv (vset v 1 x) u = sv v u from fset_ne v x (by omega)]; exact h3 u hu, fun j hj => ?_⟩
  rw [hp, hc]
  exact h4 j (by rw [hz] at hj; exact hj)

set_option maxHeartbeats 4000000 in
set_option maxRecDepth 100000 in
theorem c_X5_isPoster (l : Launch) (G : zG) (B0 : Nat) (M : Mm) (σ : Sg) (b : Nat) (hC : Cl G b σ M) (p : Int32) : zMet l yX5_isPoster cX5_isPoster 2 (some .boolean) 1 0 0 G B0 M [.ref b, .int p] (some (.int (zb (isP (sV σ) p)))) (fun M1 => M = M1) := by
  refine z_met RX5 [(0, .ref b), (1, .int p)] (by decide) rfl (Nat.le_of_ble_eq_true rfl) rfl ?_
  intro pg ev s m below meth cd ls hE hin hB0 hH hl
  have hx := hE.1
  have hb := hE.2.1
  obtain ⟨r, hr, hW⟩ := hC.2.1
  refine z_gen B0 (fun H locs hH hS => ?_) hH
  refine lv_iload_n hx hb dX5_isPoster_0 rfl (lv_at hl 1 rfl) ?_
  refine n_iconst hx hb 0 dX5_isPoster_1 (by decide) ?_
  refine lv_aload_n hx hb dX5_isPoster_2 rfl (lv_at hl 0 rfl) ?_
  refine z_get (T := TX5) (v := .ref (b + 1)) hE hH hC.1 rfl uw_X5 0 (by decide) fkX5_12 rfl dX5_isPoster_3 ?_
  refine z_get (T := TX4) (v := .int (nI (σ.1 0))) hE hH hW.1 rfl uw_X4 1 (by decide) fkX5_49 rfl dX5_isPoster_6 ?_
  refine n_iconst hx hb 1 dX5_isPoster_9 (by decide) ?_
  refine lv_isub hx hb dX5_isPoster_10 ?_
  refine z_callS (rest := []) (st2 := [.int (zb (wi p (nI 0) (nI (σ.1 0) - nI 1)))]) hE hH hS hB0 hl ca_X5_isWithin mkX5_45 (c_X5_isWithin l G B0 M p (nI 0) (nI (σ.1 0) - nI 1)) rfl rfl rfl ⟨Nat.le_of_ble_eq_true rfl, Nat.le_of_ble_eq_true rfl⟩ (Nat.le_of_ble_eq_true rfl) ⟨Nat.le_refl _, Nat.le_refl _⟩ dX5_isPoster_11 (fun H locs M1 hH hp hS => ?_)
  subst hp
  exact z_zret hE hH hS rfl rfl dX5_isPoster_14

set_option maxHeartbeats 4000000 in
set_option maxRecDepth 100000 in
theorem c_X5_paste (l : Launch) (G : zG) (B0 : Nat) (M : Mm) (σ : Sg) (b : Nat) (hC : Cl G b σ M) (hok : sOk σ) (hBb : B0 ≤ b) (x y wd ht p q : Int32) : zMet l yX5_paste cX5_paste 7 (some .int) 5 0 0 G B0 M [.ref b, .int x, .int y, .int wd, .int ht, .int p, .int q] (some (.int (fPaste σ x y wd ht p q).1)) (fun M1 => Cl G b (fPaste σ x y wd ht p q).2 M1 ∧ ∀ q, (q < b ∨ b + 278 ≤ q) → M1 q = M q) := by
  refine z_met RX5 [(0, .ref b), (1, .int x), (2, .int y), (3, .int wd), (4, .int ht), (5, .int p), (6, .int q)] (by decide) rfl (Nat.le_of_ble_eq_true rfl) rfl ?_
  intro pg ev s m below meth cd ls hE hin hB0 hH hl
  have hx := hE.1
  have hb := hE.2.1
  have hv : wOk σ.1 := hok.hw
  have hn : σ.1 0 ≤ 12 := hv.1
  have hdy : σ.1 1 ≤ 9999 := hok.1.2
  have hn6 : σ.2.1 ≤ 6 := hok.2.1
  have hhv : ∀ k, k < σ.2.1 → wOk (σ.2.2.1 k) := hok.hh
  have hsv : ∀ k, k < 2 → σ.2.2.2.2.1 k = true → wOk (σ.2.2.2.1 k) := hok.hs
  have hln : σ.2.2.2.2.2.1 ≤ 60 := hok.2.2.2.2.1
  obtain ⟨r, hr, hW⟩ := hC.2.1
  have hF : ∀ q, (q < b ∨ b + 278 ≤ q) → M q = M q := fun _ _ => rfl
  refine z_gen B0 (fun H locs hH hS => ?_) hH
  refine lv_iload_n hx hb dX5_paste_0 rfl (lv_at hl 1 rfl) ?_
  refine lv_iload_n hx hb dX5_paste_1 rfl (lv_at hl 2 rfl) ?_
  refine z_callS (rest := []) (st2 := [.int (zb (isC x y))]) hE hH hS hB0 hl ca_X5_isCell mkX5_41 (c_X5_isCell l G B0 M x y) rfl rfl rfl ⟨Nat.le_of_ble_eq_true rfl, Nat.le_of_ble_eq_true rfl⟩ (Nat.le_of_ble_eq_true rfl) ⟨Nat.le_refl _, Nat.le_refl _⟩ dX5_paste_2 (fun H locs M1 hH hp hS => ?_)
  subst hp
  refine b_if_eq (tgt := 33) hx hb dX5_paste_5 (by decide) (fun h2 => ?_) (fun h2 => ?_)
  · refine lv_iconst (v := (-1)) hx hb dX5_paste_33 (by decide) ?_
    have hf : fPaste σ x y wd ht p q = ((-1), (σ.1, σ.2.1, σ.2.2.1, σ.2.2.2.1, σ.2.2.2.2.1, σ.2.2.2.2.2.1, σ.2.2.2.2.2.2)) := by
      simp [fPaste, chg, sV, sN, sH, sS, sD, sL, sP, h2]
      try omega
    rw [hf]
    exact z_iret hE hH hS rfl ⟨hC, hF⟩ dX5_paste_34
  · obtain ⟨x', y', rfl, rfl, x9, y9⟩ := isC_nat h2
    have tx3 : tn (nI x') = x' := tn_nI (by omega)
    have tx4 : tn (nI y') = y' := tn_nI (by omega)
    refine lv_iload_n hx hb dX5_paste_8 rfl (lv_at hl 3 rfl) ?_
    refine n_iconst hx hb 1 dX5_paste_9 (by decide) ?_
    refine n_bipush hx hb 10 dX5_paste_10 (by decide) ?_
    refine lv_iload_n hx hb dX5_paste_12 rfl (lv_at hl 1 rfl) ?_
    refine n_isub hx hb (by omega) dX5_paste_13 ?_
    refine z_callS (rest := []) (st2 := [.int (zb (wi wd (nI 1) (nI (10 - x'))))]) hE hH hS hB0 hl ca_X5_isWithin mkX5_45 (c_X5_isWithin l G B0 M wd (nI 1) (nI (10 - x'))) rfl rfl rfl ⟨Nat.le_of_ble_eq_true rfl, Nat.le_of_ble_eq_true rfl⟩ (Nat.le_of_ble_eq_true rfl) ⟨Nat.le_refl _, Nat.le_refl _⟩ dX5_paste_14 (fun H locs M1 hH hp hS => ?_)
    subst hp
    refine b_if_eq (tgt := 33) hx hb dX5_paste_17 (by decide) (fun h6 => ?_) (fun h6 => ?_)
    · refine lv_iconst (v := (-1)) hx hb dX5_paste_33 (by decide) ?_
      have hf : fPaste σ (nI x') (nI y') wd ht p q = ((-1), (σ.1, σ.2.1, σ.2.2.1, σ.2.2.2.1, σ.2.2.2.2.1, σ.2.2.2.2.2.1, σ.2.2.2.2.2.2)) := by
        simp [fPaste, chg, sV, sN, sH, sS, sD, sL, sP, h2, tx3, tx4, h6]
        try omega
      rw [hf]
      exact z_iret hE hH hS rfl ⟨hC, hF⟩ dX5_paste_34
    · obtain ⟨wd', rfl, wd1, wd2⟩ := wi_nat (by decide) (by omega) h6
      have tx7 : tn (nI wd') = wd' := tn_nI (by omega)
      refine lv_iload hx hb dX5_paste_20 (lv_at hl 4 rfl) ?_
      refine n_iconst hx hb 1 dX5_paste_22 (by decide) ?_
      refine n_bipush hx hb 6 dX5_paste_23 (by decide) ?_
      refine lv_iload_n hx hb dX5_paste_25 rfl (lv_at hl 2 rfl) ?_
      refine n_isub hx hb (by omega) dX5_paste_26 ?_
      refine z_callS (rest := []) (st2 := [.int (zb (wi ht (nI 1) (nI (6 - y'))))]) hE hH hS hB0 hl ca_X5_isWithin mkX5_45 (c_X5_isWithin l G B0 M ht (nI 1) (nI (6 - y'))) rfl rfl rfl ⟨Nat.le_of_ble_eq_true rfl, Nat.le_of_ble_eq_true rfl⟩ (Nat.le_of_ble_eq_true rfl) ⟨Nat.le_refl _, Nat.le_refl _⟩ dX5_paste_27 (fun H locs M1 hH hp hS => ?_)
      subst hp
      refine b_if_ne (tgt := 35) hx hb dX5_paste_30 (by decide) (fun h9 => ?_) (fun h9 => ?_)
      · obtain ⟨ht', rfl, ht1, ht2⟩ := wi_nat (by decide) (by omega) h9
        have tx10 : tn (nI ht') = ht' := tn_nI (by omega)
        refine lv_iload hx hb dX5_paste_35 (lv_at hl 5 rfl) ?_
        refine n_iconst hx hb 1 dX5_paste_37 (by decide) ?_
        refine n_sipush hx hb 999 dX5_paste_38 (by decide) ?_
        refine z_callS (rest := []) (st2 := [.int (zb (wi p (nI 1) (nI 999)))]) hE hH hS hB0 hl ca_X5_isWithin mkX5_45 (c_X5_isWithin l G B0 M p (nI 1) (nI 999)) rfl rfl rfl ⟨Nat.le_of_ble_eq_true rfl, Nat.le_of_ble_eq_true rfl⟩ (Nat.le_of_ble_eq_true rfl) ⟨Nat.le_refl _, Nat.le_refl _⟩ dX5_paste_41 (fun H locs M1 hH hp hS => ?_)
        subst hp
        refine b_if_eq (tgt := 58) hx hb dX5_paste_44 (by decide) (fun h12 => ?_) (fun h12 => ?_)
        · refine lv_bipush (v := (-2)) hx hb dX5_paste_58 (by decide) ?_
          have hf : fPaste σ (nI x') (nI y') (nI wd') (nI ht') p q = ((-2), (σ.1, σ.2.1, σ.2.2.1, σ.2.2.2.1, σ.2.2.2.2.1, σ.2.2.2.2.2.1, σ.2.2.2.2.2.2)) := by
            simp [fPaste, chg, sV, sN, sH, sS, sD, sL, sP, h2, tx3, tx4, h6, tx7, h9, tx10, h12]
            try omega
          rw [hf]
          exact z_iret hE hH hS rfl ⟨hC, hF⟩ dX5_paste_60
        · obtain ⟨p', rfl, p1, p2⟩ := wi_nat (by decide) (by decide) h12
          have tx13 : tn (nI p') = p' := tn_nI (by omega)
          refine lv_iload hx hb dX5_paste_47 (lv_at hl 6 rfl) ?_
          refine n_iconst hx hb 1 dX5_paste_49 (by decide) ?_
          refine n_bipush hx hb 99 dX5_paste_50 (by decide) ?_
          refine z_callS (rest := []) (st2 := [.int (zb (wi q (nI 1) (nI 99)))]) hE hH hS hB0 hl ca_X5_isWithin mkX5_45 (c_X5_isWithin l G B0 M q (nI 1) (nI 99)) rfl rfl rfl ⟨Nat.le_of_ble_eq_true rfl, Nat.le_of_ble_eq_true rfl⟩ (Nat.le_of_ble_eq_true rfl) ⟨Nat.le_refl _, Nat.le_refl _⟩ dX5_paste_52 (fun H locs M1 hH hp hS => ?_)
          subst hp
          refine b_if_ne (tgt := 61) hx hb dX5_paste_55 (by decide) (fun h15 => ?_) (fun h15 => ?_)
          · obtain ⟨q', rfl, q1, q2⟩ := wi_nat (by decide) (by decide) h15
            have tx16 : tn (nI q') = q' := tn_nI (by omega)
            refine lv_aload_n hx hb dX5_paste_61 rfl (lv_at hl 0 rfl) ?_
            refine z_get (T := TX5) (v := .ref (b + 1)) hE hH hC.1 rfl uw_X5 0 (by decide) fkX5_12 rfl dX5_paste_62 ?_
            refine z_get (T := TX4) (v := .int (nI (σ.1 0))) hE hH hW.1 rfl uw_X4 1 (by decide) fkX5_49 rfl dX5_paste_65 ?_
            refine n_bipush hx hb 12 dX5_paste_68 (by decide) ?_
            refine n_cmp_lt (tgt := 76) hx hb (by omega) (by decide) dX5_paste_70 (by decide) (fun h17 => ?_) (fun h17 => ?_)
            · refine lv_aload_n hx hb dX5_paste_76 rfl (lv_at hl 0 rfl) ?_
              refine z_get (T := TX5) (v := .ref (b + 55)) hE hH hC.1 rfl uw_X5 2 (by decide) fkX5_22 rfl dX5_paste_77 ?_
              refine lv_aload_n hx hb dX5_paste_80 rfl (lv_at hl 0 rfl) ?_
              refine z_get (T := TX5) (v := .ref (b + 1)) hE hH hC.1 rfl uw_X5 0 (by decide) fkX5_12 rfl dX5_paste_81 ?_
              obtain ⟨tt, htt, hBt, hLt⟩ := id hC.2.2.2.1
              refine z_callV (rest := []) (st2 := []) hE hH hS hB0 hl ca_X1_keep mkX5_53 (c_X1_keep l G B0 M (b + 55) σ.2.1 σ.2.2.1 hC.2.2.2.1 hn6 hhv (b + 1) r σ.1 hW hr hv (by omega) (by omega)) hBt.1 rfl rfl rfl rfl rfl ⟨Nat.le_of_ble_eq_true rfl, Nat.le_of_ble_eq_true rfl⟩ (Nat.le_of_ble_eq_true rfl) ⟨Nat.le_refl _, Nat.le_refl _⟩ dX5_paste_84 (fun H locs M19 hH hp hS => ?_)
              obtain ⟨hK20, hG21⟩ := hp
              have hC22 : Cl G b (σ.1, keepN σ.2.1, keepH σ.2.2.1 σ.2.1 σ.1, σ.2.2.2.1, σ.2.2.2.2.1, σ.2.2.2.2.2.1, σ.2.2.2.2.2.2) M19 := Cl.setH (v := σ.1) (hn := σ.2.1) (hist := σ.2.2.1) (sl := σ.2.2.2.1) (sd := σ.2.2.2.2.1) (len := σ.2.2.2.2.2.1) (ps := σ.2.2.2.2.2.2) hC hv hsv hK20 hG21
              have hW23 := WlR.kept hr hv.1 hW (fun q q1 q2 => hG21 q (by omega))
              have hF24 := fun q hq => (hG21 q (by omega)).trans (hF q hq)
              have hn25 := keepN_le hn6
              have hh26 := keepH_ok hn6 hhv hv
              refine lv_aload_n hx hb dX5_paste_87 rfl (lv_at hl 0 rfl) ?_
              refine z_get (T := TX5) (v := .ref (b + 1)) hE hH hC22.1 rfl uw_X5 0 (by decide) fkX5_12 rfl dX5_paste_88 ?_
              refine lv_iload_n hx hb dX5_paste_91 rfl (lv_at hl 1 rfl) ?_
              refine lv_iload_n hx hb dX5_paste_92 rfl (lv_at hl 2 rfl) ?_
              refine lv_iload_n hx hb dX5_paste_93 rfl (lv_at hl 3 rfl) ?_
              refine lv_iload hx hb dX5_paste_94 (lv_at hl 4 rfl) ?_
              refine lv_iload hx hb dX5_paste_96 (lv_at hl 5 rfl) ?_
              refine lv_iload hx hb dX5_paste_98 (lv_at hl 6 rfl) ?_
              refine z_callV (rest := []) (st2 := [.int (nI (σ.1 0))]) hE hH hS hB0 hl ca_X4_addOnTop mkX5_57 (c_X4_addOnTop l G B0 M19 (b + 1) r σ.1 hW23 hr hv (by omega) (by omega) x' y' wd' ht' p' q' (by omega) (by omega)) hW23.1 rfl rfl rfl rfl rfl ⟨Nat.le_of_ble_eq_true rfl, Nat.le_of_ble_eq_true rfl⟩ (Nat.le_of_ble_eq_true rfl) ⟨Nat.le_refl _, Nat.le_refl _⟩ dX5_paste_100 (fun H locs M27 hH hp hS => ?_)
              obtain ⟨hW28, hG29⟩ := hp
              have hC30 : Cl G b (pasteV σ.1 x' y' wd' ht' p' q', keepN σ.2.1, keepH σ.2.2.1 σ.2.1 σ.1, σ.2.2.2.1, σ.2.2.2.2.1, σ.2.2.2.2.2.1, σ.2.2.2.2.2.2) M27 := Cl.setW (v := σ.1) (hn := keepN σ.2.1) (hist := keepH σ.2.2.1 σ.2.1 σ.1) (sl := σ.2.2.2.1) (sd := σ.2.2.2.2.1) (len := σ.2.2.2.2.2.1) (ps := σ.2.2.2.2.2.2) hC22 hn25 hh26 hsv ⟨r, hr, hW28⟩ hG29
              have hF31 := fun q hq => (hG29 q (by omega)).trans (hF24 q hq)
              have hf : fPaste σ (nI x') (nI y') (nI wd') (nI ht') (nI p') (nI q') = ((nI (σ.1 0)), (pasteV σ.1 x' y' wd' ht' p' q', keepN σ.2.1, keepH σ.2.2.1 σ.2.1 σ.1, σ.2.2.2.1, σ.2.2.2.2.1, σ.2.2.2.2.2.1, σ.2.2.2.2.2.2)) := by
                simp [fPaste, chg, sV, sN, sH, sS, sD, sL, sP, h2, tx3, tx4, h6, tx7, h9, tx10, h12, tx13, h15, tx16, h17]
                try omega
              rw [hf]
              exact z_iret hE hH hS rfl ⟨hC30, hF31⟩ dX5_paste_103
            · refine lv_bipush (v := (-4)) hx hb dX5_paste_73 (by decide) ?_
              have hf : fPaste σ (nI x') (nI y') (nI wd') (nI ht') (nI p') (nI q') = ((-4), (σ.1, σ.2.1, σ.2.2.1, σ.2.2.2.1, σ.2.2.2.2.1, σ.2.2.2.2.2.1, σ.2.2.2.2.2.2)) := by
                simp [fPaste, chg, sV, sN, sH, sS, sD, sL, sP, h2, tx3, tx4, h6, tx7, h9, tx10, h12, tx13, h15, tx16, h17]
                try omega
              rw [hf]
              exact z_iret hE hH hS rfl ⟨hC, hF⟩ dX5_paste_75
          · refine lv_bipush (v := (-2)) hx hb dX5_paste_58 (by decide) ?_
            have hf : fPaste σ (nI x') (nI y') (nI wd') (nI ht') (nI p') q = ((-2), (σ.1, σ.2.1, σ.2.2.1, σ.2.2.2.1, σ.2.2.2.2.1, σ.2.2.2.2.2.1, σ.2.2.2.2.2.2)) := by
              simp [fPaste, chg, sV, sN, sH, sS, sD, sL, sP, h2, tx3, tx4, h6, tx7, h9, tx10, h12, tx13, h15]
              try omega
            rw [hf]
            exact z_iret hE hH hS rfl ⟨hC, hF⟩ dX5_paste_60
      · refine lv_iconst (v := (-1)) hx hb dX5_paste_33 (by decide) ?_
        have hf : fPaste σ (nI x') (nI y') (nI wd') ht p q = ((-1), (σ.1, σ.2.1, σ.2.2.1, σ.2.2.2.1, σ.2.2.2.2.1, σ.2.2.2.2.2.1, σ.2.2.2.2.2.2)) := by
          simp [fPaste, chg, sV, sN, sH, sS, sD, sL, sP, h2, tx3, tx4, h6, tx7, h9]
          try omega
        rw [hf]
        exact z_iret hE hH hS rfl ⟨hC, hF⟩ dX5_paste_34

set_option maxHeartbeats 4000000 in
set_option maxRecDepth 100000 in
theorem c_X5_tear (l : Launch) (G : zG) (B0 : Nat) (M : Mm) (σ : Sg) (b : Nat) (hC : Cl G b σ M) (hok : sOk σ) (hBb : B0 ≤ b) (p : Int32) : zMet l yX5_tear cX5_tear 3 (some .int) 5 0 0 G B0 M [.ref b, .int p] (some (.int (fTear σ p).1)) (fun M1 => Cl G b (fTear σ p).2 M1 ∧ ∀ q, (q < b ∨ b + 278 ≤ q) → M1 q = M q) := by
  refine z_met RX5 [(0, .ref b), (1, .int p)] (by decide) rfl (Nat.le_of_ble_eq_true rfl) rfl ?_
  intro pg ev s m below meth cd ls hE hin hB0 hH hl
  have hx := hE.1
  have hb := hE.2.1
  have hv : wOk σ.1 := hok.hw
  have hn : σ.1 0 ≤ 12 := hv.1
  have hdy : σ.1 1 ≤ 9999 := hok.1.2
  have hn6 : σ.2.1 ≤ 6 := hok.2.1
  have hhv : ∀ k, k < σ.2.1 → wOk (σ.2.2.1 k) := hok.hh
  have hsv : ∀ k, k < 2 → σ.2.2.2.2.1 k = true → wOk (σ.2.2.2.1 k) := hok.hs
  have hln : σ.2.2.2.2.2.1 ≤ 60 := hok.2.2.2.2.1
  obtain ⟨r, hr, hW⟩ := hC.2.1
  have hF : ∀ q, (q < b ∨ b + 278 ≤ q) → M q = M q := fun _ _ => rfl
  refine z_gen B0 (fun H locs hH hS => ?_) hH
  refine lv_aload_n hx hb dX5_tear_0 rfl (lv_at hl 0 rfl) ?_
  refine lv_iload_n hx hb dX5_tear_1 rfl (lv_at hl 1 rfl) ?_
  refine z_callV (rest := []) (st2 := [.int (zb (isP σ.1 p))]) hE hH hS hB0 hl ca_X5_isPoster mkX5_61 (c_X5_isPoster l G B0 M σ b hC p) hC.1 rfl rfl rfl rfl rfl ⟨Nat.le_of_ble_eq_true rfl, Nat.le_of_ble_eq_true rfl⟩ (Nat.le_of_ble_eq_true rfl) ⟨Nat.le_refl _, Nat.le_refl _⟩ dX5_tear_2 (fun H locs M1 hH hp hS => ?_)
  subst hp
  refine b_if_ne (tgt := 10) hx hb dX5_tear_5 (by decide) (fun h2 => ?_) (fun h2 => ?_)
  · obtain ⟨p', rfl, p2⟩ := isP_nat hn h2
    have tx3 : tn (nI p') = p' := tn_nI (by omega)
    refine lv_aload_n hx hb dX5_tear_10 rfl (lv_at hl 0 rfl) ?_
    refine z_get (T := TX5) (v := .ref (b + 55)) hE hH hC.1 rfl uw_X5 2 (by decide) fkX5_22 rfl dX5_tear_11 ?_
    refine lv_aload_n hx hb dX5_tear_14 rfl (lv_at hl 0 rfl) ?_
    refine z_get (T := TX5) (v := .ref (b + 1)) hE hH hC.1 rfl uw_X5 0 (by decide) fkX5_12 rfl dX5_tear_15 ?_
    obtain ⟨tt, htt, hBt, hLt⟩ := id hC.2.2.2.1
    refine z_callV (rest := []) (st2 := []) hE hH hS hB0 hl ca_X1_keep mkX5_53 (c_X1_keep l G B0 M (b + 55) σ.2.1 σ.2.2.1 hC.2.2.2.1 hn6 hhv (b + 1) r σ.1 hW hr hv (by omega) (by omega)) hBt.1 rfl rfl rfl rfl rfl ⟨Nat.le_of_ble_eq_true rfl, Nat.le_of_ble_eq_true rfl⟩ (Nat.le_of_ble_eq_true rfl) ⟨Nat.le_refl _, Nat.le_refl _⟩ dX5_tear_18 (fun H locs M5 hH hp hS => ?_)
    obtain ⟨hK6, hG7⟩ := hp
    have hC8 : Cl G b (σ.1, keepN σ.2.1, keepH σ.2.2.1 σ.2.1 σ.1, σ.2.2.2.1, σ.2.2.2.2.1, σ.2.2.2.2.2.1, σ.2.2.2.2.2.2) M5 := Cl.setH (v := σ.1) (hn := σ.2.1) (hist := σ.2.2.1) (sl := σ.2.2.2.1) (sd := σ.2.2.2.2.1) (len := σ.2.2.2.2.2.1) (ps := σ.2.2.2.2.2.2) hC hv hsv hK6 hG7
    have hW9 := WlR.kept hr hv.1 hW (fun q q1 q2 => hG7 q (by omega))
    have hF10 := fun q hq => (hG7 q (by omega)).trans (hF q hq)
    have hn11 := keepN_le hn6
    have hh12 := keepH_ok hn6 hhv hv
    refine lv_aload_n hx hb dX5_tear_21 rfl (lv_at hl 0 rfl) ?_
    refine z_get (T := TX5) (v := .ref (b + 1)) hE hH hC8.1 rfl uw_X5 0 (by decide) fkX5_12 rfl dX5_tear_22 ?_
    refine lv_iload_n hx hb dX5_tear_25 rfl (lv_at hl 1 rfl) ?_
    refine z_callV (rest := []) (st2 := [.int (nI (seenCnt σ.1 p'))]) hE hH hS hB0 hl ca_X4_seenCellsOf mkX5_65 (c_X4_seenCellsOf l G B0 M5 (b + 1) r σ.1 hW9 hr hv p' (by omega)) hW9.1 rfl rfl rfl rfl rfl ⟨Nat.le_of_ble_eq_true rfl, Nat.le_of_ble_eq_true rfl⟩ (Nat.le_of_ble_eq_true rfl) ⟨Nat.le_refl _, Nat.le_refl _⟩ dX5_tear_26 (fun H locs M1 hH hp hS => ?_)
    subst hp
    have q13 := seenCnt_le σ.1 p'
    refine lv_istore_n (lv' := [(2, .int (nI (seenCnt σ.1 p'))), (0, .ref b), (1, .int (nI p'))]) hx hb dX5_tear_29 rfl hl (by decide) rfl (fun ls hl => ?_)
    refine lv_aload_n hx hb dX5_tear_30 rfl (lv_at hl 1 rfl) ?_
    refine z_get (T := TX5) (v := .ref (b + 1)) hE hH hC8.1 rfl uw_X5 0 (by decide) fkX5_12 rfl dX5_tear_31 ?_
    refine lv_iload_n hx hb dX5_tear_34 rfl (lv_at hl 2 rfl) ?_
    refine z_callV (rest := []) (st2 := []) hE hH hS hB0 hl ca_X4_takeDown mkX5_69 (c_X4_takeDown l G B0 M5 (b + 1) r σ.1 hW9 hr hv (by omega) p' (by omega)) hW9.1 rfl rfl rfl rfl rfl ⟨Nat.le_of_ble_eq_true rfl, Nat.le_of_ble_eq_true rfl⟩ (Nat.le_of_ble_eq_true rfl) ⟨Nat.le_refl _, Nat.le_refl _⟩ dX5_tear_35 (fun H locs M14 hH hp hS => ?_)
    obtain ⟨hW15, hG16⟩ := hp
    have hC17 : Cl G b (tearV σ.1 p', keepN σ.2.1, keepH σ.2.2.1 σ.2.1 σ.1, σ.2.2.2.1, σ.2.2.2.2.1, σ.2.2.2.2.2.1, σ.2.2.2.2.2.2) M14 := Cl.setW (v := σ.1) (hn := keepN σ.2.1) (hist := keepH σ.2.2.1 σ.2.1 σ.1) (sl := σ.2.2.2.1) (sd := σ.2.2.2.2.1) (len := σ.2.2.2.2.2.1) (ps := σ.2.2.2.2.2.2) hC8 hn11 hh12 hsv hW15 hG16
    have hF18 := fun q hq => (hG16 q (by omega)).trans (hF10 q hq)
    refine lv_iload_n hx hb dX5_tear_38 rfl (lv_at hl 0 rfl) ?_
    have hf : fTear σ (nI p') = ((nI (seenCnt σ.1 p')), (tearV σ.1 p', keepN σ.2.1, keepH σ.2.2.1 σ.2.1 σ.1, σ.2.2.2.1, σ.2.2.2.2.1, σ.2.2.2.2.2.1, σ.2.2.2.2.2.2)) := by
      simp [fTear, chg, sV, sN, sH, sS, sD, sL, sP, h2, tx3]
      try omega
    rw [hf]
    exact z_iret hE hH hS rfl ⟨hC17, hF18⟩ dX5_tear_39
  · refine lv_iconst (v := (-1)) hx hb dX5_tear_8 (by decide) ?_
    have hf : fTear σ p = ((-1), (σ.1, σ.2.1, σ.2.2.1, σ.2.2.2.1, σ.2.2.2.2.1, σ.2.2.2.2.2.1, σ.2.2.2.2.2.2)) := by
      simp [fTear, chg, sV, sN, sH, sS, sD, sL, sP, h2]
      try omega
    rw [hf]
    exact z_iret hE hH hS rfl ⟨hC, hF⟩ dX5_tear_9

set_option maxHeartbeats 4000000 in
set_option maxRecDepth 100000 in
theorem c_X5_coat (l : Launch) (G : zG) (B0 : Nat) (M : Mm) (σ : Sg) (b : Nat) (hC : Cl G b σ M) (hok : sOk σ) (hBb : B0 ≤ b) (p c : Int32) : zMet l yX5_coat cX5_coat 3 (some .int) 5 0 0 G B0 M [.ref b, .int p, .int c] (some (.int (fCoat σ p c).1)) (fun M1 => Cl G b (fCoat σ p c).2 M1 ∧ ∀ q, (q < b ∨ b + 278 ≤ q) → M1 q = M q) := by
  refine z_met RX5 [(0, .ref b), (1, .int p), (2, .int c)] (by decide) rfl (Nat.le_of_ble_eq_true rfl) rfl ?_
  intro pg ev s m below meth cd ls hE hin hB0 hH hl
  have hx := hE.1
  have hb := hE.2.1
  have hv : wOk σ.1 := hok.hw
  have hn : σ.1 0 ≤ 12 := hv.1
  have hdy : σ.1 1 ≤ 9999 := hok.1.2
  have hn6 : σ.2.1 ≤ 6 := hok.2.1
  have hhv : ∀ k, k < σ.2.1 → wOk (σ.2.2.1 k) := hok.hh
  have hsv : ∀ k, k < 2 → σ.2.2.2.2.1 k = true → wOk (σ.2.2.2.1 k) := hok.hs
  have hln : σ.2.2.2.2.2.1 ≤ 60 := hok.2.2.2.2.1
  obtain ⟨r, hr, hW⟩ := hC.2.1
  have hF : ∀ q, (q < b ∨ b + 278 ≤ q) → M q = M q := fun _ _ => rfl
  refine z_gen B0 (fun H locs hH hS => ?_) hH
  refine lv_aload_n hx hb dX5_coat_0 rfl (lv_at hl 0 rfl) ?_
  refine lv_iload_n hx hb dX5_coat_1 rfl (lv_at hl 1 rfl) ?_
  refine z_callV (rest := []) (st2 := [.int (zb (isP σ.1 p))]) hE hH hS hB0 hl ca_X5_isPoster mkX5_61 (c_X5_isPoster l G B0 M σ b hC p) hC.1 rfl rfl rfl rfl rfl ⟨Nat.le_of_ble_eq_true rfl, Nat.le_of_ble_eq_true rfl⟩ (Nat.le_of_ble_eq_true rfl) ⟨Nat.le_refl _, Nat.le_refl _⟩ dX5_coat_2 (fun H locs M1 hH hp hS => ?_)
  subst hp
  refine b_if_ne (tgt := 10) hx hb dX5_coat_5 (by decide) (fun h2 => ?_) (fun h2 => ?_)
  · obtain ⟨p', rfl, p2⟩ := isP_nat hn h2
    have tx3 : tn (nI p') = p' := tn_nI (by omega)
    refine lv_iload_n hx hb dX5_coat_10 rfl (lv_at hl 2 rfl) ?_
    refine n_iconst hx hb 1 dX5_coat_11 (by decide) ?_
    refine n_bipush hx hb 99 dX5_coat_12 (by decide) ?_
    refine z_callS (rest := []) (st2 := [.int (zb (wi c (nI 1) (nI 99)))]) hE hH hS hB0 hl ca_X5_isWithin mkX5_45 (c_X5_isWithin l G B0 M c (nI 1) (nI 99)) rfl rfl rfl ⟨Nat.le_of_ble_eq_true rfl, Nat.le_of_ble_eq_true rfl⟩ (Nat.le_of_ble_eq_true rfl) ⟨Nat.le_refl _, Nat.le_refl _⟩ dX5_coat_14 (fun H locs M1 hH hp hS => ?_)
    subst hp
    refine b_if_ne (tgt := 23) hx hb dX5_coat_17 (by decide) (fun h5 => ?_) (fun h5 => ?_)
    · obtain ⟨c', rfl, c1, c2⟩ := wi_nat (by decide) (by decide) h5
      have tx6 : tn (nI c') = c' := tn_nI (by omega)
      refine lv_aload_n hx hb dX5_coat_23 rfl (lv_at hl 0 rfl) ?_
      refine z_get (T := TX5) (v := .ref (b + 55)) hE hH hC.1 rfl uw_X5 2 (by decide) fkX5_22 rfl dX5_coat_24 ?_
      refine lv_aload_n hx hb dX5_coat_27 rfl (lv_at hl 0 rfl) ?_
      refine z_get (T := TX5) (v := .ref (b + 1)) hE hH hC.1 rfl uw_X5 0 (by decide) fkX5_12 rfl dX5_coat_28 ?_
      obtain ⟨tt, htt, hBt, hLt⟩ := id hC.2.2.2.1
      refine z_callV (rest := []) (st2 := []) hE hH hS hB0 hl ca_X1_keep mkX5_53 (c_X1_keep l G B0 M (b + 55) σ.2.1 σ.2.2.1 hC.2.2.2.1 hn6 hhv (b + 1) r σ.1 hW hr hv (by omega) (by omega)) hBt.1 rfl rfl rfl rfl rfl ⟨Nat.le_of_ble_eq_true rfl, Nat.le_of_ble_eq_true rfl⟩ (Nat.le_of_ble_eq_true rfl) ⟨Nat.le_refl _, Nat.le_refl _⟩ dX5_coat_31 (fun H locs M8 hH hp hS => ?_)
      obtain ⟨hK9, hG10⟩ := hp
      have hC11 : Cl G b (σ.1, keepN σ.2.1, keepH σ.2.2.1 σ.2.1 σ.1, σ.2.2.2.1, σ.2.2.2.2.1, σ.2.2.2.2.2.1, σ.2.2.2.2.2.2) M8 := Cl.setH (v := σ.1) (hn := σ.2.1) (hist := σ.2.2.1) (sl := σ.2.2.2.1) (sd := σ.2.2.2.2.1) (len := σ.2.2.2.2.2.1) (ps := σ.2.2.2.2.2.2) hC hv hsv hK9 hG10
      have hW12 := WlR.kept hr hv.1 hW (fun q q1 q2 => hG10 q (by omega))
      have hF13 := fun q hq => (hG10 q (by omega)).trans (hF q hq)
      have hn14 := keepN_le hn6
      have hh15 := keepH_ok hn6 hhv hv
      refine lv_aload_n hx hb dX5_coat_34 rfl (lv_at hl 0 rfl) ?_
      refine z_get (T := TX5) (v := .ref (b + 1)) hE hH hC11.1 rfl uw_X5 0 (by decide) fkX5_12 rfl dX5_coat_35 ?_
      refine lv_iload_n hx hb dX5_coat_38 rfl (lv_at hl 1 rfl) ?_
      refine lv_iload_n hx hb dX5_coat_39 rfl (lv_at hl 2 rfl) ?_
      refine z_callV (rest := []) (st2 := [.int (nI (coatN σ.1 p' c'))]) hE hH hS hB0 hl ca_X4_coatSeenCells mkX5_73 (c_X4_coatSeenCells l G B0 M8 (b + 1) r σ.1 hW12 hr hv (by omega) p' c' (by omega) (by omega)) hW12.1 rfl rfl rfl rfl rfl ⟨Nat.le_of_ble_eq_true rfl, Nat.le_of_ble_eq_true rfl⟩ (Nat.le_of_ble_eq_true rfl) ⟨Nat.le_refl _, Nat.le_refl _⟩ dX5_coat_40 (fun H locs M16 hH hp hS => ?_)
      obtain ⟨hW17, hG18⟩ := hp
      have hC19 : Cl G b (coatV σ.1 p' c' 60, keepN σ.2.1, keepH σ.2.2.1 σ.2.1 σ.1, σ.2.2.2.1, σ.2.2.2.2.1, σ.2.2.2.2.2.1, σ.2.2.2.2.2.2) M16 := Cl.setW (v := σ.1) (hn := keepN σ.2.1) (hist := keepH σ.2.2.1 σ.2.1 σ.1) (sl := σ.2.2.2.1) (sd := σ.2.2.2.2.1) (len := σ.2.2.2.2.2.1) (ps := σ.2.2.2.2.2.2) hC11 hn14 hh15 hsv ⟨r, hr, hW17⟩ hG18
      have hF20 := fun q hq => (hG18 q (by omega)).trans (hF13 q hq)
      have hf : fCoat σ (nI p') (nI c') = ((nI (coatN σ.1 p' c')), (coatV σ.1 p' c' 60, keepN σ.2.1, keepH σ.2.2.1 σ.2.1 σ.1, σ.2.2.2.1, σ.2.2.2.2.1, σ.2.2.2.2.2.1, σ.2.2.2.2.2.2)) := by
        simp [fCoat, chg, sV, sN, sH, sS, sD, sL, sP, h2, tx3, h5, tx6]
        try omega
      rw [hf]
      exact z_iret hE hH hS rfl ⟨hC19, hF20⟩ dX5_coat_43
    · refine lv_bipush (v := (-2)) hx hb dX5_coat_20 (by decide) ?_
      have hf : fCoat σ (nI p') c = ((-2), (σ.1, σ.2.1, σ.2.2.1, σ.2.2.2.1, σ.2.2.2.2.1, σ.2.2.2.2.2.1, σ.2.2.2.2.2.2)) := by
        simp [fCoat, chg, sV, sN, sH, sS, sD, sL, sP, h2, tx3, h5]
        try omega
      rw [hf]
      exact z_iret hE hH hS rfl ⟨hC, hF⟩ dX5_coat_22
  · refine lv_iconst (v := (-1)) hx hb dX5_coat_8 (by decide) ?_
    have hf : fCoat σ p c = ((-1), (σ.1, σ.2.1, σ.2.2.1, σ.2.2.2.1, σ.2.2.2.2.1, σ.2.2.2.2.2.1, σ.2.2.2.2.2.2)) := by
      simp [fCoat, chg, sV, sN, sH, sS, sD, sL, sP, h2]
      try omega
    rw [hf]
    exact z_iret hE hH hS rfl ⟨hC, hF⟩ dX5_coat_9

set_option maxHeartbeats 4000000 in
set_option maxRecDepth 100000 in
theorem c_X5_scrape (l : Launch) (G : zG) (B0 : Nat) (M : Mm) (σ : Sg) (b : Nat) (hC : Cl G b σ M) (hok : sOk σ) (hBb : B0 ≤ b) (x y c : Int32) : zMet l yX5_scrape cX5_scrape 5 (some .int) 5 0 0 G B0 M [.ref b, .int x, .int y, .int c] (some (.int (fScrape σ x y c).1)) (fun M1 => Cl G b (fScrape σ x y c).2 M1 ∧ ∀ q, (q < b ∨ b + 278 ≤ q) → M1 q = M q) := by
  refine z_met RX5 [(0, .ref b), (1, .int x), (2, .int y), (3, .int c)] (by decide) rfl (Nat.le_of_ble_eq_true rfl) rfl ?_
  intro pg ev s m below meth cd ls hE hin hB0 hH hl
  have hx := hE.1
  have hb := hE.2.1
  have hv : wOk σ.1 := hok.hw
  have hn : σ.1 0 ≤ 12 := hv.1
  have hdy : σ.1 1 ≤ 9999 := hok.1.2
  have hn6 : σ.2.1 ≤ 6 := hok.2.1
  have hhv : ∀ k, k < σ.2.1 → wOk (σ.2.2.1 k) := hok.hh
  have hsv : ∀ k, k < 2 → σ.2.2.2.2.1 k = true → wOk (σ.2.2.2.1 k) := hok.hs
  have hln : σ.2.2.2.2.2.1 ≤ 60 := hok.2.2.2.2.1
  obtain ⟨r, hr, hW⟩ := hC.2.1
  have hF : ∀ q, (q < b ∨ b + 278 ≤ q) → M q = M q := fun _ _ => rfl
  refine z_gen B0 (fun H locs hH hS => ?_) hH
  refine lv_iload_n hx hb dX5_scrape_0 rfl (lv_at hl 1 rfl) ?_
  refine lv_iload_n hx hb dX5_scrape_1 rfl (lv_at hl 2 rfl) ?_
  refine z_callS (rest := []) (st2 := [.int (zb (isC x y))]) hE hH hS hB0 hl ca_X5_isCell mkX5_41 (c_X5_isCell l G B0 M x y) rfl rfl rfl ⟨Nat.le_of_ble_eq_true rfl, Nat.le_of_ble_eq_true rfl⟩ (Nat.le_of_ble_eq_true rfl) ⟨Nat.le_refl _, Nat.le_refl _⟩ dX5_scrape_2 (fun H locs M1 hH hp hS => ?_)
  subst hp
  refine b_if_ne (tgt := 10) hx hb dX5_scrape_5 (by decide) (fun h2 => ?_) (fun h2 => ?_)
  · obtain ⟨x', y', rfl, rfl, x9, y9⟩ := isC_nat h2
    have tx3 : tn (nI x') = x' := tn_nI (by omega)
    have tx4 : tn (nI y') = y' := tn_nI (by omega)
    refine lv_iload_n hx hb dX5_scrape_10 rfl (lv_at hl 3 rfl) ?_
    refine n_iconst hx hb 1 dX5_scrape_11 (by decide) ?_
    refine n_sipush hx hb 300 dX5_scrape_12 (by decide) ?_
    refine z_callS (rest := []) (st2 := [.int (zb (wi c (nI 1) (nI 300)))]) hE hH hS hB0 hl ca_X5_isWithin mkX5_45 (c_X5_isWithin l G B0 M c (nI 1) (nI 300)) rfl rfl rfl ⟨Nat.le_of_ble_eq_true rfl, Nat.le_of_ble_eq_true rfl⟩ (Nat.le_of_ble_eq_true rfl) ⟨Nat.le_refl _, Nat.le_refl _⟩ dX5_scrape_15 (fun H locs M1 hH hp hS => ?_)
    subst hp
    refine b_if_ne (tgt := 24) hx hb dX5_scrape_18 (by decide) (fun h6 => ?_) (fun h6 => ?_)
    · obtain ⟨c', rfl, c1, c2⟩ := wi_nat (by decide) (by decide) h6
      have tx7 : tn (nI c') = c' := tn_nI (by omega)
      refine lv_iload_n hx hb dX5_scrape_24 rfl (lv_at hl 1 rfl) ?_
      refine lv_iload_n hx hb dX5_scrape_25 rfl (lv_at hl 2 rfl) ?_
      refine z_callS (rest := []) (st2 := [.int (nI (y' * 10 + x'))]) hE hH hS hB0 hl ca_X5_cellAt mkX5_77 (c_X5_cellAt l G B0 M x' y') rfl rfl rfl ⟨Nat.le_of_ble_eq_true rfl, Nat.le_of_ble_eq_true rfl⟩ (Nat.le_of_ble_eq_true rfl) ⟨Nat.le_refl _, Nat.le_refl _⟩ dX5_scrape_26 (fun H locs M1 hH hp hS => ?_)
      subst hp
      refine lv_istore (lv' := [(4, .int (nI (y' * 10 + x'))), (0, .ref b), (1, .int (nI x')), (2, .int (nI y')), (3, .int (nI c'))]) hx hb dX5_scrape_29 hl (by decide) rfl (fun ls hl => ?_)
      refine lv_aload_n hx hb dX5_scrape_31 rfl (lv_at hl 1 rfl) ?_
      refine z_get (T := TX5) (v := .ref (b + 1)) hE hH hC.1 rfl uw_X5 0 (by decide) fkX5_12 rfl dX5_scrape_32 ?_
      refine lv_iload hx hb dX5_scrape_35 (lv_at hl 0 rfl) ?_
      refine z_callV (rest := []) (st2 := [.int (oI (prc σ.1 (-6) (y' * 10 + x')))]) hE hH hS hB0 hl ca_X4_priceAt mkX5_80 (c_X4_priceAt l G B0 M (b + 1) r σ.1 hW hr hv (y' * 10 + x') (by omega)) hW.1 rfl rfl rfl rfl rfl ⟨Nat.le_of_ble_eq_true rfl, Nat.le_of_ble_eq_true rfl⟩ (Nat.le_of_ble_eq_true rfl) ⟨Nat.le_refl _, Nat.le_refl _⟩ dX5_scrape_37 (fun H locs M1 hH hp hS => ?_)
      subst hp
      refine lv_bipush (v := (-6)) hx hb dX5_scrape_40 (by decide) ?_
      refine o_cmp_ne (tgt := 48) hx hb (prc_ob31 hv) dX5_scrape_42 (by decide) (fun j9 h8 => ?_) (fun h8 => ?_)
      · replace hl : lv_has ls 5 [(4, .int (nI (y' * 10 + x'))), (0, .ref b), (1, .int (nI x')), (2, .int (nI y')), (3, .int (nI c'))] := hl
        refine lv_aload_n hx hb dX5_scrape_48 rfl (lv_at hl 1 rfl) ?_
        refine z_get (T := TX5) (v := .ref (b + 55)) hE hH hC.1 rfl uw_X5 2 (by decide) fkX5_22 rfl dX5_scrape_49 ?_
        refine lv_aload_n hx hb dX5_scrape_52 rfl (lv_at hl 1 rfl) ?_
        refine z_get (T := TX5) (v := .ref (b + 1)) hE hH hC.1 rfl uw_X5 0 (by decide) fkX5_12 rfl dX5_scrape_53 ?_
        obtain ⟨tt, htt, hBt, hLt⟩ := id hC.2.2.2.1
        refine z_callV (rest := []) (st2 := []) hE hH hS hB0 hl ca_X1_keep mkX5_53 (c_X1_keep l G B0 M (b + 55) σ.2.1 σ.2.2.1 hC.2.2.2.1 hn6 hhv (b + 1) r σ.1 hW hr hv (by omega) (by omega)) hBt.1 rfl rfl rfl rfl rfl ⟨Nat.le_of_ble_eq_true rfl, Nat.le_of_ble_eq_true rfl⟩ (Nat.le_of_ble_eq_true rfl) ⟨Nat.le_refl _, Nat.le_refl _⟩ dX5_scrape_56 (fun H locs M11 hH hp hS => ?_)
        obtain ⟨hK12, hG13⟩ := hp
        have hC14 : Cl G b (σ.1, keepN σ.2.1, keepH σ.2.2.1 σ.2.1 σ.1, σ.2.2.2.1, σ.2.2.2.2.1, σ.2.2.2.2.2.1, σ.2.2.2.2.2.2) M11 := Cl.setH (v := σ.1) (hn := σ.2.1) (hist := σ.2.2.1) (sl := σ.2.2.2.1) (sd := σ.2.2.2.2.1) (len := σ.2.2.2.2.2.1) (ps := σ.2.2.2.2.2.2) hC hv hsv hK12 hG13
        have hW15 := WlR.kept hr hv.1 hW (fun q q1 q2 => hG13 q (by omega))
        have hF16 := fun q hq => (hG13 q (by omega)).trans (hF q hq)
        have hn17 := keepN_le hn6
        have hh18 := keepH_ok hn6 hhv hv
        refine lv_aload_n hx hb dX5_scrape_59 rfl (lv_at hl 1 rfl) ?_
        refine z_get (T := TX5) (v := .ref (b + 1)) hE hH hC14.1 rfl uw_X5 0 (by decide) fkX5_12 rfl dX5_scrape_60 ?_
        refine lv_iload hx hb dX5_scrape_63 (lv_at hl 0 rfl) ?_
        refine lv_iload_n hx hb dX5_scrape_65 rfl (lv_at hl 4 rfl) ?_
        refine z_callV (rest := []) (st2 := [.int (nI (scrN (y' * 10 + x') (σ.1 0) σ.1 c'))]) hE hH hS hB0 hl ca_X4_scrapeAt mkX5_83 (c_X4_scrapeAt l G B0 M11 (b + 1) r σ.1 hW15 hr hv (by omega) (y' * 10 + x') c' (by omega) (by omega)) hW15.1 rfl rfl rfl rfl rfl ⟨Nat.le_of_ble_eq_true rfl, Nat.le_of_ble_eq_true rfl⟩ (Nat.le_of_ble_eq_true rfl) ⟨Nat.le_refl _, Nat.le_refl _⟩ dX5_scrape_66 (fun H locs M19 hH hp hS => ?_)
        obtain ⟨hW20, hG21⟩ := hp
        have hC22 : Cl G b (scrV (y' * 10 + x') (σ.1 0) σ.1 c', keepN σ.2.1, keepH σ.2.2.1 σ.2.1 σ.1, σ.2.2.2.1, σ.2.2.2.2.1, σ.2.2.2.2.2.1, σ.2.2.2.2.2.2) M19 := Cl.setW (v := σ.1) (hn := keepN σ.2.1) (hist := keepH σ.2.2.1 σ.2.1 σ.1) (sl := σ.2.2.2.1) (sd := σ.2.2.2.2.1) (len := σ.2.2.2.2.2.1) (ps := σ.2.2.2.2.2.2) hC14 hn17 hh18 hsv ⟨r, hr, hW20⟩ hG21
        have hF23 := fun q hq => (hG21 q (by omega)).trans (hF16 q hq)
        have hf : fScrape σ (nI x') (nI y') (nI c') = ((nI (scrN (y' * 10 + x') (σ.1 0) σ.1 c')), (scrV (y' * 10 + x') (σ.1 0) σ.1 c', keepN σ.2.1, keepH σ.2.2.1 σ.2.1 σ.1, σ.2.2.2.1, σ.2.2.2.2.1, σ.2.2.2.2.2.1, σ.2.2.2.2.2.2)) := by
          simp [fScrape, chg, sV, sN, sH, sS, sD, sL, sP, h2, tx3, tx4, h6, tx7, h8]
          try omega
        rw [hf]
        exact z_iret hE hH hS rfl ⟨hC22, hF23⟩ dX5_scrape_69
      · refine lv_bipush (v := (-5)) hx hb dX5_scrape_45 (by decide) ?_
        have hf : fScrape σ (nI x') (nI y') (nI c') = ((-5), (σ.1, σ.2.1, σ.2.2.1, σ.2.2.2.1, σ.2.2.2.2.1, σ.2.2.2.2.2.1, σ.2.2.2.2.2.2)) := by
          simp [fScrape, chg, sV, sN, sH, sS, sD, sL, sP, h2, tx3, tx4, h6, tx7, h8]
          try omega
        rw [hf]
        exact z_iret hE hH hS rfl ⟨hC, hF⟩ dX5_scrape_47
    · refine lv_bipush (v := (-2)) hx hb dX5_scrape_21 (by decide) ?_
      have hf : fScrape σ (nI x') (nI y') c = ((-2), (σ.1, σ.2.1, σ.2.2.1, σ.2.2.2.1, σ.2.2.2.2.1, σ.2.2.2.2.2.1, σ.2.2.2.2.2.2)) := by
        simp [fScrape, chg, sV, sN, sH, sS, sD, sL, sP, h2, tx3, tx4, h6]
        try omega
      rw [hf]
      exact z_iret hE hH hS rfl ⟨hC, hF⟩ dX5_scrape_23
  · refine lv_iconst (v := (-1)) hx hb dX5_scrape_8 (by decide) ?_
    have hf : fScrape σ x y c = ((-1), (σ.1, σ.2.1, σ.2.2.1, σ.2.2.2.1, σ.2.2.2.2.1, σ.2.2.2.2.2.1, σ.2.2.2.2.2.2)) := by
      simp [fScrape, chg, sV, sN, sH, sS, sD, sL, sP, h2]
      try omega
    rw [hf]
    exact z_iret hE hH hS rfl ⟨hC, hF⟩ dX5_scrape_9

set_option maxHeartbeats 4000000 in
set_option maxRecDepth 100000 in
theorem c_X5_sun (l : Launch) (G : zG) (B0 : Nat) (M : Mm) (σ : Sg) (b : Nat) (hC : Cl G b σ M) (hok : sOk σ) (hBb : B0 ≤ b) (x c : Int32) : zMet l yX5_sun cX5_sun 4 (some .int) 5 0 0 G B0 M [.ref b, .int x, .int c] (some (.int (fSun σ x c).1)) (fun M1 => Cl G b (fSun σ x c).2 M1 ∧ ∀ q, (q < b ∨ b + 278 ≤ q) → M1 q = M q) := by
  refine z_met RX5 [(0, .ref b), (1, .int x), (2, .int c)] (by decide) rfl (Nat.le_of_ble_eq_true rfl) rfl ?_
  intro pg ev s m below meth cd ls hE hin hB0 hH hl
  have hx := hE.1
  have hb := hE.2.1
  have hv : wOk σ.1 := hok.hw
  have hn : σ.1 0 ≤ 12 := hv.1
  have hdy : σ.1 1 ≤ 9999 := hok.1.2
  have hn6 : σ.2.1 ≤ 6 := hok.2.1
  have hhv : ∀ k, k < σ.2.1 → wOk (σ.2.2.1 k) := hok.hh
  have hsv : ∀ k, k < 2 → σ.2.2.2.2.1 k = true → wOk (σ.2.2.2.1 k) := hok.hs
  have hln : σ.2.2.2.2.2.1 ≤ 60 := hok.2.2.2.2.1
  obtain ⟨r, hr, hW⟩ := hC.2.1
  have hF : ∀ q, (q < b ∨ b + 278 ≤ q) → M q = M q := fun _ _ => rfl
  refine z_gen B0 (fun H locs hH hS => ?_) hH
  refine lv_iload_n hx hb dX5_sun_0 rfl (lv_at hl 1 rfl) ?_
  refine z_callS (rest := []) (st2 := [.int (zb (wi x (nI 0) (nI 9)))]) hE hH hS hB0 hl ca_X5_isColumn mkX5_86 (c_X5_isColumn l G B0 M x) rfl rfl rfl ⟨Nat.le_of_ble_eq_true rfl, Nat.le_of_ble_eq_true rfl⟩ (Nat.le_of_ble_eq_true rfl) ⟨Nat.le_refl _, Nat.le_refl _⟩ dX5_sun_1 (fun H locs M1 hH hp hS => ?_)
  subst hp
  refine b_if_ne (tgt := 9) hx hb dX5_sun_4 (by decide) (fun h2 => ?_) (fun h2 => ?_)
  · obtain ⟨x', rfl, x1, x2⟩ := wi_nat (by decide) (by decide) h2
    have tx3 : tn (nI x') = x' := tn_nI (by omega)
    refine lv_iload_n hx hb dX5_sun_9 rfl (lv_at hl 2 rfl) ?_
    refine n_iconst hx hb 0 dX5_sun_10 (by decide) ?_
    refine n_bipush hx hb 9 dX5_sun_11 (by decide) ?_
    refine z_callS (rest := []) (st2 := [.int (zb (wi c (nI 0) (nI 9)))]) hE hH hS hB0 hl ca_X5_isWithin mkX5_45 (c_X5_isWithin l G B0 M c (nI 0) (nI 9)) rfl rfl rfl ⟨Nat.le_of_ble_eq_true rfl, Nat.le_of_ble_eq_true rfl⟩ (Nat.le_of_ble_eq_true rfl) ⟨Nat.le_refl _, Nat.le_refl _⟩ dX5_sun_13 (fun H locs M1 hH hp hS => ?_)
    subst hp
    refine b_if_ne (tgt := 22) hx hb dX5_sun_16 (by decide) (fun h5 => ?_) (fun h5 => ?_)
    · obtain ⟨c', rfl, c1, c2⟩ := wi_nat (by decide) (by decide) h5
      have tx6 : tn (nI c') = c' := tn_nI (by omega)
      refine lv_aload_n hx hb dX5_sun_22 rfl (lv_at hl 0 rfl) ?_
      refine z_get (T := TX5) (v := .ref (b + 55)) hE hH hC.1 rfl uw_X5 2 (by decide) fkX5_22 rfl dX5_sun_23 ?_
      refine lv_aload_n hx hb dX5_sun_26 rfl (lv_at hl 0 rfl) ?_
      refine z_get (T := TX5) (v := .ref (b + 1)) hE hH hC.1 rfl uw_X5 0 (by decide) fkX5_12 rfl dX5_sun_27 ?_
      obtain ⟨tt, htt, hBt, hLt⟩ := id hC.2.2.2.1
      refine z_callV (rest := []) (st2 := []) hE hH hS hB0 hl ca_X1_keep mkX5_53 (c_X1_keep l G B0 M (b + 55) σ.2.1 σ.2.2.1 hC.2.2.2.1 hn6 hhv (b + 1) r σ.1 hW hr hv (by omega) (by omega)) hBt.1 rfl rfl rfl rfl rfl ⟨Nat.le_of_ble_eq_true rfl, Nat.le_of_ble_eq_true rfl⟩ (Nat.le_of_ble_eq_true rfl) ⟨Nat.le_refl _, Nat.le_refl _⟩ dX5_sun_30 (fun H locs M8 hH hp hS => ?_)
      obtain ⟨hK9, hG10⟩ := hp
      have hC11 : Cl G b (σ.1, keepN σ.2.1, keepH σ.2.2.1 σ.2.1 σ.1, σ.2.2.2.1, σ.2.2.2.2.1, σ.2.2.2.2.2.1, σ.2.2.2.2.2.2) M8 := Cl.setH (v := σ.1) (hn := σ.2.1) (hist := σ.2.2.1) (sl := σ.2.2.2.1) (sd := σ.2.2.2.2.1) (len := σ.2.2.2.2.2.1) (ps := σ.2.2.2.2.2.2) hC hv hsv hK9 hG10
      have hW12 := WlR.kept hr hv.1 hW (fun q q1 q2 => hG10 q (by omega))
      have hF13 := fun q hq => (hG10 q (by omega)).trans (hF q hq)
      have hn14 := keepN_le hn6
      have hh15 := keepH_ok hn6 hhv hv
      refine lv_aload_n hx hb dX5_sun_33 rfl (lv_at hl 0 rfl) ?_
      refine z_get (T := TX5) (v := .ref (b + 1)) hE hH hC11.1 rfl uw_X5 0 (by decide) fkX5_12 rfl dX5_sun_34 ?_
      refine z_get (T := TX4) (v := .ref (b + 1 + 26)) hE hH hW12.1 rfl uw_X4 2 (by decide) fkX5_89 rfl dX5_sun_37 ?_
      refine lv_iload_n hx hb dX5_sun_40 rfl (lv_at hl 1 rfl) ?_
      refine z_iald hE hH hW12.2.2.1 (k := x') (by omega) (by decide) dX5_sun_41 ?_
      have q16 := hv.2.2.1 x' (by omega)
      refine lv_istore_n (lv' := [(3, .int (nI (sv σ.1 x'))), (0, .ref b), (1, .int (nI x')), (2, .int (nI c'))]) hx hb dX5_sun_42 rfl hl (by decide) rfl (fun ls hl => ?_)
      refine lv_aload_n hx hb dX5_sun_43 rfl (lv_at hl 1 rfl) ?_
      refine z_get (T := TX5) (v := .ref (b + 1)) hE hH hC11.1 rfl uw_X5 0 (by decide) fkX5_12 rfl dX5_sun_44 ?_
      refine z_get (T := TX4) (v := .ref (b + 1 + 26)) hE hH hW12.1 rfl uw_X4 2 (by decide) fkX5_89 rfl dX5_sun_47 ?_
      refine lv_iload_n hx hb dX5_sun_50 rfl (lv_at hl 2 rfl) ?_
      refine lv_iload_n hx hb dX5_sun_51 rfl (lv_at hl 3 rfl) ?_
      refine z_iast hE hH hS hW12.2.2.1 (k := x') (by omega) (by decide) (by omega) dX5_sun_52 (fun H locs M19 hH hS e17 o18 => ?_)
      have hW20 := WlR.setU (x := x') hr hW12 hn (by omega) e17 o18
      have z21 : (vset σ.1 (4 + x') c') 0 = σ.1 0 := fset_ne _ _ (by omega)
      have hF22 := fun q hq => (o18 q (by omega)).trans (hF13 q hq)
      have hC23 : Cl G b (vset σ.1 (4 + x') c', keepN σ.2.1, keepH σ.2.2.1 σ.2.1 σ.1, σ.2.2.2.1, σ.2.2.2.2.1, σ.2.2.2.2.2.1, σ.2.2.2.2.2.2) M19 := Cl.setW (v := σ.1) (hn := keepN σ.2.1) (hist := keepH σ.2.2.1 σ.2.1 σ.1) (sl := σ.2.2.2.1) (sd := σ.2.2.2.2.1) (len := σ.2.2.2.2.2.1) (ps := σ.2.2.2.2.2.2) hC11 hn14 hh15 hsv ⟨r, hr, hW20⟩ (fun q hq => o18 q (by omega))
      refine lv_iload_n hx hb dX5_sun_53 rfl (lv_at hl 0 rfl) ?_
      have hf : fSun σ (nI x') (nI c') = ((nI (sv σ.1 x')), (vset σ.1 (4 + x') c', keepN σ.2.1, keepH σ.2.2.1 σ.2.1 σ.1, σ.2.2.2.1, σ.2.2.2.2.1, σ.2.2.2.2.2.1, σ.2.2.2.2.2.2)) := by
        simp [fSun, chg, sV, sN, sH, sS, sD, sL, sP, h2, tx3, h5, tx6]
        try omega
      rw [hf]
      exact z_iret hE hH hS rfl ⟨hC23, hF22⟩ dX5_sun_54
    · refine lv_bipush (v := (-2)) hx hb dX5_sun_19 (by decide) ?_
      have hf : fSun σ (nI x') c = ((-2), (σ.1, σ.2.1, σ.2.2.1, σ.2.2.2.1, σ.2.2.2.2.1, σ.2.2.2.2.2.1, σ.2.2.2.2.2.2)) := by
        simp [fSun, chg, sV, sN, sH, sS, sD, sL, sP, h2, tx3, h5]
        try omega
      rw [hf]
      exact z_iret hE hH hS rfl ⟨hC, hF⟩ dX5_sun_21
  · refine lv_iconst (v := (-1)) hx hb dX5_sun_7 (by decide) ?_
    have hf : fSun σ x c = ((-1), (σ.1, σ.2.1, σ.2.2.1, σ.2.2.2.1, σ.2.2.2.2.1, σ.2.2.2.2.2.1, σ.2.2.2.2.2.2)) := by
      simp [fSun, chg, sV, sN, sH, sS, sD, sL, sP, h2]
      try omega
    rw [hf]
    exact z_iret hE hH hS rfl ⟨hC, hF⟩ dX5_sun_8

set_option maxHeartbeats 4000000 in
set_option maxRecDepth 100000 in
theorem c_X5_buy (l : Launch) (G : zG) (B0 : Nat) (M : Mm) (σ : Sg) (b : Nat) (hC : Cl G b σ M) (hok : sOk σ) (hBb : B0 ≤ b) (x y c : Int32) : zMet l yX5_buy cX5_buy 6 (some .int) 5 0 0 G B0 M [.ref b, .int x, .int y, .int c] (some (.int (fBuy σ x y c).1)) (fun M1 => Cl G b (fBuy σ x y c).2 M1 ∧ ∀ q, (q < b ∨ b + 278 ≤ q) → M1 q = M q) := by
  refine z_met RX5 [(0, .ref b), (1, .int x), (2, .int y), (3, .int c)] (by decide) rfl (Nat.le_of_ble_eq_true rfl) rfl ?_
  intro pg ev s m below meth cd ls hE hin hB0 hH hl
  have hx := hE.1
  have hb := hE.2.1
  have hv : wOk σ.1 := hok.hw
  have hn : σ.1 0 ≤ 12 := hv.1
  have hdy : σ.1 1 ≤ 9999 := hok.1.2
  have hn6 : σ.2.1 ≤ 6 := hok.2.1
  have hhv : ∀ k, k < σ.2.1 → wOk (σ.2.2.1 k) := hok.hh
  have hsv : ∀ k, k < 2 → σ.2.2.2.2.1 k = true → wOk (σ.2.2.2.1 k) := hok.hs
  have hln : σ.2.2.2.2.2.1 ≤ 60 := hok.2.2.2.2.1
  obtain ⟨r, hr, hW⟩ := hC.2.1
  have hF : ∀ q, (q < b ∨ b + 278 ≤ q) → M q = M q := fun _ _ => rfl
  refine z_gen B0 (fun H locs hH hS => ?_) hH
  refine lv_iload_n hx hb dX5_buy_0 rfl (lv_at hl 1 rfl) ?_
  refine lv_iload_n hx hb dX5_buy_1 rfl (lv_at hl 2 rfl) ?_
  refine z_callS (rest := []) (st2 := [.int (zb (isC x y))]) hE hH hS hB0 hl ca_X5_isCell mkX5_41 (c_X5_isCell l G B0 M x y) rfl rfl rfl ⟨Nat.le_of_ble_eq_true rfl, Nat.le_of_ble_eq_true rfl⟩ (Nat.le_of_ble_eq_true rfl) ⟨Nat.le_refl _, Nat.le_refl _⟩ dX5_buy_2 (fun H locs M1 hH hp hS => ?_)
  subst hp
  refine b_if_ne (tgt := 10) hx hb dX5_buy_5 (by decide) (fun h2 => ?_) (fun h2 => ?_)
  · obtain ⟨x', y', rfl, rfl, x9, y9⟩ := isC_nat h2
    have tx3 : tn (nI x') = x' := tn_nI (by omega)
    have tx4 : tn (nI y') = y' := tn_nI (by omega)
    refine lv_iload_n hx hb dX5_buy_10 rfl (lv_at hl 3 rfl) ?_
    refine n_iconst hx hb 0 dX5_buy_11 (by decide) ?_
    refine n_sipush hx hb 999 dX5_buy_12 (by decide) ?_
    refine z_callS (rest := []) (st2 := [.int (zb (wi c (nI 0) (nI 999)))]) hE hH hS hB0 hl ca_X5_isWithin mkX5_45 (c_X5_isWithin l G B0 M c (nI 0) (nI 999)) rfl rfl rfl ⟨Nat.le_of_ble_eq_true rfl, Nat.le_of_ble_eq_true rfl⟩ (Nat.le_of_ble_eq_true rfl) ⟨Nat.le_refl _, Nat.le_refl _⟩ dX5_buy_15 (fun H locs M1 hH hp hS => ?_)
    subst hp
    refine b_if_ne (tgt := 24) hx hb dX5_buy_18 (by decide) (fun h6 => ?_) (fun h6 => ?_)
    · obtain ⟨c', rfl, c1, c2⟩ := wi_nat (by decide) (by decide) h6
      have tx7 : tn (nI c') = c' := tn_nI (by omega)
      refine lv_iload_n hx hb dX5_buy_24 rfl (lv_at hl 1 rfl) ?_
      refine lv_iload_n hx hb dX5_buy_25 rfl (lv_at hl 2 rfl) ?_
      refine z_callS (rest := []) (st2 := [.int (nI (y' * 10 + x'))]) hE hH hS hB0 hl ca_X5_cellAt mkX5_77 (c_X5_cellAt l G B0 M x' y') rfl rfl rfl ⟨Nat.le_of_ble_eq_true rfl, Nat.le_of_ble_eq_true rfl⟩ (Nat.le_of_ble_eq_true rfl) ⟨Nat.le_refl _, Nat.le_refl _⟩ dX5_buy_26 (fun H locs M1 hH hp hS => ?_)
      subst hp
      refine lv_istore (lv' := [(4, .int (nI (y' * 10 + x'))), (0, .ref b), (1, .int (nI x')), (2, .int (nI y')), (3, .int (nI c'))]) hx hb dX5_buy_29 hl (by decide) rfl (fun ls hl => ?_)
      refine lv_aload_n hx hb dX5_buy_31 rfl (lv_at hl 1 rfl) ?_
      refine z_get (T := TX5) (v := .ref (b + 1)) hE hH hC.1 rfl uw_X5 0 (by decide) fkX5_12 rfl dX5_buy_32 ?_
      refine lv_iload hx hb dX5_buy_35 (lv_at hl 0 rfl) ?_
      refine z_callV (rest := []) (st2 := [.int (oI (prc σ.1 (-6) (y' * 10 + x')))]) hE hH hS hB0 hl ca_X4_priceAt mkX5_80 (c_X4_priceAt l G B0 M (b + 1) r σ.1 hW hr hv (y' * 10 + x') (by omega)) hW.1 rfl rfl rfl rfl rfl ⟨Nat.le_of_ble_eq_true rfl, Nat.le_of_ble_eq_true rfl⟩ (Nat.le_of_ble_eq_true rfl) ⟨Nat.le_refl _, Nat.le_refl _⟩ dX5_buy_37 (fun H locs M1 hH hp hS => ?_)
      subst hp
      refine lv_istore (lv' := [(5, .int (oI (prc σ.1 (-6) (y' * 10 + x')))), (4, .int (nI (y' * 10 + x'))), (0, .ref b), (1, .int (nI x')), (2, .int (nI y')), (3, .int (nI c'))]) hx hb dX5_buy_40 hl (by decide) rfl (fun ls hl => ?_)
      refine lv_iload hx hb dX5_buy_42 (lv_at hl 0 rfl) ?_
      refine lv_bipush (v := (-6)) hx hb dX5_buy_44 (by decide) ?_
      refine o_cmp_eq (tgt := 55) hx hb (prc_ob31 hv) dX5_buy_46 (by decide) (fun h8 => ?_) (fun j9 h8 => ?_)
      · refine lv_bipush (v := (-5)) hx hb dX5_buy_55 (by decide) ?_
        have hf : fBuy σ (nI x') (nI y') (nI c') = ((-5), (σ.1, σ.2.1, σ.2.2.1, σ.2.2.2.1, σ.2.2.2.2.1, σ.2.2.2.2.2.1, σ.2.2.2.2.2.2)) := by
          simp [fBuy, chg, sV, sN, sH, sS, sD, sL, sP, h2, tx3, tx4, h6, tx7, h8]
          try omega
        rw [hf]
        exact z_iret hE hH hS rfl ⟨hC, hF⟩ dX5_buy_57
      · rw [h8] at hl
        replace hl : lv_has ls 6 [(5, .int (nI j9)), (4, .int (nI (y' * 10 + x'))), (0, .ref b), (1, .int (nI x')), (2, .int (nI y')), (3, .int (nI c'))] := hl
        have j9_b := prc_ob hv _ h8
        refine lv_iload hx hb dX5_buy_49 (lv_at hl 0 rfl) ?_
        refine lv_iload_n hx hb dX5_buy_51 rfl (lv_at hl 5 rfl) ?_
        refine n_cmp_le (tgt := 58) hx hb (by omega) (by omega) dX5_buy_52 (by decide) (fun h10 => ?_) (fun h10 => ?_)
        · refine lv_aload_n hx hb dX5_buy_58 rfl (lv_at hl 2 rfl) ?_
          refine z_get (T := TX5) (v := .ref (b + 55)) hE hH hC.1 rfl uw_X5 2 (by decide) fkX5_22 rfl dX5_buy_59 ?_
          refine lv_aload_n hx hb dX5_buy_62 rfl (lv_at hl 2 rfl) ?_
          refine z_get (T := TX5) (v := .ref (b + 1)) hE hH hC.1 rfl uw_X5 0 (by decide) fkX5_12 rfl dX5_buy_63 ?_
          obtain ⟨tt, htt, hBt, hLt⟩ := id hC.2.2.2.1
          refine z_callV (rest := []) (st2 := []) hE hH hS hB0 hl ca_X1_keep mkX5_53 (c_X1_keep l G B0 M (b + 55) σ.2.1 σ.2.2.1 hC.2.2.2.1 hn6 hhv (b + 1) r σ.1 hW hr hv (by omega) (by omega)) hBt.1 rfl rfl rfl rfl rfl ⟨Nat.le_of_ble_eq_true rfl, Nat.le_of_ble_eq_true rfl⟩ (Nat.le_of_ble_eq_true rfl) ⟨Nat.le_refl _, Nat.le_refl _⟩ dX5_buy_66 (fun H locs M12 hH hp hS => ?_)
          obtain ⟨hK13, hG14⟩ := hp
          have hC15 : Cl G b (σ.1, keepN σ.2.1, keepH σ.2.2.1 σ.2.1 σ.1, σ.2.2.2.1, σ.2.2.2.2.1, σ.2.2.2.2.2.1, σ.2.2.2.2.2.2) M12 := Cl.setH (v := σ.1) (hn := σ.2.1) (hist := σ.2.2.1) (sl := σ.2.2.2.1) (sd := σ.2.2.2.2.1) (len := σ.2.2.2.2.2.1) (ps := σ.2.2.2.2.2.2) hC hv hsv hK13 hG14
          have hW16 := WlR.kept hr hv.1 hW (fun q q1 q2 => hG14 q (by omega))
          have hF17 := fun q hq => (hG14 q (by omega)).trans (hF q hq)
          have hn18 := keepN_le hn6
          have hh19 := keepH_ok hn6 hhv hv
          refine lv_aload_n hx hb dX5_buy_69 rfl (lv_at hl 2 rfl) ?_
          refine z_get (T := TX5) (v := .ref (b + 1)) hE hH hC15.1 rfl uw_X5 0 (by decide) fkX5_12 rfl dX5_buy_70 ?_
          refine lv_iload hx hb dX5_buy_73 (lv_at hl 1 rfl) ?_
          refine lv_iload_n hx hb dX5_buy_75 rfl (lv_at hl 5 rfl) ?_
          refine z_callV (rest := []) (st2 := [.int (zb (sells σ.1 (y' * 10 + x') c'))]) hE hH hS hB0 hl ca_X4_sellAt mkX5_93 (c_X4_sellAt l G B0 M12 (b + 1) r σ.1 hW16 hr hv (by omega) (y' * 10 + x') c' (by omega) (by omega)) hW16.1 rfl rfl rfl rfl rfl ⟨Nat.le_of_ble_eq_true rfl, Nat.le_of_ble_eq_true rfl⟩ (Nat.le_of_ble_eq_true rfl) ⟨Nat.le_refl _, Nat.le_refl _⟩ dX5_buy_76 (fun H locs M20 hH hp hS => ?_)
          obtain ⟨hW21, hG22⟩ := hp
          have hC23 : Cl G b (sellV σ.1 (y' * 10 + x') c', keepN σ.2.1, keepH σ.2.2.1 σ.2.1 σ.1, σ.2.2.2.1, σ.2.2.2.2.1, σ.2.2.2.2.2.1, σ.2.2.2.2.2.2) M20 := Cl.setW (v := σ.1) (hn := keepN σ.2.1) (hist := keepH σ.2.2.1 σ.2.1 σ.1) (sl := σ.2.2.2.1) (sd := σ.2.2.2.2.1) (len := σ.2.2.2.2.2.1) (ps := σ.2.2.2.2.2.2) hC15 hn18 hh19 hsv ⟨r, hr, hW21⟩ hG22
          have hF24 := fun q hq => (hG22 q (by omega)).trans (hF17 q hq)
          refine lv_pop hx hb dX5_buy_79 rfl ?_
          refine lv_iload hx hb dX5_buy_80 (lv_at hl 0 rfl) ?_
          have hf : fBuy σ (nI x') (nI y') (nI c') = ((nI j9), (sellV σ.1 (y' * 10 + x') c', keepN σ.2.1, keepH σ.2.2.1 σ.2.1 σ.1, σ.2.2.2.1, σ.2.2.2.2.1, σ.2.2.2.2.2.1, σ.2.2.2.2.2.2)) := by
            simp [fBuy, chg, sV, sN, sH, sS, sD, sL, sP, h2, tx3, tx4, h6, tx7, h8, h10]
            try omega
          rw [hf]
          exact z_iret hE hH hS rfl ⟨hC23, hF24⟩ dX5_buy_82
        · refine lv_bipush (v := (-5)) hx hb dX5_buy_55 (by decide) ?_
          have hf : fBuy σ (nI x') (nI y') (nI c') = ((-5), (σ.1, σ.2.1, σ.2.2.1, σ.2.2.2.1, σ.2.2.2.2.1, σ.2.2.2.2.2.1, σ.2.2.2.2.2.2)) := by
            simp [fBuy, chg, sV, sN, sH, sS, sD, sL, sP, h2, tx3, tx4, h6, tx7, h8, h10]
            try omega
          rw [hf]
          exact z_iret hE hH hS rfl ⟨hC, hF⟩ dX5_buy_57
    · refine lv_bipush (v := (-2)) hx hb dX5_buy_21 (by decide) ?_
      have hf : fBuy σ (nI x') (nI y') c = ((-2), (σ.1, σ.2.1, σ.2.2.1, σ.2.2.2.1, σ.2.2.2.2.1, σ.2.2.2.2.2.1, σ.2.2.2.2.2.2)) := by
        simp [fBuy, chg, sV, sN, sH, sS, sD, sL, sP, h2, tx3, tx4, h6]
        try omega
      rw [hf]
      exact z_iret hE hH hS rfl ⟨hC, hF⟩ dX5_buy_23
  · refine lv_iconst (v := (-1)) hx hb dX5_buy_8 (by decide) ?_
    have hf : fBuy σ x y c = ((-1), (σ.1, σ.2.1, σ.2.2.1, σ.2.2.2.1, σ.2.2.2.2.1, σ.2.2.2.2.2.1, σ.2.2.2.2.2.2)) := by
      simp [fBuy, chg, sV, sN, sH, sS, sD, sL, sP, h2]
      try omega
    rw [hf]
    exact z_iret hE hH hS rfl ⟨hC, hF⟩ dX5_buy_9

set_option maxHeartbeats 4000000 in
set_option maxRecDepth 100000 in
theorem c_X5_pass (l : Launch) (G : zG) (B0 : Nat) (M : Mm) (σ : Sg) (b : Nat) (hC : Cl G b σ M) (hok : sOk σ) (hBb : B0 ≤ b) (d : Int32) : zMet l yX5_pass cX5_pass 2 (some .int) 5 0 0 G B0 M [.ref b, .int d] (some (.int (fPass σ d).1)) (fun M1 => Cl G b (fPass σ d).2 M1 ∧ ∀ q, (q < b ∨ b + 278 ≤ q) → M1 q = M q) := by
  refine z_met RX5 [(0, .ref b), (1, .int d)] (by decide) rfl (Nat.le_of_ble_eq_true rfl) rfl ?_
  intro pg ev s m below meth cd ls hE hin hB0 hH hl
  have hx := hE.1
  have hb := hE.2.1
  have hv : wOk σ.1 := hok.hw
  have hn : σ.1 0 ≤ 12 := hv.1
  have hdy : σ.1 1 ≤ 9999 := hok.1.2
  have hn6 : σ.2.1 ≤ 6 := hok.2.1
  have hhv : ∀ k, k < σ.2.1 → wOk (σ.2.2.1 k) := hok.hh
  have hsv : ∀ k, k < 2 → σ.2.2.2.2.1 k = true → wOk (σ.2.2.2.1 k) := hok.hs
  have hln : σ.2.2.2.2.2.1 ≤ 60 := hok.2.2.2.2.1
  obtain ⟨r, hr, hW⟩ := hC.2.1
  have hF : ∀ q, (q < b ∨ b + 278 ≤ q) → M q = M q := fun _ _ => rfl
  refine z_gen B0 (fun H locs hH hS => ?_) hH
  refine lv_iload_n hx hb dX5_pass_0 rfl (lv_at hl 1 rfl) ?_
  refine n_iconst hx hb 1 dX5_pass_1 (by decide) ?_
  refine n_bipush hx hb 100 dX5_pass_2 (by decide) ?_
  refine z_callS (rest := []) (st2 := [.int (zb (wi d (nI 1) (nI 100)))]) hE hH hS hB0 hl ca_X5_isWithin mkX5_45 (c_X5_isWithin l G B0 M d (nI 1) (nI 100)) rfl rfl rfl ⟨Nat.le_of_ble_eq_true rfl, Nat.le_of_ble_eq_true rfl⟩ (Nat.le_of_ble_eq_true rfl) ⟨Nat.le_refl _, Nat.le_refl _⟩ dX5_pass_4 (fun H locs M1 hH hp hS => ?_)
  subst hp
  refine b_if_ne (tgt := 13) hx hb dX5_pass_7 (by decide) (fun h2 => ?_) (fun h2 => ?_)
  · obtain ⟨d', rfl, d1, d2⟩ := wi_nat (by decide) (by decide) h2
    have tx3 : tn (nI d') = d' := tn_nI (by omega)
    refine lv_aload_n hx hb dX5_pass_13 rfl (lv_at hl 0 rfl) ?_
    refine z_get (T := TX5) (v := .ref (b + 1)) hE hH hC.1 rfl uw_X5 0 (by decide) fkX5_12 rfl dX5_pass_14 ?_
    refine z_get (T := TX4) (v := .int (nI (σ.1 1))) hE hH hW.1 rfl uw_X4 3 (by decide) fkX5_107 rfl dX5_pass_17 ?_
    refine lv_iload_n hx hb dX5_pass_20 rfl (lv_at hl 1 rfl) ?_
    refine n_iadd hx hb dX5_pass_21 ?_
    refine n_sipush hx hb 9999 dX5_pass_22 (by decide) ?_
    refine n_cmp_le (tgt := 31) hx hb (by omega) (by decide) dX5_pass_25 (by decide) (fun h4 => ?_) (fun h4 => ?_)
    · refine lv_aload_n hx hb dX5_pass_31 rfl (lv_at hl 0 rfl) ?_
      refine z_get (T := TX5) (v := .ref (b + 55)) hE hH hC.1 rfl uw_X5 2 (by decide) fkX5_22 rfl dX5_pass_32 ?_
      refine lv_aload_n hx hb dX5_pass_35 rfl (lv_at hl 0 rfl) ?_
      refine z_get (T := TX5) (v := .ref (b + 1)) hE hH hC.1 rfl uw_X5 0 (by decide) fkX5_12 rfl dX5_pass_36 ?_
      obtain ⟨tt, htt, hBt, hLt⟩ := id hC.2.2.2.1
      refine z_callV (rest := []) (st2 := []) hE hH hS hB0 hl ca_X1_keep mkX5_53 (c_X1_keep l G B0 M (b + 55) σ.2.1 σ.2.2.1 hC.2.2.2.1 hn6 hhv (b + 1) r σ.1 hW hr hv (by omega) (by omega)) hBt.1 rfl rfl rfl rfl rfl ⟨Nat.le_of_ble_eq_true rfl, Nat.le_of_ble_eq_true rfl⟩ (Nat.le_of_ble_eq_true rfl) ⟨Nat.le_refl _, Nat.le_refl _⟩ dX5_pass_39 (fun H locs M6 hH hp hS => ?_)
      obtain ⟨hK7, hG8⟩ := hp
      have hC9 : Cl G b (σ.1, keepN σ.2.1, keepH σ.2.2.1 σ.2.1 σ.1, σ.2.2.2.1, σ.2.2.2.2.1, σ.2.2.2.2.2.1, σ.2.2.2.2.2.2) M6 := Cl.setH (v := σ.1) (hn := σ.2.1) (hist := σ.2.2.1) (sl := σ.2.2.2.1) (sd := σ.2.2.2.2.1) (len := σ.2.2.2.2.2.1) (ps := σ.2.2.2.2.2.2) hC hv hsv hK7 hG8
      have hW10 := WlR.kept hr hv.1 hW (fun q q1 q2 => hG8 q (by omega))
      have hF11 := fun q hq => (hG8 q (by omega)).trans (hF q hq)
      have hn12 := keepN_le hn6
      have hh13 := keepH_ok hn6 hhv hv
      refine lv_aload_n hx hb dX5_pass_42 rfl (lv_at hl 0 rfl) ?_
      refine z_get (T := TX5) (v := .ref (b + 1)) hE hH hC9.1 rfl uw_X5 0 (by decide) fkX5_12 rfl dX5_pass_43 ?_
      refine lv_dup hx hb dX5_pass_46 rfl ?_
      refine z_get (T := TX4) (v := .int (nI (σ.1 1))) hE hH hW10.1 rfl uw_X4 3 (by decide) fkX5_107 rfl dX5_pass_47 ?_
      refine lv_iload_n hx hb dX5_pass_50 rfl (lv_at hl 1 rfl) ?_
      refine n_iadd hx hb dX5_pass_51 ?_
      refine z_put (T := TX4) hE hH hS hW10.1 rfl uw_X4 tyX4 tyX4_ok nmX4 3 (by decide) fkX5_107 rfl rfl rfl (Nat.le_of_ble_eq_true rfl) (by omega) dX5_pass_52 (fun H locs M16 hH hS e14 o15 => ?_)
      have hW17 := WlR.setS (i := 1) hW10 (by decide) e14 o15
      have z18 : (vset σ.1 1 ((σ.1 1) + d')) 0 = σ.1 0 := fset_ne _ _ (by omega)
      have hF19 := fun q hq => (o15 q (by omega)).trans (hF11 q hq)
      have hC20 : Cl G b (vset σ.1 1 ((σ.1 1) + d'), keepN σ.2.1, keepH σ.2.2.1 σ.2.1 σ.1, σ.2.2.2.1, σ.2.2.2.2.1, σ.2.2.2.2.2.1, σ.2.2.2.2.2.2) M16 := Cl.setW (v := σ.1) (hn := keepN σ.2.1) (hist := keepH σ.2.2.1 σ.2.1 σ.1) (sl := σ.2.2.2.1) (sd := σ.2.2.2.2.1) (len := σ.2.2.2.2.2.1) (ps := σ.2.2.2.2.2.2) hC9 hn12 hh13 hsv ⟨r, hr, hW17⟩ (fun q hq => o15 q (by omega))
      have hv21 : wOk (vset σ.1 1 ((σ.1 1) + d')) := hv.setDay (by omega)
      refine lv_aload_n hx hb dX5_pass_55 rfl (lv_at hl 0 rfl) ?_
      refine z_get (T := TX5) (v := .ref (b + 1)) hE hH hC20.1 rfl uw_X5 0 (by decide) fkX5_12 rfl dX5_pass_56 ?_
      refine lv_iload_n hx hb dX5_pass_59 rfl (lv_at hl 1 rfl) ?_
      refine z_callV (rest := []) (st2 := [.int (nI (fadS (vset σ.1 1 ((σ.1 1) + d')) d'))]) hE hH hS hB0 hl ca_X4_fade mkX5_110 (c_X4_fade l G B0 M16 (b + 1) r (vset σ.1 1 ((σ.1 1) + d')) hW17 hr hv21 (by omega) d' (by omega)) hW17.1 rfl rfl rfl rfl rfl ⟨Nat.le_of_ble_eq_true rfl, Nat.le_of_ble_eq_true rfl⟩ (Nat.le_of_ble_eq_true rfl) ⟨Nat.le_refl _, Nat.le_refl _⟩ dX5_pass_60 (fun H locs M22 hH hp hS => ?_)
      obtain ⟨hW23, hG24⟩ := hp
      have hC25 : Cl G b (fadA (vset σ.1 1 ((σ.1 1) + d')) d' 60, keepN σ.2.1, keepH σ.2.2.1 σ.2.1 σ.1, σ.2.2.2.1, σ.2.2.2.2.1, σ.2.2.2.2.2.1, σ.2.2.2.2.2.2) M22 := Cl.setW (v := vset σ.1 1 ((σ.1 1) + d')) (hn := keepN σ.2.1) (hist := keepH σ.2.2.1 σ.2.1 σ.1) (sl := σ.2.2.2.1) (sd := σ.2.2.2.2.1) (len := σ.2.2.2.2.2.1) (ps := σ.2.2.2.2.2.2) hC20 hn12 hh13 hsv ⟨r, hr, hW23⟩ hG24
      have hF26 := fun q hq => (hG24 q (by omega)).trans (hF19 q hq)
      have hf : fPass σ (nI d') = ((nI (fadS (vset σ.1 1 ((σ.1 1) + d')) d')), (fadA (vset σ.1 1 ((σ.1 1) + d')) d' 60, keepN σ.2.1, keepH σ.2.2.1 σ.2.1 σ.1, σ.2.2.2.1, σ.2.2.2.2.1, σ.2.2.2.2.2.1, σ.2.2.2.2.2.2)) := by
        simp [fPass, chg, sV, sN, sH, sS, sD, sL, sP, h2, tx3, h4]
        try omega
      rw [hf]
      exact z_iret hE hH hS rfl ⟨hC25, hF26⟩ dX5_pass_63
    · refine lv_bipush (v := (-4)) hx hb dX5_pass_28 (by decide) ?_
      have hf : fPass σ (nI d') = ((-4), (σ.1, σ.2.1, σ.2.2.1, σ.2.2.2.1, σ.2.2.2.2.1, σ.2.2.2.2.2.1, σ.2.2.2.2.2.2)) := by
        simp [fPass, chg, sV, sN, sH, sS, sD, sL, sP, h2, tx3, h4]
        try omega
      rw [hf]
      exact z_iret hE hH hS rfl ⟨hC, hF⟩ dX5_pass_30
  · refine lv_bipush (v := (-2)) hx hb dX5_pass_10 (by decide) ?_
    have hf : fPass σ d = ((-2), (σ.1, σ.2.1, σ.2.2.1, σ.2.2.2.1, σ.2.2.2.2.1, σ.2.2.2.2.2.1, σ.2.2.2.2.2.2)) := by
      simp [fPass, chg, sV, sN, sH, sS, sD, sL, sP, h2]
      try omega
    rw [hf]
    exact z_iret hE hH hS rfl ⟨hC, hF⟩ dX5_pass_12
