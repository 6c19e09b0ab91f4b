/-- the reader's first values don't matter -/
theorem tkB_lt {p : Nat} (hp : p < 4) (u u' : Option Nat) (c : Nat) : tkB p u c = tkB p u' c := by
  rcases (show p = 0 ∨ p = 1 ∨ p = 2 ∨ p = 3 by omega) with rfl | rfl | rfl | rfl <;> rfl
theorem rst_le (g : RS) (ps : Nat → Nat) : ∀ k, (rst g ps k).1 ≤ 4
  | 0 => Nat.zero_le _
  | k + 1 => tkP_le _ _
theorem ffR_rel (g g2 : RS) (ps : Nat → Nat) : ∀ k, (rst g ps k).1 = (rst g2 ps k).1 ∧ ((rst g ps k).1 = 4 → (rst g ps k).2.2.2 = (rst g2 ps k).2.2.2)
  | 0 => ⟨rfl, fun h => by cases h⟩
  | k + 1 => by
    obtain ⟨h1, h2⟩ := ffR_rel g g2 ps k
    refine ⟨by show tkP _ _ = tkP _ _; rw [h1], fun h4 => ?_⟩
    have h5 : tkP (rst g ps k).1 (ps k) = 4 := h4
    have h6 := rst_le g ps k
    show tkU (rst g ps k).1 (rst g ps k).2.2.2 (ps k) = tkU (rst g2 ps k).1 (rst g2 ps k).2.2.2 (ps k)
    rw [← h1]
    generalize (rst g ps k).1 = p at *
    rcases (show p = 0 ∨ p = 1 ∨ p = 2 ∨ p = 3 ∨ p = 4 by omega) with rfl | rfl | rfl | rfl | rfl
    · cases h5
    · cases h5
    · cases h5
    · rfl
    · rw [h2 rfl]
theorem bad_rel (g g2 : RS) (ps : Nat → Nat) (k : Nat) : bad g ps k = bad g2 ps k := by
  obtain ⟨h1, h2⟩ := ffR_rel g g2 ps k
  have h6 := rst_le g ps k
  unfold bad
  rw [← h1]
  by_cases h4 : (rst g ps k).1 = 4
  · rw [h2 h4]
  · rw [tkB_lt (by omega) (rst g ps k).2.2.2 (rst g2 ps k).2.2.2]
theorem ffR_eq (g g2 : RS) (ps : Nat → Nat) (len : Nat) : ffR g ps len = ffR g2 ps len := by
  unfold ffR
  rw [show bad g ps = bad g2 ps from funext (bad_rel g g2 ps), (ffR_rel g g2 ps len).1]
abbrev g0 : RS := (0, none, none, none)
def flt (ps : Nat → Nat) (len : Nat) : Option Nat := ffR g0 ps len
/-- from the fifth sign on all is read from the text -/
theorem rst_eq (g g2 : RS) (ps : Nat → Nat) : ∀ k, rst g ps (k + 4) = rst g2 ps (k + 4)
  | 0 => rfl
  | k + 1 => by show tkS (rst g ps (k + 4)) _ = tkS (rst g2 ps (k + 4)) _; rw [rst_eq g g2 ps k]
theorem rst_inv (g : RS) (ps : Nat → Nat) : ∀ k, zfind (bad g ps) k = none → (1 ≤ (rst g ps k).1 → ∃ x, (rst g ps k).2.1 = some x ∧ x < 10) ∧ (2 ≤ (rst g ps k).1 → ∃ y, (rst g ps k).2.2.1 = some y ∧ y < 6)
  | 0, _ => ⟨fun h => absurd h (by show ¬ 1 ≤ 0; omega), fun h => absurd h (by show ¬ 2 ≤ 0; omega)⟩
  | k + 1, h => by
    have hk := zfind_pre h (Nat.le_succ k)
    have hb := zfind_none h k (by omega)
    have hb2 : tkB (rst g ps k).1 (rst g ps k).2.2.2 (ps k) = true := by
      unfold bad at hb
      simpa using hb
    obtain ⟨i1, i2⟩ := rst_inv g ps k hk
    have h6 := rst_le g ps k
    show (1 ≤ tkP (rst g ps k).1 (ps k) → ∃ x, tkX (rst g ps k).1 (rst g ps k).2.1 (ps k) = some x ∧ x < 10) ∧ (2 ≤ tkP (rst g ps k).1 (ps k) → ∃ y, tkY (rst g ps k).1 (rst g ps k).2.2.1 (ps k) = some y ∧ y < 6)
    generalize (rst g ps k).1 = p at *
    generalize (rst g ps k).2.1 = xo at *
    generalize (rst g ps k).2.2.1 = yo at *
    generalize (rst g ps k).2.2.2 = uo at *
    generalize ps k = c at *
    rcases (show p = 0 ∨ p = 1 ∨ p = 2 ∨ p = 3 ∨ p = 4 by omega) with rfl | rfl | rfl | rfl | rfl
    · refine ⟨fun _ => ?_, fun q => absurd q (by show ¬ 2 ≤ 1; omega)⟩
      obtain ⟨d, hd, hd9⟩ := dgt_of hb2
      exact ⟨d, hd, by omega⟩
    · refine ⟨fun _ => i1 (by omega), fun _ => ?_⟩
      cases hd : dgt c with
      | none =>
        have hb3 : (dgt c).elim false (fun d => decide (d ≤ 5)) = true := hb2
        rw [hd] at hb3; cases hb3
      | some d =>
        have hb3 : (dgt c).elim false (fun d => decide (d ≤ 5)) = true := hb2
        rw [hd] at hb3
        have hb4 : decide (d ≤ 5) = true := hb3
        rw [decide_eq_true_eq] at hb4
        exact ⟨d, hd, by omega⟩
    · exact ⟨fun _ => i1 (by omega), fun _ => i2 (by omega)⟩
    · exact ⟨fun _ => i1 (by omega), fun _ => i2 (by omega)⟩
    · exact ⟨fun _ => i1 (by omega), fun _ => i2 (by omega)⟩
theorem tkB_59 {p : Nat} {uo : Option Nat} (hp : p ≤ 4) (h : tkB p uo 59 = true) : p = 4 := by
  rcases (show p = 0 ∨ p = 1 ∨ p = 2 ∨ p = 3 ∨ p = 4 by omega) with rfl | rfl | rfl | rfl | rfl
  · rw [tkB_lt (by decide) uo none] at h; exact absurd h (by decide)
  · rw [tkB_lt (by decide) uo none] at h; exact absurd h (by decide)
  · rw [tkB_lt (by decide) uo none] at h; exact absurd h (by decide)
  · rw [tkB_lt (by decide) uo none] at h; exact absurd h (by decide)
  · rfl
theorem ffR_none {g : RS} {ps : Nat → Nat} {len : Nat} (h : ffR g ps len = none) : zfind (bad g ps) len = none ∧ (rst g ps len).1 = 4 := by
  unfold ffR at h
  cases hz : zfind (bad g ps) len with
  | some i => rw [hz] at h; cases h
  | none =>
    rw [hz] at h
    refine ⟨rfl, ?_⟩
    have h2 : (if (rst g ps len).1 = 4 then none else some len) = none := h
    by_cases h4 : (rst g ps len).1 = 4
    · exact h4
    · rw [if_neg h4] at h2; cases h2
theorem txt_end {g : RS} {ps : Nat → Nat} {len : Nat} (h : ffR g ps len = none) {k : Nat} (hk : k < len) (he : k + 1 = len ∨ ps k = 59) : (k + 1 = len ∧ (rst g ps (k + 1)).1 = 4) ∨ (ps k = 59 ∧ (rst g ps k).1 = 4) := by
  obtain ⟨h1, h2⟩ := ffR_none h
  rcases he with rfl | h59
  · exact Or.inl ⟨rfl, h2⟩
  · refine Or.inr ⟨h59, ?_⟩
    have hb := zfind_none h1 k hk
    have hb2 : tkB (rst g ps k).1 (rst g ps k).2.2.2 (ps k) = true := by
      unfold bad at hb
      simpa using hb
    rw [h59] at hb2
    exact tkB_59 (rst_le g ps k) hb2
theorem txtOk_of {g : RS} {ps : Nat → Nat} {len : Nat} (h : ffR g ps len = none) : txtOk g ps len := by
  obtain ⟨h1, h2⟩ := ffR_none h
  refine ⟨h1, fun k hk he => ?_⟩
  rcases txt_end h hk he with ⟨e, h4⟩ | ⟨h59, h4⟩
  · have hz : zfind (bad g ps) (k + 1) = none := by rw [e]; exact h1
    obtain ⟨i1, i2⟩ := rst_inv g ps (k + 1) hz
    obtain ⟨x, hx, hx9⟩ := i1 (by omega)
    obtain ⟨y, hy, hy9⟩ := i2 (by omega)
    obtain ⟨u, hu, hu9⟩ := (rst_ok g ps (k + 1) hz).2 h4
    exact ⟨x, y, u, hx, hy, hu, hx9, hy9, hu9⟩
  · have hz : zfind (bad g ps) k = none := zfind_pre h1 (by omega)
    obtain ⟨i1, i2⟩ := rst_inv g ps k hz
    obtain ⟨x, hx, hx9⟩ := i1 (by omega)
    obtain ⟨y, hy, hy9⟩ := i2 (by omega)
    obtain ⟨u, hu, hu9⟩ := (rst_ok g ps k hz).2 h4
    refine ⟨x, y, u, ?_, ?_, ?_, hx9, hy9, hu9⟩
    · show tkX (rst g ps k).1 (rst g ps k).2.1 (ps k) = some x
      rw [h4]; exact hx
    · show tkY (rst g ps k).1 (rst g ps k).2.2.1 (ps k) = some y
      rw [h4]; exact hy
    · show tkU (rst g ps k).1 (rst g ps k).2.2.2 (ps k) = some u
      rw [h4, h59]
      unfold tkU
      rw [if_neg (by decide), if_neg (fun q => q.2.1 rfl)]; exact hu
/-- an end of a buyer is at the fifth sign or behind it -/
theorem txt_far {g : RS} {ps : Nat → Nat} {len : Nat} (h : ffR g ps len = none) {k : Nat} (hk : k < len) (he : k + 1 = len ∨ ps k = 59) : 4 ≤ k + 1 := by
  have key : ∀ j, j < 4 → (rst g ps j).1 < 4 := by
    intro j hj
    rcases (show j = 0 ∨ j = 1 ∨ j = 2 ∨ j = 3 by omega) with rfl | rfl | rfl | rfl
    · show 0 < 4; omega
    · show 1 < 4; omega
    · show 2 < 4; omega
    · show 3 < 4; omega
  rcases txt_end h hk he with ⟨-, h4⟩ | ⟨-, h4⟩
  · apply Classical.byContradiction
    intro q
    have := key (k + 1) (by omega)
    omega
  · apply Classical.byContradiction
    intro q
    have := key k (by omega)
    omega
theorem sbV_eq {g : RS} (g2 : RS) {ps : Nat → Nat} {len : Nat} (v : Wv) (h : ffR g ps len = none) : ∀ k, k ≤ len → sbV g ps len v k = sbV g2 ps len v k
  | 0, _ => rfl
  | k + 1, hk => by
    rw [sbV_succ, sbV_succ, sbV_eq g2 v h k (by omega)]
    by_cases he : k + 1 = len ∨ ps k = 59
    · have h4 := txt_far h (by omega) he
      obtain ⟨j, hj⟩ : ∃ j, k + 1 = j + 4 := ⟨k + 1 - 4, by omega⟩
      rw [if_pos he, if_pos he, hj, rst_eq g g2 ps j]
    · rw [if_neg he, if_neg he]
theorem sbN_eq {g : RS} (g2 : RS) {ps : Nat → Nat} {len : Nat} (v : Wv) (h : ffR g ps len = none) : ∀ k, k ≤ len → sbN g ps len v k = sbN g2 ps len v k
  | 0, _ => rfl
  | k + 1, hk => by
    rw [sbN_succ, sbN_succ, sbN_eq g2 v h k (by omega), sbV_eq g2 v h k (by omega)]
    by_cases he : k + 1 = len ∨ ps k = 59
    · have h4 := txt_far h (by omega) he
      obtain ⟨j, hj⟩ : ∃ j, k + 1 = j + 4 := ⟨k + 1 - 4, by omega⟩
      rw [hj, rst_eq g g2 ps j]
    · rw [if_neg (fun q => he q.1), if_neg (fun q => he q.1)]
def fBuyAll (σ : Sg) : Int32 × Sg := if flt (sP σ) (sL σ) = none then (nI (sbN g0 (sP σ) (sL σ) (sV σ) (sL σ)), (sbV g0 (sP σ) (sL σ) (sV σ) (sL σ), keepN (sN σ), keepH (sH σ) (sN σ) (sV σ), sS σ, sD σ, 0, sP σ)) else (-3, σ)
def cellN (v : Wv) (x y : Nat) : Nat → Int32
  | 0 => oI (prc v (-6) (y * 10 + x))
  | 1 => oI (seen v (-6) (y * 10 + x))
  | 2 => nI (seenV v (y * 10 + x))
  | 3 => nI (lieCnt v x y)
  | _ => nI (notClear v (y * 10 + x))
def fCell (σ : Sg) (x y c : Int32) : Int32 := if isC x y = false then -1 else if wi c (nI 0) (nI 4) = false then -2 else cellN (sV σ) (tn x) (tn y) (tn c)
def postN (v : Wv) (j : Nat) : Nat → Int32
  | 0 => nI (pv v j 0)
  | 1 => nI (pv v j 1)
  | 2 => nI (pv v j 2)
  | 3 => nI (pv v j 3)
  | 4 => nI (pv v j 4)
  | 5 => nI (seenCnt v j)
  | 6 => nI (pv v j 2 * pv v j 3) - nI (ncCnt (cv v j))
  | 7 => nI (ncCnt (cv v j)) - nI (seenCnt v j)
  | 8 => nI (pv v j 5)
  | 9 => nI (pv v j 6)
  | _ => nI (zsum (cv v j) 60)
def fPoster (σ : Sg) (p c : Int32) : Int32 := if isP (sV σ) p = false then -1 else if wi c (nI 0) (nI 10) = false then -2 else postN (sV σ) (tn p) (tn c)
def fVarnish (σ : Sg) (p x y : Int32) : Int32 := if isP (sV σ) p = false then -1 else if isC x y = false then -1 else if liesN (pv (sV σ) (tn p)) (tn x) (tn y) = true then nI (cv (sV σ) (tn p) (tn y * 10 + tn x)) else -6
def cntN (σ : Sg) : Nat → Int32
  | 0 => nI (sV σ 0)
  | 1 => nI (sV σ 1)
  | 2 => nI (pricedCnt (sV σ))
  | 3 => nI (unlikeCnt (sV σ))
  | 4 => oI (grtTo (sV σ) 60)
  | 5 => nI (sumW (sV σ) (-6))
  | 6 => nI (unseenCnt (sV σ))
  | 7 => nI (allClr (sV σ))
  | 8 => nI (sV σ 2)
  | 9 => nI (sV σ 3)
  | 10 => nI (sL σ)
  | _ => nI (sN σ)
def fCount (σ : Sg) (c : Int32) : Int32 := if wi c (nI 0) (nI 11) = false then -2 else cntN σ (tn c)
theorem wi_false {x : Int32} {a b : Nat} (ha : a < 2 ^ 31) (hb : b < 2 ^ 31) (h : wi x (nI a) (nI b) = false) : x.toInt < (a : Int) ∨ (b : Int) < x.toInt := by
  by_cases h1 : nI a ≤ x
  · by_cases h2 : x ≤ nI b
    · unfold wi at h
      rw [decide_eq_true h1, decide_eq_true h2] at h
      cases h
    · rw [Int32.le_iff_toInt_le, nI_toInt hb] at h2
      omega
  · rw [Int32.le_iff_toInt_le, nI_toInt ha] at h1
    omega
theorem wi_cases (x : Int32) (a b : Nat) : wi x (nI a) (nI b) = true ∨ wi x (nI a) (nI b) = false := by
  cases wi x (nI a) (nI b)
  · exact Or.inr rfl
  · exact Or.inl rfl

set_option maxHeartbeats 4000000 in
set_option maxRecDepth 100000 in
theorem c_X5_cell (l : Launch) (G : zG) (B0 : Nat) (M : Mm) (σ : Sg) (b : Nat) (hC : Cl G b σ M) (hok : sOk σ) (hBb : B0 ≤ b) (x y c : Int32) : zMet l yX5_cell cX5_cell 5 (some .int) 5 0 0 G B0 M [.ref b, .int x, .int y, .int c] (some (.int (fCell σ x y c))) (fun M1 => M = M1) := by
  refine z_met RX5 [(0, .ref b), (1, .int x), (2, .int y), (3, .int c)] (by decide) rfl (Nat.le_of_ble_eq_true rfl) rfl ?_
  intro pg ev s m below meth cd ls hE hin hB0 hH hl
  have hx := hE.1
  have hb := hE.2.1
  have hv : wOk σ.1 := hok.hw
  have hn : σ.1 0 ≤ 12 := hv.1
  have hdy : σ.1 1 ≤ 9999 := hok.1.2
  have hn6 : σ.2.1 ≤ 6 := hok.2.1
  have hhv : ∀ k, k < σ.2.1 → wOk (σ.2.2.1 k) := hok.hh
  have hsv : ∀ k, k < 2 → σ.2.2.2.2.1 k = true → wOk (σ.2.2.2.1 k) := hok.hs
  have hln : σ.2.2.2.2.2.1 ≤ 60 := hok.2.2.2.2.1
  obtain ⟨r, hr, hW⟩ := hC.2.1
  have hF : ∀ q, (q < b ∨ b + 278 ≤ q) → M q = M q := fun _ _ => rfl
  refine z_gen B0 (fun H locs hH hS => ?_) hH
  refine lv_iload_n hx hb dX5_cell_0 rfl (lv_at hl 1 rfl) ?_
  refine lv_iload_n hx hb dX5_cell_1 rfl (lv_at hl 2 rfl) ?_
  refine z_callS (rest := []) (st2 := [.int (zb (isC x y))]) hE hH hS hB0 hl ca_X5_isCell mkX5_41 (c_X5_isCell l G B0 M x y) rfl rfl rfl ⟨Nat.le_of_ble_eq_true rfl, Nat.le_of_ble_eq_true rfl⟩ (Nat.le_of_ble_eq_true rfl) ⟨Nat.le_refl _, Nat.le_refl _⟩ dX5_cell_2 (fun H locs M1 hH hp hS => ?_)
  subst hp
  refine b_if_ne (tgt := 10) hx hb dX5_cell_5 (by decide) (fun h2 => ?_) (fun h2 => ?_)
  · obtain ⟨x', y', rfl, rfl, x9, y9⟩ := isC_nat h2
    have tx3 : tn (nI x') = x' := tn_nI (by omega)
    have tx4 : tn (nI y') = y' := tn_nI (by omega)
    refine lv_iload_n hx hb dX5_cell_10 rfl (lv_at hl 1 rfl) ?_
    refine lv_iload_n hx hb dX5_cell_11 rfl (lv_at hl 2 rfl) ?_
    refine z_callS (rest := []) (st2 := [.int (nI (y' * 10 + x'))]) hE hH hS hB0 hl ca_X5_cellAt mkX5_77 (c_X5_cellAt l G B0 M x' y') rfl rfl rfl ⟨Nat.le_of_ble_eq_true rfl, Nat.le_of_ble_eq_true rfl⟩ (Nat.le_of_ble_eq_true rfl) ⟨Nat.le_refl _, Nat.le_refl _⟩ dX5_cell_12 (fun H locs M1 hH hp hS => ?_)
    subst hp
    refine lv_istore (lv' := [(4, .int (nI (y' * 10 + x'))), (0, .ref b), (1, .int (nI x')), (2, .int (nI y')), (3, .int c)]) hx hb dX5_cell_15 hl (by decide) rfl (fun ls hl => ?_)
    refine lv_iload_n hx hb dX5_cell_17 rfl (lv_at hl 4 rfl) ?_
    rcases wi_cases c 0 4 with hw5 | hw5
    · obtain ⟨c', rfl, c1, c2⟩ := wi_nat (by decide) (by decide) hw5
      rcases (show c' = 0 ∨ c' = 1 ∨ c' = 2 ∨ c' = 3 ∨ c' = 4 by omega) with rfl | rfl | rfl | rfl | rfl
      · have tx6 : tn (nI 0) = 0 := tn_nI (by decide)
        refine lv_tableIn (tgt := 52) hx hb dX5_cell_18 (by decide +kernel) (by decide +kernel) (off := 34) (by decide +kernel) (by decide) ?_
        refine lv_aload_n hx hb dX5_cell_52 rfl (lv_at hl 1 rfl) ?_
        refine z_get (T := TX5) (v := .ref (b + 1)) hE hH hC.1 rfl uw_X5 0 (by decide) fkX5_12 rfl dX5_cell_53 ?_
        refine lv_iload hx hb dX5_cell_56 (lv_at hl 0 rfl) ?_
        refine z_callV (rest := []) (st2 := [.int (oI (prc σ.1 (-6) (y' * 10 + x')))]) hE hH hS hB0 hl ca_X4_priceAt mkX5_80 (c_X4_priceAt l G B0 M (b + 1) r σ.1 hW hr hv (y' * 10 + x') (by omega)) hW.1 rfl rfl rfl rfl rfl ⟨Nat.le_of_ble_eq_true rfl, Nat.le_of_ble_eq_true rfl⟩ (Nat.le_of_ble_eq_true rfl) ⟨Nat.le_refl _, Nat.le_refl _⟩ dX5_cell_58 (fun H locs M1 hH hp hS => ?_)
        subst hp
        have hf : (fCell σ (nI x') (nI y') (nI 0)) = (oI (prc σ.1 (-6) (y' * 10 + x'))) := by
          simp [fCell, sV, sN, sL, cellN, h2, tx3, tx4, hw5, tx6]
        rw [hf]
        exact z_iret hE hH hS rfl rfl dX5_cell_61
      · have tx7 : tn (nI 1) = 1 := tn_nI (by decide)
        refine lv_tableIn (tgt := 62) hx hb dX5_cell_18 (by decide +kernel) (by decide +kernel) (off := 44) (by decide +kernel) (by decide) ?_
        refine lv_aload_n hx hb dX5_cell_62 rfl (lv_at hl 1 rfl) ?_
        refine z_get (T := TX5) (v := .ref (b + 1)) hE hH hC.1 rfl uw_X5 0 (by decide) fkX5_12 rfl dX5_cell_63 ?_
        refine lv_iload hx hb dX5_cell_66 (lv_at hl 0 rfl) ?_
        refine z_callV (rest := []) (st2 := [.int (oI (seen σ.1 (-6) (y' * 10 + x')))]) hE hH hS hB0 hl ca_X4_seenAt mkX5_113 (c_X4_seenAt l G B0 M (b + 1) r σ.1 hW hr hv (y' * 10 + x') (by omega)) hW.1 rfl rfl rfl rfl rfl ⟨Nat.le_of_ble_eq_true rfl, Nat.le_of_ble_eq_true rfl⟩ (Nat.le_of_ble_eq_true rfl) ⟨Nat.le_refl _, Nat.le_refl _⟩ dX5_cell_68 (fun H locs M1 hH hp hS => ?_)
        subst hp
        have hf : (fCell σ (nI x') (nI y') (nI 1)) = (oI (seen σ.1 (-6) (y' * 10 + x'))) := by
          simp [fCell, sV, sN, sL, cellN, h2, tx3, tx4, hw5, tx7]
        rw [hf]
        exact z_iret hE hH hS rfl rfl dX5_cell_71
      · have tx8 : tn (nI 2) = 2 := tn_nI (by decide)
        refine lv_tableIn (tgt := 72) hx hb dX5_cell_18 (by decide +kernel) (by decide +kernel) (off := 54) (by decide +kernel) (by decide) ?_
        refine lv_aload_n hx hb dX5_cell_72 rfl (lv_at hl 1 rfl) ?_
        refine z_get (T := TX5) (v := .ref (b + 1)) hE hH hC.1 rfl uw_X5 0 (by decide) fkX5_12 rfl dX5_cell_73 ?_
        refine lv_iload hx hb dX5_cell_76 (lv_at hl 0 rfl) ?_
        refine z_callV (rest := []) (st2 := [.int (nI (seenV σ.1 (y' * 10 + x')))]) hE hH hS hB0 hl ca_X4_seenVarnishAt mkX5_116 (c_X4_seenVarnishAt l G B0 M (b + 1) r σ.1 hW hr hv (y' * 10 + x') (by omega)) hW.1 rfl rfl rfl rfl rfl ⟨Nat.le_of_ble_eq_true rfl, Nat.le_of_ble_eq_true rfl⟩ (Nat.le_of_ble_eq_true rfl) ⟨Nat.le_refl _, Nat.le_refl _⟩ dX5_cell_78 (fun H locs M1 hH hp hS => ?_)
        subst hp
        have hf : (fCell σ (nI x') (nI y') (nI 2)) = (nI (seenV σ.1 (y' * 10 + x'))) := by
          simp [fCell, sV, sN, sL, cellN, h2, tx3, tx4, hw5, tx8]
        rw [hf]
        exact z_iret hE hH hS rfl rfl dX5_cell_81
      · have tx9 : tn (nI 3) = 3 := tn_nI (by decide)
        refine lv_tableIn (tgt := 82) hx hb dX5_cell_18 (by decide +kernel) (by decide +kernel) (off := 64) (by decide +kernel) (by decide) ?_
        refine lv_aload_n hx hb dX5_cell_82 rfl (lv_at hl 1 rfl) ?_
        refine z_get (T := TX5) (v := .ref (b + 1)) hE hH hC.1 rfl uw_X5 0 (by decide) fkX5_12 rfl dX5_cell_83 ?_
        refine lv_iload_n hx hb dX5_cell_86 rfl (lv_at hl 2 rfl) ?_
        refine lv_iload_n hx hb dX5_cell_87 rfl (lv_at hl 3 rfl) ?_
        refine z_callV (rest := []) (st2 := [.int (nI (lieCnt σ.1 x' y'))]) hE hH hS hB0 hl ca_X4_postersAt mkX5_119 (c_X4_postersAt l G B0 M (b + 1) r σ.1 hW hr hv x' y' (by omega) (by omega)) hW.1 rfl rfl rfl rfl rfl ⟨Nat.le_of_ble_eq_true rfl, Nat.le_of_ble_eq_true rfl⟩ (Nat.le_of_ble_eq_true rfl) ⟨Nat.le_refl _, Nat.le_refl _⟩ dX5_cell_88 (fun H locs M1 hH hp hS => ?_)
        subst hp
        have hf : (fCell σ (nI x') (nI y') (nI 3)) = (nI (lieCnt σ.1 x' y')) := by
          simp [fCell, sV, sN, sL, cellN, h2, tx3, tx4, hw5, tx9]
        rw [hf]
        exact z_iret hE hH hS rfl rfl dX5_cell_91
      · have tx10 : tn (nI 4) = 4 := tn_nI (by decide)
        refine lv_tableIn (tgt := 92) hx hb dX5_cell_18 (by decide +kernel) (by decide +kernel) (off := 74) (by decide +kernel) (by decide) ?_
        refine lv_aload_n hx hb dX5_cell_92 rfl (lv_at hl 1 rfl) ?_
        refine z_get (T := TX5) (v := .ref (b + 1)) hE hH hC.1 rfl uw_X5 0 (by decide) fkX5_12 rfl dX5_cell_93 ?_
        refine lv_iload hx hb dX5_cell_96 (lv_at hl 0 rfl) ?_
        refine z_callV (rest := []) (st2 := [.int (nI (notClear σ.1 (y' * 10 + x')))]) hE hH hS hB0 hl ca_X4_notClearAt mkX5_122 (c_X4_notClearAt l G B0 M (b + 1) r σ.1 hW hr hv (y' * 10 + x') (by omega)) hW.1 rfl rfl rfl rfl rfl ⟨Nat.le_of_ble_eq_true rfl, Nat.le_of_ble_eq_true rfl⟩ (Nat.le_of_ble_eq_true rfl) ⟨Nat.le_refl _, Nat.le_refl _⟩ dX5_cell_98 (fun H locs M1 hH hp hS => ?_)
        subst hp
        have hf : (fCell σ (nI x') (nI y') (nI 4)) = (nI (notClear σ.1 (y' * 10 + x'))) := by
          simp [fCell, sV, sN, sL, cellN, h2, tx3, tx4, hw5, tx10]
        rw [hf]
        exact z_iret hE hH hS rfl rfl dX5_cell_101
    · refine lv_tableOut (tgt := 102) hx hb dX5_cell_18 (wi_false (by decide) (by decide) hw5) (by decide) ?_
      refine lv_bipush (v := (-2)) hx hb dX5_cell_102 (by decide) ?_
      have hf : (fCell σ (nI x') (nI y') c) = (-2) := by
        simp [fCell, sV, sN, sL, cellN, h2, tx3, tx4, hw5]
      rw [hf]
      exact z_iret hE hH hS rfl rfl dX5_cell_104
  · refine lv_iconst (v := (-1)) hx hb dX5_cell_8 (by decide) ?_
    have hf : (fCell σ x y c) = (-1) := by
      simp [fCell, sV, sN, sL, cellN, h2]
    rw [hf]
    exact z_iret hE hH hS rfl rfl dX5_cell_9

set_option maxHeartbeats 4000000 in
set_option maxRecDepth 100000 in
theorem c_X5_poster (l : Launch) (G : zG) (B0 : Nat) (M : Mm) (σ : Sg) (b : Nat) (hC : Cl G b σ M) (hok : sOk σ) (hBb : B0 ≤ b) (p c : Int32) : zMet l yX5_poster cX5_poster 4 (some .int) 5 0 0 G B0 M [.ref b, .int p, .int c] (some (.int (fPoster σ p c))) (fun M1 => M = M1) := by
  refine z_met RX5 [(0, .ref b), (1, .int p), (2, .int c)] (by decide) rfl (Nat.le_of_ble_eq_true rfl) rfl ?_
  intro pg ev s m below meth cd ls hE hin hB0 hH hl
  have hx := hE.1
  have hb := hE.2.1
  have hv : wOk σ.1 := hok.hw
  have hn : σ.1 0 ≤ 12 := hv.1
  have hdy : σ.1 1 ≤ 9999 := hok.1.2
  have hn6 : σ.2.1 ≤ 6 := hok.2.1
  have hhv : ∀ k, k < σ.2.1 → wOk (σ.2.2.1 k) := hok.hh
  have hsv : ∀ k, k < 2 → σ.2.2.2.2.1 k = true → wOk (σ.2.2.2.1 k) := hok.hs
  have hln : σ.2.2.2.2.2.1 ≤ 60 := hok.2.2.2.2.1
  obtain ⟨r, hr, hW⟩ := hC.2.1
  have hF : ∀ q, (q < b ∨ b + 278 ≤ q) → M q = M q := fun _ _ => rfl
  refine z_gen B0 (fun H locs hH hS => ?_) hH
  refine lv_aload_n hx hb dX5_poster_0 rfl (lv_at hl 0 rfl) ?_
  refine lv_iload_n hx hb dX5_poster_1 rfl (lv_at hl 1 rfl) ?_
  refine z_callV (rest := []) (st2 := [.int (zb (isP σ.1 p))]) hE hH hS hB0 hl ca_X5_isPoster mkX5_61 (c_X5_isPoster l G B0 M σ b hC p) hC.1 rfl rfl rfl rfl rfl ⟨Nat.le_of_ble_eq_true rfl, Nat.le_of_ble_eq_true rfl⟩ (Nat.le_of_ble_eq_true rfl) ⟨Nat.le_refl _, Nat.le_refl _⟩ dX5_poster_2 (fun H locs M1 hH hp hS => ?_)
  subst hp
  refine b_if_ne (tgt := 10) hx hb dX5_poster_5 (by decide) (fun h2 => ?_) (fun h2 => ?_)
  · obtain ⟨p', rfl, p2⟩ := isP_nat hn h2
    have tx3 : tn (nI p') = p' := tn_nI (by omega)
    refine lv_aload_n hx hb dX5_poster_10 rfl (lv_at hl 0 rfl) ?_
    refine z_get (T := TX5) (v := .ref (b + 1)) hE hH hC.1 rfl uw_X5 0 (by decide) fkX5_12 rfl dX5_poster_11 ?_
    refine z_get (T := TX4) (v := .ref (b + 1 + 1)) hE hH hW.1 rfl uw_X4 0 (by decide) fkX5_125 rfl dX5_poster_14 ?_
    refine lv_iload_n hx hb dX5_poster_17 rfl (lv_at hl 1 rfl) ?_
    refine z_aald hE hH hW.2.1 rfl (k := p') (by omega) (by decide) dX5_poster_18 ?_
    refine lv_astore_n (lv' := [(3, .ref (b + 1 + 2 + 2 * r p')), (0, .ref b), (1, .int (nI p')), (2, .int c)]) hx hb dX5_poster_19 rfl hl (by decide) rfl (fun ls hl => ?_)
    refine lv_iload_n hx hb dX5_poster_20 rfl (lv_at hl 3 rfl) ?_
    rcases wi_cases c 0 10 with hw4 | hw4
    · obtain ⟨c', rfl, c1, c2⟩ := wi_nat (by decide) (by decide) hw4
      rcases (show c' = 0 ∨ c' = 1 ∨ c' = 2 ∨ c' = 3 ∨ c' = 4 ∨ c' = 5 ∨ c' = 6 ∨ c' = 7 ∨ c' = 8 ∨ c' = 9 ∨ c' = 10 by omega) with rfl | rfl | rfl | rfl | rfl | rfl | rfl | rfl | rfl | rfl | rfl
      · have tx5 : tn (nI 0) = 0 := tn_nI (by decide)
        refine lv_tableIn (tgt := 80) hx hb dX5_poster_21 (by decide +kernel) (by decide +kernel) (off := 59) (by decide +kernel) (by decide) ?_
        refine lv_aload_n hx hb dX5_poster_80 rfl (lv_at hl 0 rfl) ?_
        have q6 := hv.rect (j := p') (by omega)
        refine z_get (T := TX3) (v := .int (nI (pv σ.1 p' 0))) hE hH (hW.2.2.2.2 p' (by omega)).1 rfl uw_X3 0 (by decide) fkX5_129 rfl dX5_poster_81 ?_
        have hf : (fPoster σ (nI p') (nI 0)) = (nI (pv σ.1 p' 0)) := by
          simp [fPoster, sV, sN, sL, postN, h2, tx3, hw4, tx5]
        rw [hf]
        exact z_iret hE hH hS rfl rfl dX5_poster_84
      · have tx7 : tn (nI 1) = 1 := tn_nI (by decide)
        refine lv_tableIn (tgt := 85) hx hb dX5_poster_21 (by decide +kernel) (by decide +kernel) (off := 64) (by decide +kernel) (by decide) ?_
        refine lv_aload_n hx hb dX5_poster_85 rfl (lv_at hl 0 rfl) ?_
        have q8 := hv.rect (j := p') (by omega)
        refine z_get (T := TX3) (v := .int (nI (pv σ.1 p' 1))) hE hH (hW.2.2.2.2 p' (by omega)).1 rfl uw_X3 1 (by decide) fkX5_134 rfl dX5_poster_86 ?_
        have hf : (fPoster σ (nI p') (nI 1)) = (nI (pv σ.1 p' 1)) := by
          simp [fPoster, sV, sN, sL, postN, h2, tx3, hw4, tx7]
        rw [hf]
        exact z_iret hE hH hS rfl rfl dX5_poster_89
      · have tx9 : tn (nI 2) = 2 := tn_nI (by decide)
        refine lv_tableIn (tgt := 90) hx hb dX5_poster_21 (by decide +kernel) (by decide +kernel) (off := 69) (by decide +kernel) (by decide) ?_
        refine lv_aload_n hx hb dX5_poster_90 rfl (lv_at hl 0 rfl) ?_
        have q10 := hv.rect (j := p') (by omega)
        refine z_get (T := TX3) (v := .int (nI (pv σ.1 p' 2))) hE hH (hW.2.2.2.2 p' (by omega)).1 rfl uw_X3 2 (by decide) fkX5_137 rfl dX5_poster_91 ?_
        have hf : (fPoster σ (nI p') (nI 2)) = (nI (pv σ.1 p' 2)) := by
          simp [fPoster, sV, sN, sL, postN, h2, tx3, hw4, tx9]
        rw [hf]
        exact z_iret hE hH hS rfl rfl dX5_poster_94
      · have tx11 : tn (nI 3) = 3 := tn_nI (by decide)
        refine lv_tableIn (tgt := 95) hx hb dX5_poster_21 (by decide +kernel) (by decide +kernel) (off := 74) (by decide +kernel) (by decide) ?_
        refine lv_aload_n hx hb dX5_poster_95 rfl (lv_at hl 0 rfl) ?_
        have q12 := hv.rect (j := p') (by omega)
        refine z_get (T := TX3) (v := .int (nI (pv σ.1 p' 3))) hE hH (hW.2.2.2.2 p' (by omega)).1 rfl uw_X3 3 (by decide) fkX5_140 rfl dX5_poster_96 ?_
        have hf : (fPoster σ (nI p') (nI 3)) = (nI (pv σ.1 p' 3)) := by
          simp [fPoster, sV, sN, sL, postN, h2, tx3, hw4, tx11]
        rw [hf]
        exact z_iret hE hH hS rfl rfl dX5_poster_99
      · have tx13 : tn (nI 4) = 4 := tn_nI (by decide)
        refine lv_tableIn (tgt := 100) hx hb dX5_poster_21 (by decide +kernel) (by decide +kernel) (off := 79) (by decide +kernel) (by decide) ?_
        refine lv_aload_n hx hb dX5_poster_100 rfl (lv_at hl 0 rfl) ?_
        have q14 := hv.price (j := p') (by omega)
        refine z_get (T := TX3) (v := .int (nI (pv σ.1 p' 4))) hE hH (hW.2.2.2.2 p' (by omega)).1 rfl uw_X3 4 (by decide) fkX5_143 rfl dX5_poster_101 ?_
        have hf : (fPoster σ (nI p') (nI 4)) = (nI (pv σ.1 p' 4)) := by
          simp [fPoster, sV, sN, sL, postN, h2, tx3, hw4, tx13]
        rw [hf]
        exact z_iret hE hH hS rfl rfl dX5_poster_104
      · have tx15 : tn (nI 5) = 5 := tn_nI (by decide)
        refine lv_tableIn (tgt := 105) hx hb dX5_poster_21 (by decide +kernel) (by decide +kernel) (off := 84) (by decide +kernel) (by decide) ?_
        refine lv_aload_n hx hb dX5_poster_105 rfl (lv_at hl 1 rfl) ?_
        refine z_get (T := TX5) (v := .ref (b + 1)) hE hH hC.1 rfl uw_X5 0 (by decide) fkX5_12 rfl dX5_poster_106 ?_
        refine lv_iload_n hx hb dX5_poster_109 rfl (lv_at hl 2 rfl) ?_
        refine z_callV (rest := []) (st2 := [.int (nI (seenCnt σ.1 p'))]) hE hH hS hB0 hl ca_X4_seenCellsOf mkX5_65 (c_X4_seenCellsOf l G B0 M (b + 1) r σ.1 hW hr hv p' (by omega)) hW.1 rfl rfl rfl rfl rfl ⟨Nat.le_of_ble_eq_true rfl, Nat.le_of_ble_eq_true rfl⟩ (Nat.le_of_ble_eq_true rfl) ⟨Nat.le_refl _, Nat.le_refl _⟩ dX5_poster_110 (fun H locs M1 hH hp hS => ?_)
        subst hp
        have q16 := seenCnt_le σ.1 p'
        have hf : (fPoster σ (nI p') (nI 5)) = (nI (seenCnt σ.1 p')) := by
          simp [fPoster, sV, sN, sL, postN, h2, tx3, hw4, tx15]
        rw [hf]
        exact z_iret hE hH hS rfl rfl dX5_poster_113
      · have tx17 : tn (nI 6) = 6 := tn_nI (by decide)
        refine lv_tableIn (tgt := 114) hx hb dX5_poster_21 (by decide +kernel) (by decide +kernel) (off := 93) (by decide +kernel) (by decide) ?_
        refine lv_aload_n hx hb dX5_poster_114 rfl (lv_at hl 0 rfl) ?_
        refine z_callV (rest := []) (st2 := [.int (nI (pv σ.1 p' 2 * pv σ.1 p' 3) - nI (ncCnt (cv σ.1 p')))]) hE hH hS hB0 hl ca_X3_clearCells mkX5_146 (c_X3_clearCells l G B0 M (b + 1 + 2 + 2 * r p') (pv σ.1 p') (cv σ.1 p') (hW.2.2.2.2 p' (by omega)) (fun c hc => hv.coat (j := p') (by omega) hc)) (hW.2.2.2.2 p' (by omega)).1 rfl rfl rfl rfl rfl ⟨Nat.le_of_ble_eq_true rfl, Nat.le_of_ble_eq_true rfl⟩ (Nat.le_of_ble_eq_true rfl) ⟨Nat.le_refl _, Nat.le_refl _⟩ dX5_poster_115 (fun H locs M1 hH hp hS => ?_)
        subst hp
        have hf : (fPoster σ (nI p') (nI 6)) = (nI (pv σ.1 p' 2 * pv σ.1 p' 3) - nI (ncCnt (cv σ.1 p'))) := by
          simp [fPoster, sV, sN, sL, postN, h2, tx3, hw4, tx17]
        rw [hf]
        exact z_iret hE hH hS rfl rfl dX5_poster_118
      · have tx18 : tn (nI 7) = 7 := tn_nI (by decide)
        refine lv_tableIn (tgt := 119) hx hb dX5_poster_21 (by decide +kernel) (by decide +kernel) (off := 98) (by decide +kernel) (by decide) ?_
        refine lv_aload_n hx hb dX5_poster_119 rfl (lv_at hl 0 rfl) ?_
        refine z_callV (rest := []) (st2 := [.int (nI (ncCnt (cv σ.1 p')))]) hE hH hS hB0 hl ca_X3_notClearCells mkX5_149 (c_X3_notClearCells l G B0 M (b + 1 + 2 + 2 * r p') (pv σ.1 p') (cv σ.1 p') (hW.2.2.2.2 p' (by omega)) (fun c hc => hv.coat (j := p') (by omega) hc)) (hW.2.2.2.2 p' (by omega)).1 rfl rfl rfl rfl rfl ⟨Nat.le_of_ble_eq_true rfl, Nat.le_of_ble_eq_true rfl⟩ (Nat.le_of_ble_eq_true rfl) ⟨Nat.le_refl _, Nat.le_refl _⟩ dX5_poster_120 (fun H locs M1 hH hp hS => ?_)
        subst hp
        have q19 := ncCnt_le (cv σ.1 p')
        refine lv_aload_n hx hb dX5_poster_123 rfl (lv_at hl 1 rfl) ?_
        refine z_get (T := TX5) (v := .ref (b + 1)) hE hH hC.1 rfl uw_X5 0 (by decide) fkX5_12 rfl dX5_poster_124 ?_
        refine lv_iload_n hx hb dX5_poster_127 rfl (lv_at hl 2 rfl) ?_
        refine z_callV (rest := [.int (nI (ncCnt (cv σ.1 p')))]) (st2 := [.int (nI (seenCnt σ.1 p')), .int (nI (ncCnt (cv σ.1 p')))]) hE hH hS hB0 hl ca_X4_seenCellsOf mkX5_65 (c_X4_seenCellsOf l G B0 M (b + 1) r σ.1 hW hr hv p' (by omega)) hW.1 rfl rfl rfl rfl rfl ⟨Nat.le_of_ble_eq_true rfl, Nat.le_of_ble_eq_true rfl⟩ (Nat.le_of_ble_eq_true rfl) ⟨Nat.le_refl _, Nat.le_refl _⟩ dX5_poster_128 (fun H locs M1 hH hp hS => ?_)
        subst hp
        have q20 := seenCnt_le σ.1 p'
        refine lv_isub hx hb dX5_poster_131 ?_
        have hf : (fPoster σ (nI p') (nI 7)) = (nI (ncCnt (cv σ.1 p')) - nI (seenCnt σ.1 p')) := by
          simp [fPoster, sV, sN, sL, postN, h2, tx3, hw4, tx18]
        rw [hf]
        exact z_iret hE hH hS rfl rfl dX5_poster_132
      · have tx21 : tn (nI 8) = 8 := tn_nI (by decide)
        refine lv_tableIn (tgt := 133) hx hb dX5_poster_21 (by decide +kernel) (by decide +kernel) (off := 112) (by decide +kernel) (by decide) ?_
        refine lv_aload_n hx hb dX5_poster_133 rfl (lv_at hl 0 rfl) ?_
        refine z_get (T := TX3) (v := .int (nI (pv σ.1 p' 5))) hE hH (hW.2.2.2.2 p' (by omega)).1 rfl uw_X3 5 (by decide) fkX5_152 rfl dX5_poster_134 ?_
        have hf : (fPoster σ (nI p') (nI 8)) = (nI (pv σ.1 p' 5)) := by
          simp [fPoster, sV, sN, sL, postN, h2, tx3, hw4, tx21]
        rw [hf]
        exact z_iret hE hH hS rfl rfl dX5_poster_137
      · have tx23 : tn (nI 9) = 9 := tn_nI (by decide)
        refine lv_tableIn (tgt := 138) hx hb dX5_poster_21 (by decide +kernel) (by decide +kernel) (off := 117) (by decide +kernel) (by decide) ?_
        refine lv_aload_n hx hb dX5_poster_138 rfl (lv_at hl 0 rfl) ?_
        refine z_get (T := TX3) (v := .int (nI (pv σ.1 p' 6))) hE hH (hW.2.2.2.2 p' (by omega)).1 rfl uw_X3 6 (by decide) fkX5_155 rfl dX5_poster_139 ?_
        have hf : (fPoster σ (nI p') (nI 9)) = (nI (pv σ.1 p' 6)) := by
          simp [fPoster, sV, sN, sL, postN, h2, tx3, hw4, tx23]
        rw [hf]
        exact z_iret hE hH hS rfl rfl dX5_poster_142
      · have tx25 : tn (nI 10) = 10 := tn_nI (by decide)
        refine lv_tableIn (tgt := 143) hx hb dX5_poster_21 (by decide +kernel) (by decide +kernel) (off := 122) (by decide +kernel) (by decide) ?_
        refine lv_aload_n hx hb dX5_poster_143 rfl (lv_at hl 0 rfl) ?_
        refine z_callV (rest := []) (st2 := [.int (nI (zsum (cv σ.1 p') 60))]) hE hH hS hB0 hl ca_X3_allVarnish mkX5_158 (c_X3_allVarnish l G B0 M (b + 1 + 2 + 2 * r p') (pv σ.1 p') (cv σ.1 p') (hW.2.2.2.2 p' (by omega)) (fun c hc => hv.coat (j := p') (by omega) hc)) (hW.2.2.2.2 p' (by omega)).1 rfl rfl rfl rfl rfl ⟨Nat.le_of_ble_eq_true rfl, Nat.le_of_ble_eq_true rfl⟩ (Nat.le_of_ble_eq_true rfl) ⟨Nat.le_refl _, Nat.le_refl _⟩ dX5_poster_144 (fun H locs M1 hH hp hS => ?_)
        subst hp
        have hf : (fPoster σ (nI p') (nI 10)) = (nI (zsum (cv σ.1 p') 60)) := by
          simp [fPoster, sV, sN, sL, postN, h2, tx3, hw4, tx25]
        rw [hf]
        exact z_iret hE hH hS rfl rfl dX5_poster_147
    · refine lv_tableOut (tgt := 148) hx hb dX5_poster_21 (wi_false (by decide) (by decide) hw4) (by decide) ?_
      refine lv_bipush (v := (-2)) hx hb dX5_poster_148 (by decide) ?_
      have hf : (fPoster σ (nI p') c) = (-2) := by
        simp [fPoster, sV, sN, sL, postN, h2, tx3, hw4]
      rw [hf]
      exact z_iret hE hH hS rfl rfl dX5_poster_150
  · refine lv_iconst (v := (-1)) hx hb dX5_poster_8 (by decide) ?_
    have hf : (fPoster σ p c) = (-1) := by
      simp [fPoster, sV, sN, sL, postN, h2]
    rw [hf]
    exact z_iret hE hH hS rfl rfl dX5_poster_9

set_option maxHeartbeats 4000000 in
set_option maxRecDepth 100000 in
theorem c_X5_varnish (l : Launch) (G : zG) (B0 : Nat) (M : Mm) (σ : Sg) (b : Nat) (hC : Cl G b σ M) (hok : sOk σ) (hBb : B0 ≤ b) (p x y : Int32) : zMet l yX5_varnish cX5_varnish 5 (some .int) 5 0 0 G B0 M [.ref b, .int p, .int x, .int y] (some (.int (fVarnish σ p x y))) (fun M1 => M = M1) := by
  refine z_met RX5 [(0, .ref b), (1, .int p), (2, .int x), (3, .int y)] (by decide) rfl (Nat.le_of_ble_eq_true rfl) rfl ?_
  intro pg ev s m below meth cd ls hE hin hB0 hH hl
  have hx := hE.1
  have hb := hE.2.1
  have hv : wOk σ.1 := hok.hw
  have hn : σ.1 0 ≤ 12 := hv.1
  have hdy : σ.1 1 ≤ 9999 := hok.1.2
  have hn6 : σ.2.1 ≤ 6 := hok.2.1
  have hhv : ∀ k, k < σ.2.1 → wOk (σ.2.2.1 k) := hok.hh
  have hsv : ∀ k, k < 2 → σ.2.2.2.2.1 k = true → wOk (σ.2.2.2.1 k) := hok.hs
  have hln : σ.2.2.2.2.2.1 ≤ 60 := hok.2.2.2.2.1
  obtain ⟨r, hr, hW⟩ := hC.2.1
  have hF : ∀ q, (q < b ∨ b + 278 ≤ q) → M q = M q := fun _ _ => rfl
  refine z_gen B0 (fun H locs hH hS => ?_) hH
  refine lv_aload_n hx hb dX5_varnish_0 rfl (lv_at hl 0 rfl) ?_
  refine lv_iload_n hx hb dX5_varnish_1 rfl (lv_at hl 1 rfl) ?_
  refine z_callV (rest := []) (st2 := [.int (zb (isP σ.1 p))]) hE hH hS hB0 hl ca_X5_isPoster mkX5_61 (c_X5_isPoster l G B0 M σ b hC p) hC.1 rfl rfl rfl rfl rfl ⟨Nat.le_of_ble_eq_true rfl, Nat.le_of_ble_eq_true rfl⟩ (Nat.le_of_ble_eq_true rfl) ⟨Nat.le_refl _, Nat.le_refl _⟩ dX5_varnish_2 (fun H locs M1 hH hp hS => ?_)
  subst hp
  refine b_if_eq (tgt := 16) hx hb dX5_varnish_5 (by decide) (fun h2 => ?_) (fun h2 => ?_)
  · refine lv_iconst (v := (-1)) hx hb dX5_varnish_16 (by decide) ?_
    have hf : (fVarnish σ p x y) = (-1) := by
      simp [fVarnish, sV, sN, sL, h2]
    rw [hf]
    exact z_iret hE hH hS rfl rfl dX5_varnish_17
  · obtain ⟨p', rfl, p2⟩ := isP_nat hn h2
    have tx3 : tn (nI p') = p' := tn_nI (by omega)
    refine lv_iload_n hx hb dX5_varnish_8 rfl (lv_at hl 2 rfl) ?_
    refine lv_iload_n hx hb dX5_varnish_9 rfl (lv_at hl 3 rfl) ?_
    refine z_callS (rest := []) (st2 := [.int (zb (isC x y))]) hE hH hS hB0 hl ca_X5_isCell mkX5_41 (c_X5_isCell l G B0 M x y) rfl rfl rfl ⟨Nat.le_of_ble_eq_true rfl, Nat.le_of_ble_eq_true rfl⟩ (Nat.le_of_ble_eq_true rfl) ⟨Nat.le_refl _, Nat.le_refl _⟩ dX5_varnish_10 (fun H locs M1 hH hp hS => ?_)
    subst hp
    refine b_if_ne (tgt := 18) hx hb dX5_varnish_13 (by decide) (fun h5 => ?_) (fun h5 => ?_)
    · obtain ⟨x', y', rfl, rfl, x9, y9⟩ := isC_nat h5
      have tx6 : tn (nI x') = x' := tn_nI (by omega)
      have tx7 : tn (nI y') = y' := tn_nI (by omega)
      refine lv_aload_n hx hb dX5_varnish_18 rfl (lv_at hl 0 rfl) ?_
      refine z_get (T := TX5) (v := .ref (b + 1)) hE hH hC.1 rfl uw_X5 0 (by decide) fkX5_12 rfl dX5_varnish_19 ?_
      refine z_get (T := TX4) (v := .ref (b + 1 + 1)) hE hH hW.1 rfl uw_X4 0 (by decide) fkX5_125 rfl dX5_varnish_22 ?_
      refine lv_iload_n hx hb dX5_varnish_25 rfl (lv_at hl 1 rfl) ?_
      refine z_aald hE hH hW.2.1 rfl (k := p') (by omega) (by decide) dX5_varnish_26 ?_
      refine lv_astore (lv' := [(4, .ref (b + 1 + 2 + 2 * r p')), (0, .ref b), (1, .int (nI p')), (2, .int (nI x')), (3, .int (nI y'))]) hx hb dX5_varnish_27 hl (by decide) rfl (fun ls hl => ?_)
      refine lv_aload hx hb dX5_varnish_29 (lv_at hl 0 rfl) ?_
      refine lv_iload_n hx hb dX5_varnish_31 rfl (lv_at hl 3 rfl) ?_
      refine lv_iload_n hx hb dX5_varnish_32 rfl (lv_at hl 4 rfl) ?_
      refine z_callV (rest := []) (st2 := [.int (zb (liesN (pv σ.1 p') x' y'))]) hE hH hS hB0 hl ca_X3_liesAt mkX5_161 (c_X3_liesAt l G B0 M (b + 1 + 2 + 2 * r p') (pv σ.1 p') (cv σ.1 p') (hW.2.2.2.2 p' (by omega)) (hv.rect (j := p') (by omega)).2.1 (hv.rect (j := p') (by omega)).2.2.2 x' y' (by omega) (by omega)) (hW.2.2.2.2 p' (by omega)).1 rfl rfl rfl rfl rfl ⟨Nat.le_of_ble_eq_true rfl, Nat.le_of_ble_eq_true rfl⟩ (Nat.le_of_ble_eq_true rfl) ⟨Nat.le_refl _, Nat.le_refl _⟩ dX5_varnish_33 (fun H locs M1 hH hp hS => ?_)
      subst hp
      refine b_if_eq (tgt := 53) hx hb dX5_varnish_36 (by decide) (fun h9 => ?_) (fun h9 => ?_)
      · refine lv_bipush (v := (-6)) hx hb dX5_varnish_53 (by decide) ?_
        have hf : (fVarnish σ (nI p') (nI x') (nI y')) = (-6) := by
          simp [fVarnish, sV, sN, sL, h2, tx3, h5, tx6, tx7, h9]
        rw [hf]
        exact z_iret hE hH hS rfl rfl dX5_varnish_55
      · refine lv_aload hx hb dX5_varnish_39 (lv_at hl 0 rfl) ?_
        refine z_get (T := TX3) (v := .ref (b + 1 + 2 + 2 * r p' + 1)) hE hH (hW.2.2.2.2 p' (by omega)).1 rfl uw_X3 7 (by decide) fkX5_164 rfl dX5_varnish_41 ?_
        refine lv_iload_n hx hb dX5_varnish_44 rfl (lv_at hl 3 rfl) ?_
        refine lv_iload_n hx hb dX5_varnish_45 rfl (lv_at hl 4 rfl) ?_
        refine z_callS (rest := [.ref (b + 1 + 2 + 2 * r p' + 1)]) (st2 := [.int (nI (y' * 10 + x')), .ref (b + 1 + 2 + 2 * r p' + 1)]) hE hH hS hB0 hl ca_X5_cellAt mkX5_77 (c_X5_cellAt l G B0 M x' y') rfl rfl rfl ⟨Nat.le_of_ble_eq_true rfl, Nat.le_of_ble_eq_true rfl⟩ (Nat.le_of_ble_eq_true rfl) ⟨Nat.le_refl _, Nat.le_refl _⟩ dX5_varnish_46 (fun H locs M1 hH hp hS => ?_)
        subst hp
        refine z_iald hE hH (hW.2.2.2.2 p' (by omega)).2 (k := y' * 10 + x') (by omega) (by decide) dX5_varnish_49 ?_
        have q10 := hv.coat (j := p') (c := y' * 10 + x') (by omega) (by omega)
        refine lv_goto (tgt := 55) hx hb dX5_varnish_50 (by decide) ?_
        have hf : (fVarnish σ (nI p') (nI x') (nI y')) = (nI (cv σ.1 p' (y' * 10 + x'))) := by
          simp [fVarnish, sV, sN, sL, h2, tx3, h5, tx6, tx7, h9]
        rw [hf]
        exact z_iret hE hH hS rfl rfl dX5_varnish_55
    · refine lv_iconst (v := (-1)) hx hb dX5_varnish_16 (by decide) ?_
      have hf : (fVarnish σ (nI p') x y) = (-1) := by
        simp [fVarnish, sV, sN, sL, h2, tx3, h5]
      rw [hf]
      exact z_iret hE hH hS rfl rfl dX5_varnish_17

set_option maxHeartbeats 4000000 in
set_option maxRecDepth 100000 in
theorem c_X5_count (l : Launch) (G : zG) (B0 : Nat) (M : Mm) (σ : Sg) (b : Nat) (hC : Cl G b σ M) (hok : sOk σ) (hBb : B0 ≤ b) (c : Int32) : zMet l yX5_count cX5_count 2 (some .int) 6 0 0 G B0 M [.ref b, .int c] (some (.int (fCount σ c))) (fun M1 => M = M1) := by
  refine z_met RX5 [(0, .ref b), (1, .int c)] (by decide) rfl (Nat.le_of_ble_eq_true rfl) rfl ?_
  intro pg ev s m below meth cd ls hE hin hB0 hH hl
  have hx := hE.1
  have hb := hE.2.1
  have hv : wOk σ.1 := hok.hw
  have hn : σ.1 0 ≤ 12 := hv.1
  have hdy : σ.1 1 ≤ 9999 := hok.1.2
  have hn6 : σ.2.1 ≤ 6 := hok.2.1
  have hhv : ∀ k, k < σ.2.1 → wOk (σ.2.2.1 k) := hok.hh
  have hsv : ∀ k, k < 2 → σ.2.2.2.2.1 k = true → wOk (σ.2.2.2.1 k) := hok.hs
  have hln : σ.2.2.2.2.2.1 ≤ 60 := hok.2.2.2.2.1
  obtain ⟨r, hr, hW⟩ := hC.2.1
  have hF : ∀ q, (q < b ∨ b + 278 ≤ q) → M q = M q := fun _ _ => rfl
  refine z_gen B0 (fun H locs hH hS => ?_) hH
  refine lv_iload_n hx hb dX5_count_0 rfl (lv_at hl 1 rfl) ?_
  rcases wi_cases c 0 11 with hw1 | hw1
  · obtain ⟨c', rfl, c1, c2⟩ := wi_nat (by decide) (by decide) hw1
    rcases (show c' = 0 ∨ c' = 1 ∨ c' = 2 ∨ c' = 3 ∨ c' = 4 ∨ c' = 5 ∨ c' = 6 ∨ c' = 7 ∨ c' = 8 ∨ c' = 9 ∨ c' = 10 ∨ c' = 11 by omega) with rfl | rfl | rfl | rfl | rfl | rfl | rfl | rfl | rfl | rfl | rfl | rfl
    · have tx2 : tn (nI 0) = 0 := tn_nI (by decide)
      refine lv_tableIn (tgt := 64) hx hb dX5_count_1 (by decide +kernel) (by decide +kernel) (off := 63) (by decide +kernel) (by decide) ?_
      refine lv_aload_n hx hb dX5_count_64 rfl (lv_at hl 0 rfl) ?_
      refine z_get (T := TX5) (v := .ref (b + 1)) hE hH hC.1 rfl uw_X5 0 (by decide) fkX5_12 rfl dX5_count_65 ?_
      refine z_get (T := TX4) (v := .int (nI (σ.1 0))) hE hH hW.1 rfl uw_X4 1 (by decide) fkX5_49 rfl dX5_count_68 ?_
      have hf : (fCount σ (nI 0)) = (nI (σ.1 0)) := by
        simp [fCount, sV, sN, sL, cntN, hw1, tx2]
      rw [hf]
      exact z_iret hE hH hS rfl rfl dX5_count_71
    · have tx3 : tn (nI 1) = 1 := tn_nI (by decide)
      refine lv_tableIn (tgt := 72) hx hb dX5_count_1 (by decide +kernel) (by decide +kernel) (off := 71) (by decide +kernel) (by decide) ?_
      refine lv_aload_n hx hb dX5_count_72 rfl (lv_at hl 0 rfl) ?_
      refine z_get (T := TX5) (v := .ref (b + 1)) hE hH hC.1 rfl uw_X5 0 (by decide) fkX5_12 rfl dX5_count_73 ?_
      refine z_get (T := TX4) (v := .int (nI (σ.1 1))) hE hH hW.1 rfl uw_X4 3 (by decide) fkX5_107 rfl dX5_count_76 ?_
      have hf : (fCount σ (nI 1)) = (nI (σ.1 1)) := by
        simp [fCount, sV, sN, sL, cntN, hw1, tx3]
      rw [hf]
      exact z_iret hE hH hS rfl rfl dX5_count_79
    · have tx4 : tn (nI 2) = 2 := tn_nI (by decide)
      refine lv_tableIn (tgt := 80) hx hb dX5_count_1 (by decide +kernel) (by decide +kernel) (off := 79) (by decide +kernel) (by decide) ?_
      refine lv_aload_n hx hb dX5_count_80 rfl (lv_at hl 0 rfl) ?_
      refine z_get (T := TX5) (v := .ref (b + 1)) hE hH hC.1 rfl uw_X5 0 (by decide) fkX5_12 rfl dX5_count_81 ?_
      refine z_callV (rest := []) (st2 := [.int (nI (pricedCnt σ.1))]) hE hH hS hB0 hl ca_X4_cellsWithPrice mkX5_167 (c_X4_cellsWithPrice l G B0 M (b + 1) r σ.1 hW hr hv ) hW.1 rfl rfl rfl rfl rfl ⟨Nat.le_of_ble_eq_true rfl, Nat.le_of_ble_eq_true rfl⟩ (Nat.le_of_ble_eq_true rfl) ⟨Nat.le_refl _, Nat.le_refl _⟩ dX5_count_84 (fun H locs M1 hH hp hS => ?_)
      subst hp
      have hf : (fCount σ (nI 2)) = (nI (pricedCnt σ.1)) := by
        simp [fCount, sV, sN, sL, cntN, hw1, tx4]
      rw [hf]
      exact z_iret hE hH hS rfl rfl dX5_count_87
    · have tx5 : tn (nI 3) = 3 := tn_nI (by decide)
      refine lv_tableIn (tgt := 88) hx hb dX5_count_1 (by decide +kernel) (by decide +kernel) (off := 87) (by decide +kernel) (by decide) ?_
      refine lv_aload_n hx hb dX5_count_88 rfl (lv_at hl 0 rfl) ?_
      refine z_get (T := TX5) (v := .ref (b + 1)) hE hH hC.1 rfl uw_X5 0 (by decide) fkX5_12 rfl dX5_count_89 ?_
      refine z_callV (rest := []) (st2 := [.int (nI (unlikeCnt σ.1))]) hE hH hS hB0 hl ca_X4_unlikePrices mkX5_170 (c_X4_unlikePrices l G B0 M (b + 1) r σ.1 hW hr hv ) hW.1 rfl rfl rfl rfl rfl ⟨Nat.le_of_ble_eq_true rfl, Nat.le_of_ble_eq_true rfl⟩ (Nat.le_of_ble_eq_true rfl) ⟨Nat.le_refl _, Nat.le_refl _⟩ dX5_count_92 (fun H locs M1 hH hp hS => ?_)
      subst hp
      have hf : (fCount σ (nI 3)) = (nI (unlikeCnt σ.1)) := by
        simp [fCount, sV, sN, sL, cntN, hw1, tx5]
      rw [hf]
      exact z_iret hE hH hS rfl rfl dX5_count_95
    · have tx6 : tn (nI 4) = 4 := tn_nI (by decide)
      refine lv_tableIn (tgt := 96) hx hb dX5_count_1 (by decide +kernel) (by decide +kernel) (off := 95) (by decide +kernel) (by decide) ?_
      refine lv_aload_n hx hb dX5_count_96 rfl (lv_at hl 0 rfl) ?_
      refine z_get (T := TX5) (v := .ref (b + 1)) hE hH hC.1 rfl uw_X5 0 (by decide) fkX5_12 rfl dX5_count_97 ?_
      refine z_callV (rest := []) (st2 := [.int (oI (grtTo σ.1 60))]) hE hH hS hB0 hl ca_X4_greatestPrice mkX5_173 (c_X4_greatestPrice l G B0 M (b + 1) r σ.1 hW hr hv ) hW.1 rfl rfl rfl rfl rfl ⟨Nat.le_of_ble_eq_true rfl, Nat.le_of_ble_eq_true rfl⟩ (Nat.le_of_ble_eq_true rfl) ⟨Nat.le_refl _, Nat.le_refl _⟩ dX5_count_100 (fun H locs M1 hH hp hS => ?_)
      subst hp
      have hf : (fCount σ (nI 4)) = (oI (grtTo σ.1 60)) := by
        simp [fCount, sV, sN, sL, cntN, hw1, tx6]
      rw [hf]
      exact z_iret hE hH hS rfl rfl dX5_count_103
    · have tx7 : tn (nI 5) = 5 := tn_nI (by decide)
      refine lv_tableIn (tgt := 104) hx hb dX5_count_1 (by decide +kernel) (by decide +kernel) (off := 103) (by decide +kernel) (by decide) ?_
      refine lv_aload_n hx hb dX5_count_104 rfl (lv_at hl 0 rfl) ?_
      refine z_get (T := TX5) (v := .ref (b + 1)) hE hH hC.1 rfl uw_X5 0 (by decide) fkX5_12 rfl dX5_count_105 ?_
      refine lv_bipush (v := (-6)) hx hb dX5_count_108 (by decide) ?_
      refine z_callV (rest := []) (st2 := [.int (nI (sumW σ.1 (-6)))]) hE hH hS hB0 hl ca_X4_sumWithout mkX5_176 (c_X4_sumWithout l G B0 M (b + 1) r σ.1 hW hr hv (-6)) hW.1 rfl rfl rfl rfl rfl ⟨Nat.le_of_ble_eq_true rfl, Nat.le_of_ble_eq_true rfl⟩ (Nat.le_of_ble_eq_true rfl) ⟨Nat.le_refl _, Nat.le_refl _⟩ dX5_count_110 (fun H locs M1 hH hp hS => ?_)
      subst hp
      have hf : (fCount σ (nI 5)) = (nI (sumW σ.1 (-6))) := by
        simp [fCount, sV, sN, sL, cntN, hw1, tx7]
      rw [hf]
      exact z_iret hE hH hS rfl rfl dX5_count_113
    · have tx8 : tn (nI 6) = 6 := tn_nI (by decide)
      refine lv_tableIn (tgt := 114) hx hb dX5_count_1 (by decide +kernel) (by decide +kernel) (off := 113) (by decide +kernel) (by decide) ?_
      refine lv_aload_n hx hb dX5_count_114 rfl (lv_at hl 0 rfl) ?_
      refine z_get (T := TX5) (v := .ref (b + 1)) hE hH hC.1 rfl uw_X5 0 (by decide) fkX5_12 rfl dX5_count_115 ?_
      refine z_callV (rest := []) (st2 := [.int (nI (unseenCnt σ.1))]) hE hH hS hB0 hl ca_X4_postersUnseen mkX5_179 (c_X4_postersUnseen l G B0 M (b + 1) r σ.1 hW hr hv ) hW.1 rfl rfl rfl rfl rfl ⟨Nat.le_of_ble_eq_true rfl, Nat.le_of_ble_eq_true rfl⟩ (Nat.le_of_ble_eq_true rfl) ⟨Nat.le_refl _, Nat.le_refl _⟩ dX5_count_118 (fun H locs M1 hH hp hS => ?_)
      subst hp
      have hf : (fCount σ (nI 6)) = (nI (unseenCnt σ.1)) := by
        simp [fCount, sV, sN, sL, cntN, hw1, tx8]
      rw [hf]
      exact z_iret hE hH hS rfl rfl dX5_count_121
    · have tx9 : tn (nI 7) = 7 := tn_nI (by decide)
      refine lv_tableIn (tgt := 122) hx hb dX5_count_1 (by decide +kernel) (by decide +kernel) (off := 121) (by decide +kernel) (by decide) ?_
      refine lv_aload_n hx hb dX5_count_122 rfl (lv_at hl 0 rfl) ?_
      refine z_get (T := TX5) (v := .ref (b + 1)) hE hH hC.1 rfl uw_X5 0 (by decide) fkX5_12 rfl dX5_count_123 ?_
      refine z_callV (rest := []) (st2 := [.int (nI (allClr σ.1))]) hE hH hS hB0 hl ca_X4_postersAllClear mkX5_182 (c_X4_postersAllClear l G B0 M (b + 1) r σ.1 hW hr hv ) hW.1 rfl rfl rfl rfl rfl ⟨Nat.le_of_ble_eq_true rfl, Nat.le_of_ble_eq_true rfl⟩ (Nat.le_of_ble_eq_true rfl) ⟨Nat.le_refl _, Nat.le_refl _⟩ dX5_count_126 (fun H locs M1 hH hp hS => ?_)
      subst hp
      have hf : (fCount σ (nI 7)) = (nI (allClr σ.1)) := by
        simp [fCount, sV, sN, sL, cntN, hw1, tx9]
      rw [hf]
      exact z_iret hE hH hS rfl rfl dX5_count_129
    · have tx10 : tn (nI 8) = 8 := tn_nI (by decide)
      refine lv_tableIn (tgt := 130) hx hb dX5_count_1 (by decide +kernel) (by decide +kernel) (off := 129) (by decide +kernel) (by decide) ?_
      refine lv_aload_n hx hb dX5_count_130 rfl (lv_at hl 0 rfl) ?_
      refine z_get (T := TX5) (v := .ref (b + 1)) hE hH hC.1 rfl uw_X5 0 (by decide) fkX5_12 rfl dX5_count_131 ?_
      refine z_get (T := TX4) (v := .int (nI (σ.1 2))) hE hH hW.1 rfl uw_X4 4 (by decide) fkX5_185 rfl dX5_count_134 ?_
      have hf : (fCount σ (nI 8)) = (nI (σ.1 2)) := by
        simp [fCount, sV, sN, sL, cntN, hw1, tx10]
      rw [hf]
      exact z_iret hE hH hS rfl rfl dX5_count_137
    · have tx11 : tn (nI 9) = 9 := tn_nI (by decide)
      refine lv_tableIn (tgt := 138) hx hb dX5_count_1 (by decide +kernel) (by decide +kernel) (off := 137) (by decide +kernel) (by decide) ?_
      refine lv_aload_n hx hb dX5_count_138 rfl (lv_at hl 0 rfl) ?_
      refine z_get (T := TX5) (v := .ref (b + 1)) hE hH hC.1 rfl uw_X5 0 (by decide) fkX5_12 rfl dX5_count_139 ?_
      refine z_get (T := TX4) (v := .int (nI (σ.1 3))) hE hH hW.1 rfl uw_X4 5 (by decide) fkX5_186 rfl dX5_count_142 ?_
      have hf : (fCount σ (nI 9)) = (nI (σ.1 3)) := by
        simp [fCount, sV, sN, sL, cntN, hw1, tx11]
      rw [hf]
      exact z_iret hE hH hS rfl rfl dX5_count_145
    · have tx12 : tn (nI 10) = 10 := tn_nI (by decide)
      refine lv_tableIn (tgt := 146) hx hb dX5_count_1 (by decide +kernel) (by decide +kernel) (off := 145) (by decide +kernel) (by decide) ?_
      refine lv_aload_n hx hb dX5_count_146 rfl (lv_at hl 0 rfl) ?_
      refine z_get (T := TX5) (v := .ref (b + 275)) hE hH hC.1 rfl uw_X5 5 (by decide) fkX5_37 rfl dX5_count_147 ?_
      refine z_get (T := TX2) (v := .int (nI σ.2.2.2.2.2.1)) hE hH hC.2.2.2.2.2.1.1 rfl uw_X2 1 (by decide) fkX5_104 rfl dX5_count_150 ?_
      have hf : (fCount σ (nI 10)) = (nI σ.2.2.2.2.2.1) := by
        simp [fCount, sV, sN, sL, cntN, hw1, tx12]
      rw [hf]
      exact z_iret hE hH hS rfl rfl dX5_count_153
    · have tx13 : tn (nI 11) = 11 := tn_nI (by decide)
      refine lv_tableIn (tgt := 154) hx hb dX5_count_1 (by decide +kernel) (by decide +kernel) (off := 153) (by decide +kernel) (by decide) ?_
      refine lv_aload_n hx hb dX5_count_154 rfl (lv_at hl 0 rfl) ?_
      refine z_get (T := TX5) (v := .ref (b + 55)) hE hH hC.1 rfl uw_X5 2 (by decide) fkX5_22 rfl dX5_count_155 ?_
      obtain ⟨tthB14, htthB14, hB14, hLthB14⟩ := id hC.2.2.2.1
      refine z_get (T := TX1) (v := .int (nI σ.2.1)) hE hH hB14.1 rfl uw_X1 1 (by decide) fkX5_187 rfl dX5_count_158 ?_
      have hf : (fCount σ (nI 11)) = (nI σ.2.1) := by
        simp [fCount, sV, sN, sL, cntN, hw1, tx13]
      rw [hf]
      exact z_iret hE hH hS rfl rfl dX5_count_161
  · refine lv_tableOut (tgt := 162) hx hb dX5_count_1 (wi_false (by decide) (by decide) hw1) (by decide) ?_
    refine lv_bipush (v := (-2)) hx hb dX5_count_162 (by decide) ?_
    have hf : (fCount σ c) = (-2) := by
      simp [fCount, sV, sN, sL, cntN, hw1]
    rw [hf]
    exact z_iret hE hH hS rfl rfl dX5_count_164

set_option maxHeartbeats 4000000 in
set_option maxRecDepth 100000 in
theorem c_X5_sunOf (l : Launch) (G : zG) (B0 : Nat) (M : Mm) (σ : Sg) (b : Nat) (hC : Cl G b σ M) (hok : sOk σ) (hBb : B0 ≤ b) (x : Int32) : zMet l yX5_sunOf cX5_sunOf 2 (some .int) 2 0 0 G B0 M [.ref b, .int x] (some (.int (fSunOf σ x))) (fun M1 => M = M1) := by
  refine z_met RX5 [(0, .ref b), (1, .int x)] (by decide) rfl (Nat.le_of_ble_eq_true rfl) rfl ?_
  intro pg ev s m below meth cd ls hE hin hB0 hH hl
  have hx := hE.1
  have hb := hE.2.1
  have hv : wOk σ.1 := hok.hw
  have hn : σ.1 0 ≤ 12 := hv.1
  have hdy : σ.1 1 ≤ 9999 := hok.1.2
  have hn6 : σ.2.1 ≤ 6 := hok.2.1
  have hhv : ∀ k, k < σ.2.1 → wOk (σ.2.2.1 k) := hok.hh
  have hsv : ∀ k, k < 2 → σ.2.2.2.2.1 k = true → wOk (σ.2.2.2.1 k) := hok.hs
  have hln : σ.2.2.2.2.2.1 ≤ 60 := hok.2.2.2.2.1
  obtain ⟨r, hr, hW⟩ := hC.2.1
  have hF : ∀ q, (q < b ∨ b + 278 ≤ q) → M q = M q := fun _ _ => rfl
  refine z_gen B0 (fun H locs hH hS => ?_) hH
  refine lv_iload_n hx hb dX5_sunOf_0 rfl (lv_at hl 1 rfl) ?_
  refine z_callS (rest := []) (st2 := [.int (zb (wi x (nI 0) (nI 9)))]) hE hH hS hB0 hl ca_X5_isColumn mkX5_86 (c_X5_isColumn l G B0 M x) rfl rfl rfl ⟨Nat.le_of_ble_eq_true rfl, Nat.le_of_ble_eq_true rfl⟩ (Nat.le_of_ble_eq_true rfl) ⟨Nat.le_refl _, Nat.le_refl _⟩ dX5_sunOf_1 (fun H locs M1 hH hp hS => ?_)
  subst hp
  refine b_if_eq (tgt := 19) hx hb dX5_sunOf_4 (by decide) (fun h2 => ?_) (fun h2 => ?_)
  · refine lv_iconst (v := (-1)) hx hb dX5_sunOf_19 (by decide) ?_
    have hf : (fSunOf σ x) = (-1) := by
      simp [fSunOf, sV, sN, sL, h2]
    rw [hf]
    exact z_iret hE hH hS rfl rfl dX5_sunOf_20
  · obtain ⟨x', rfl, x1, x2⟩ := wi_nat (by decide) (by decide) h2
    have tx3 : tn (nI x') = x' := tn_nI (by omega)
    refine lv_aload_n hx hb dX5_sunOf_7 rfl (lv_at hl 0 rfl) ?_
    refine z_get (T := TX5) (v := .ref (b + 1)) hE hH hC.1 rfl uw_X5 0 (by decide) fkX5_12 rfl dX5_sunOf_8 ?_
    refine z_get (T := TX4) (v := .ref (b + 1 + 26)) hE hH hW.1 rfl uw_X4 2 (by decide) fkX5_89 rfl dX5_sunOf_11 ?_
    refine lv_iload_n hx hb dX5_sunOf_14 rfl (lv_at hl 1 rfl) ?_
    refine z_iald hE hH hW.2.2.1 (k := x') (by omega) (by decide) dX5_sunOf_15 ?_
    have q4 := hv.2.2.1 x' (by omega)
    refine lv_goto (tgt := 20) hx hb dX5_sunOf_16 (by decide) ?_
    have hf : (fSunOf σ (nI x')) = (nI (sv σ.1 x')) := by
      simp [fSunOf, sV, sN, sL, h2, tx3]
    rw [hf]
    exact z_iret hE hH hS rfl rfl dX5_sunOf_20
