def zmin (f : Nat → Nat) : Nat → Nat
  | 0 => 1000000
  | k + 1 => min (zmin f k) (f k)
theorem zmin_le (f : Nat → Nat) : ∀ k, zmin f k ≤ 1000000
  | 0 => Nat.le_refl _
  | k + 1 => Nat.le_trans (Nat.min_le_left _ _) (zmin_le f k)
theorem dtoGo_le {v : Wv} (hv : wOk v) {c : Nat} (hc : c < 60) (pr : Nat) : ∀ (n d : Nat), n ≤ v 0 → dtoGo v c pr n d ≤ d + n * 1000000
  | 0, d, _ => by show d ≤ d + 0 * 1000000; omega
  | n + 1, d, hn => by
    rw [dtoGo_succ]
    split
    · omega
    · have h1 := dtc_le (u := sv v (c % 10)) (hv.coat (j := n) (by omega) hc)
      have h2 := dtoGo_le hv hc pr n (d + dtc (cv v n c) (sv v (c % 10))) (by omega)
      have : (n + 1) * 1000000 = n * 1000000 + 1000000 := by omega
      omega
theorem dtOther_le {v : Wv} (hv : wOk v) {c : Nat} (hc : c < 60) : dtOther v c ≤ 12000000 := by
  unfold dtOther
  cases prc v (-6) c with
  | none => show 1000000 ≤ 12000000; omega
  | some p =>
    have h := dtoGo_le hv hc p (v 0) 0 (Nat.le_refl _)
    have h2 := hv.1
    show dtoGo v c p (v 0) 0 ≤ 12000000
    omega
theorem dtSee_le {v : Wv} (hv : wOk v) {j c : Nat} (hc : c < 60) : dtSee v j c ≤ 12000000 := by
  unfold dtSee
  split
  · omega
  · have h := zsum_le (f := fun i => if j + 1 ≤ i then dtc (cv v i c) (sv v (c % 10)) else 0) (b := 1000000) (n := v 0) (fun k hk => by
      show (if j + 1 ≤ k then dtc (cv v k c) (sv v (c % 10)) else 0) ≤ 1000000
      split
      · exact dtc_le (hv.coat hk hc)
      · omega)
    have h2 := hv.1
    omega
theorem sumW_le {v : Wv} (hv : wOk v) (but : Int32) : sumW v but ≤ 60000 := by
  have h := zsum_le (f := fun c => (prc v but c).getD 0) (b := 1000) (n := 60) (fun k hk => by
    show (prc v but k).getD 0 ≤ 1000
    cases hp : prc v but k with
    | none => exact Nat.zero_le _
    | some p => have := prc_ob hv _ hp; show p ≤ 1000; omega)
  unfold sumW
  omega
def fNext (σ : Sg) : Int32 := if zmin (dtOther (sV σ)) 60 ≤ 300 then nI (zmin (dtOther (sV σ)) 60) else -6
def fLight (σ : Sg) (p : Int32) : Int32 := if isP (sV σ) p = false then -1 else if zmin (dtSee (sV σ) (tn p)) 60 ≤ 300 then nI (zmin (dtSee (sV σ) (tn p)) 60) else -6
/-- the best poster to tear among the lowest k, and the sum then -/
def btO (v : Wv) : Nat → Option (Nat × Nat)
  | 0 => none
  | k + 1 => (btO v k).elim (some (k, sumW v (nI k))) (fun q => if q.2 < sumW v (nI k) then some (k, sumW v (nI k)) else some q)
theorem btO_le {v : Wv} (hv : wOk v) : ∀ k q, btO v k = some q → q.1 < k ∧ q.2 ≤ 60000
  | 0, q, h => by cases h
  | k + 1, q, h => by
    have hs := sumW_le hv (nI k)
    unfold btO at h
    cases hb : btO v k with
    | none =>
      rw [hb] at h
      have h2 : some (k, sumW v (nI k)) = some q := h
      cases h2
      exact ⟨Nat.lt_succ_self _, hs⟩
    | some q2 =>
      rw [hb] at h
      have h2 : (if q2.2 < sumW v (nI k) then some (k, sumW v (nI k)) else some q2) = some q := h
      have hi := btO_le hv k q2 hb
      split at h2
      · cases h2; exact ⟨Nat.lt_succ_self _, hs⟩
      · cases h2; exact ⟨by omega, hi.2⟩
theorem btO_none {v : Wv} {k : Nat} (hb : btO v k = none) : btO v (k + 1) = some (k, sumW v (nI k)) := by
  unfold btO; rw [hb]; rfl
theorem btO_lt {v : Wv} {k : Nat} {q : Nat × Nat} (hb : btO v k = some q) (h : q.2 < sumW v (nI k)) : btO v (k + 1) = some (k, sumW v (nI k)) := by
  unfold btO; rw [hb]; exact if_pos h
theorem btO_ge {v : Wv} {k : Nat} {q : Nat × Nat} (hb : btO v k = some q) (h : sumW v (nI k) ≤ q.2) : btO v (k + 1) = some q := by
  unfold btO; rw [hb]; exact if_neg (by omega)
theorem btO_hi {v : Wv} {k : Nat} (h : ∀ q, btO v k = some q → q.2 < sumW v (nI k)) : btO v (k + 1) = some (k, sumW v (nI k)) := by
  cases hb : btO v k with
  | none => exact btO_none hb
  | some q => exact btO_lt hb (h q hb)
theorem btO_keep {v : Wv} {k g : Nat} {o : Option (Nat × Nat)} (ho : o = btO v k) (he : o.map (fun q => q.2) = some g) (h : sumW v (nI k) ≤ g) : o = btO v (k + 1) := by
  cases o with
  | none => cases he
  | some q =>
    have h2 : q.2 = g := Option.some.inj he
    exact (btO_ge ho.symm (by omega)).symm
theorem btO_new {v : Wv} {k : Nat} {o : Option (Nat × Nat)} (ho : o = btO v k) (h : ∀ g, o.map (fun q => q.2) = some g → g < sumW v (nI k)) : some (k, sumW v (nI k)) = btO v (k + 1) := (btO_hi (fun q hq => h q.2 (by rw [ho, hq]; rfl))).symm
theorem btO_ob {v : Wv} (hv : wOk v) {k : Nat} {o : Option (Nat × Nat)} (ho : o = btO v k) : ∀ j, o.map (fun q => q.2) = some j → j < 2 ^ 31 := by
  intro j hj
  cases o with
  | none => cases hj
  | some q =>
    have h2 : q.2 = j := Option.some.inj hj
    have := (btO_le hv k q ho.symm).2
    omega
def fBest (σ : Sg) (c : Int32) : Int32 := if wi c (nI 0) (nI 1) = false then -2 else if tn c = 0 then oI ((btO (sV σ) (sV σ 0)).map (fun q => q.1)) else oI ((btO (sV σ) (sV σ 0)).map (fun q => q.2))
theorem no_cmp_le {p : Program} {l : Launch} {e : Env} {R : Room} {s : State} {m : MethodId} {args : Array Value} {below : List Frame} {meth : Method} {c : Code} {H : Heap} {locs : List Loc} {cells slots : Nat} {Q : State → Prop} {cc : ByteArray} {pc tgt : Nat} {off : Int} {ls : Array Slot} {rest : List Value} {a : Nat} {o : Option Nat} (hx : p.tables.exec = Jvm.exec) (hb : c.code = cc) (ha : a < 2 ^ 31) (ho : ∀ j, o = some j → j < 2 ^ 31) (hdg : decode cc pc = .ok (.if_icmp .le off, 3)) (ht : (pc : Int) + off = (tgt : Int)) (kt : ∀ g, o = some g → a ≤ g → W p l e R s m args below meth c H locs cells slots Q (F0 m tgt ls rest)) (kf : (∀ g, o = some g → g < a) → W p l e R s m args below meth c H locs cells slots Q (F0 m (pc + 3) ls rest)) : W p l e R s m args below meth c H locs cells slots Q (F0 m pc ls (.int (oI o) :: .int (nI a) :: rest)) := by
  refine lv_icmp_le hx hb hdg ht (fun h => ?_) (fun h => ?_)
  · cases o with
    | none =>
      have e6 : ((-6 : Int32)).toInt = -6 := by decide
      have h1 : nI a ≤ (-6 : Int32) := h
      rw [Int32.le_iff_toInt_le, nI_toInt ha, e6] at h1
      omega
    | some g => exact kt g rfl ((nI_le_iff ha (ho g rfl)).mp h)
  · refine kf fun g hg => ?_
    subst hg
    exact Nat.not_le.mp fun q => h ((nI_le_iff ha (ho g rfl)).mpr q)
def fIf (σ : Sg) (d c : Int32) : Int32 := if wi d (nI 1) (nI 100) = false then -2 else if wi c (nI 0) (nI 2) = false then -2 else if tn c = 0 then nI (fadS (sV σ) (tn d)) else if tn c = 1 then nI (unlikeW (fadA (sV σ) (tn d) 60) (sV σ)) else nI (sumW (fadA (sV σ) (tn d) 60) (-6))
def fWill (σ : Sg) (x y d : Int32) : Int32 := if isC x y = false then -1 else if wi d (nI 1) (nI 200) = false then -2 else oI (prc (fadV (tn y * 10 + tn x) (sV σ 0) (sV σ) (tn d)) (-6) (tn y * 10 + tn x))
def fPut (σ : Sg) (r : Nat) : Int32 × Sg := if sgF 8 r 0 = 0 then (-2, σ) else if 60 - sL σ < sgF 8 r 0 then (-4, σ) else (nI (sL σ + sgF 8 r 0), (sV σ, sN σ, sH σ, sS σ, sD σ, sL σ + sgF 8 r 0, apS (sP σ) (sL σ) r (sgF 8 r 0)))
def fWipe (σ : Sg) : Int32 × Sg := (nI (sL σ), (sV σ, sN σ, sH σ, sS σ, sD σ, 0, sP σ))
def fFault (σ : Sg) : Int32 := oI (flt (sP σ) (sL σ))
def fUndo (σ : Sg) : Int32 × Sg := if sN σ = 0 then (-5, σ) else (nI (sN σ - 1), (sH σ (sN σ - 1), sN σ - 1, sH σ, sS σ, sD σ, sL σ, sP σ))
def fSave (σ : Sg) (c : Int32) : Int32 × Sg := if wi c (nI 0) (nI 1) = false then (-2, σ) else (nI (sV σ 0), (sV σ, sN σ, sH σ, (fun k => if k = tn c then sV σ else sS σ k), (fun k => if k = tn c then true else sD σ k), sL σ, sP σ))
def fRestore (σ : Sg) (c : Int32) : Int32 × Sg := if wi c (nI 0) (nI 1) = false then (-2, σ) else if sD σ (tn c) = false then (-5, σ) else (nI (sS σ (tn c) 0), chg σ (sS σ (tn c)))

set_option maxHeartbeats 4000000 in
set_option maxRecDepth 100000 in
theorem c_X5_nextChange (l : Launch) (G : zG) (B0 : Nat) (M : Mm) (σ : Sg) (b : Nat) (hC : Cl G b σ M) (hok : sOk σ) (hBb : B0 ≤ b) : zMet l yX5_nextChange cX5_nextChange 3 (some .int) 5 0 0 G B0 M [.ref b] (some (.int (fNext σ))) (fun M1 => M = M1) := by
  refine z_met RX5 [(0, .ref b)] (by decide) rfl (Nat.le_of_ble_eq_true rfl) rfl ?_
  intro pg ev s m below meth cd ls hE hin hB0 hH hl
  have hx := hE.1
  have hb := hE.2.1
  have hv : wOk σ.1 := hok.hw
  have hn : σ.1 0 ≤ 12 := hv.1
  have hdy : σ.1 1 ≤ 9999 := hok.1.2
  have hn6 : σ.2.1 ≤ 6 := hok.2.1
  have hhv : ∀ k, k < σ.2.1 → wOk (σ.2.2.1 k) := hok.hh
  have hsv : ∀ k, k < 2 → σ.2.2.2.2.1 k = true → wOk (σ.2.2.2.1 k) := hok.hs
  have hln : σ.2.2.2.2.2.1 ≤ 60 := hok.2.2.2.2.1
  obtain ⟨r, hr, hW⟩ := hC.2.1
  have hF : ∀ q, (q < b ∨ b + 278 ≤ q) → M q = M q := fun _ _ => rfl
  refine z_gen B0 (fun H locs hH hS => ?_) hH
  refine lv_ldc (v := nI 1000000) hx hb hE.2.2.2.1 (hE.2.2.2.2.1 _ kcX5_199) dX5_nextChange_0 ?_
  refine lv_istore_n (lv' := [(1, .int (nI 1000000)), (0, .ref b)]) hx hb dX5_nextChange_2 rfl hl (by decide) rfl (fun ls hl => ?_)
  refine n_iconst hx hb 0 dX5_nextChange_3 (by decide) ?_
  refine lv_istore_n (lv' := [(2, .int (nI 0)), (1, .int (nI 1000000)), (0, .ref b)]) hx hb dX5_nextChange_4 rfl hl (by decide) rfl (fun ls hl => ?_)
  have L5 : ∀ (dd : Nat) (k : Nat) (a : Nat), 60 < k + dd → (k ≤ 60) → (a = zmin (dtOther σ.1) k) → (a ≤ 1000000) → ∀ (H : Heap) (locs : List Loc), zH G M H → zS 0 B0 s.heap H locs → ∀ (ls : Array Slot), lv_has ls 3 [(0, .ref b), (1, .int (nI a)), (2, .int (nI k))] → zW pg l ev 5 0 0 s m [.ref b] below meth cd H locs 0 0 G B0 (some (.int (fNext σ))) (fun M1 => M = M1) (F0 m 5 ls []) := by
    intro dd
    induction dd with
    | zero =>
      intro k a hdd hk ha ham
      exact absurd hdd (by omega)
    | succ dd ih =>
      intro k a hdd hk ha ham H locs hH hS ls hl
      refine lv_iload_n hx hb dX5_nextChange_5 rfl (lv_at hl 2 rfl) ?_
      refine n_bipush hx hb 60 dX5_nextChange_6 (by decide) ?_
      refine n_cmp_ge (tgt := 30) hx hb (by omega) (by decide) dX5_nextChange_8 (by decide) (fun h1 => ?_) (fun h1 => ?_)
      · refine lv_iload_n hx hb dX5_nextChange_30 rfl (lv_at hl 1 rfl) ?_
        refine n_sipush hx hb 300 dX5_nextChange_31 (by decide) ?_
        refine n_cmp_gt (tgt := 41) hx hb (by omega) (by decide) dX5_nextChange_34 (by decide) (fun h2 => ?_) (fun h2 => ?_)
        · refine lv_bipush (v := (-6)) hx hb dX5_nextChange_41 (by decide) ?_
          exact z_iret hE hH hS (by have hkk : k = 60 := (by omega); subst hkk; unfold fNext; rw [if_neg (by rw [show zmin (dtOther (sV σ)) 60 = a from ha.symm]; omega)]) rfl dX5_nextChange_43
        · refine lv_iload_n hx hb dX5_nextChange_37 rfl (lv_at hl 1 rfl) ?_
          refine lv_goto (tgt := 43) hx hb dX5_nextChange_38 (by decide) ?_
          exact z_iret hE hH hS (by have hkk : k = 60 := (by omega); subst hkk; unfold fNext; rw [if_pos (by rw [show zmin (dtOther (sV σ)) 60 = a from ha.symm]; omega), show zmin (dtOther (sV σ)) 60 = a from ha.symm]) rfl dX5_nextChange_43
      · refine lv_iload_n hx hb dX5_nextChange_11 rfl (lv_at hl 1 rfl) ?_
        refine lv_aload_n hx hb dX5_nextChange_12 rfl (lv_at hl 0 rfl) ?_
        refine z_get (T := TX5) (v := .ref (b + 1)) hE hH hC.1 rfl uw_X5 0 (by decide) fkX5_12 rfl dX5_nextChange_13 ?_
        refine lv_iload_n hx hb dX5_nextChange_16 rfl (lv_at hl 2 rfl) ?_
        refine z_callV (rest := [.int (nI a)]) (st2 := [.int (nI (dtOther σ.1 k)), .int (nI a)]) hE hH hS hB0 hl ca_X4_daysToOtherPrice mkX5_200 (c_X4_daysToOtherPrice l G B0 M (b + 1) r σ.1 hW hr hv k (by omega)) hW.1 rfl rfl rfl rfl rfl ⟨Nat.le_of_ble_eq_true rfl, Nat.le_of_ble_eq_true rfl⟩ (Nat.le_of_ble_eq_true rfl) ⟨Nat.le_refl _, Nat.le_refl _⟩ dX5_nextChange_17 (fun H locs M1 hH hp hS => ?_)
        subst hp
        have q3 := dtOther_le hv (show k < 60 by omega)
        refine z_min (rest := []) hE hl mkX5_203 (by omega) (by omega) ⟨Nat.le_of_ble_eq_true rfl, Nat.le_of_ble_eq_true rfl⟩ ⟨Nat.le_refl _, Nat.le_refl _⟩ dX5_nextChange_20 ?_
        refine lv_istore_n (lv' := [(1, .int (nI (min a (dtOther σ.1 k)))), (0, .ref b), (2, .int (nI k))]) hx hb dX5_nextChange_23 rfl hl (by decide) rfl (fun ls hl => ?_)
        refine lv_iinc (v := (nI (k + 1))) (lv' := [(2, .int (nI (k + 1))), (1, .int (nI (min a (dtOther σ.1 k)))), (0, .ref b)]) hx hb dX5_nextChange_24 hl (k := 2) rfl (nI_inc _) (by decide) rfl (fun ls hl => ?_)
        refine lv_goto (tgt := 5) hx hb dX5_nextChange_27 (by decide) ?_
        exact ih  (k + 1) (min a (dtOther σ.1 k)) (by omega) (by omega) (by rw [ha]; rfl) (by omega) _ _ hH hS _ (lv_sub hl [2, 1, 0] rfl)
  exact L5 61 0 1000000 (by omega) (by omega) rfl (by omega) _ _ hH hS _ (lv_sub hl [2, 1, 0] rfl)

set_option maxHeartbeats 4000000 in
set_option maxRecDepth 100000 in
theorem c_X5_comesToLight (l : Launch) (G : zG) (B0 : Nat) (M : Mm) (σ : Sg) (b : Nat) (hC : Cl G b σ M) (hok : sOk σ) (hBb : B0 ≤ b) (p : Int32) : zMet l yX5_comesToLight cX5_comesToLight 4 (some .int) 5 0 0 G B0 M [.ref b, .int p] (some (.int (fLight σ p))) (fun M1 => M = M1) := by
  refine z_met RX5 [(0, .ref b), (1, .int p)] (by decide) rfl (Nat.le_of_ble_eq_true rfl) rfl ?_
  intro pg ev s m below meth cd ls hE hin hB0 hH hl
  have hx := hE.1
  have hb := hE.2.1
  have hv : wOk σ.1 := hok.hw
  have hn : σ.1 0 ≤ 12 := hv.1
  have hdy : σ.1 1 ≤ 9999 := hok.1.2
  have hn6 : σ.2.1 ≤ 6 := hok.2.1
  have hhv : ∀ k, k < σ.2.1 → wOk (σ.2.2.1 k) := hok.hh
  have hsv : ∀ k, k < 2 → σ.2.2.2.2.1 k = true → wOk (σ.2.2.2.1 k) := hok.hs
  have hln : σ.2.2.2.2.2.1 ≤ 60 := hok.2.2.2.2.1
  obtain ⟨r, hr, hW⟩ := hC.2.1
  have hF : ∀ q, (q < b ∨ b + 278 ≤ q) → M q = M q := fun _ _ => rfl
  refine z_gen B0 (fun H locs hH hS => ?_) hH
  refine lv_aload_n hx hb dX5_comesToLight_0 rfl (lv_at hl 0 rfl) ?_
  refine lv_iload_n hx hb dX5_comesToLight_1 rfl (lv_at hl 1 rfl) ?_
  refine z_callV (rest := []) (st2 := [.int (zb (isP σ.1 p))]) hE hH hS hB0 hl ca_X5_isPoster mkX5_61 (c_X5_isPoster l G B0 M σ b hC p) hC.1 rfl rfl rfl rfl rfl ⟨Nat.le_of_ble_eq_true rfl, Nat.le_of_ble_eq_true rfl⟩ (Nat.le_of_ble_eq_true rfl) ⟨Nat.le_refl _, Nat.le_refl _⟩ dX5_comesToLight_2 (fun H locs M1 hH hp hS => ?_)
  subst hp
  refine b_if_ne (tgt := 10) hx hb dX5_comesToLight_5 (by decide) (fun h2 => ?_) (fun h2 => ?_)
  · obtain ⟨p', rfl, p2⟩ := isP_nat hn h2
    have tx3 : tn (nI p') = p' := tn_nI (by omega)
    refine lv_ldc (v := nI 1000000) hx hb hE.2.2.2.1 (hE.2.2.2.2.1 _ kcX5_199) dX5_comesToLight_10 ?_
    refine lv_istore_n (lv' := [(2, .int (nI 1000000)), (0, .ref b), (1, .int (nI p'))]) hx hb dX5_comesToLight_12 rfl hl (by decide) rfl (fun ls hl => ?_)
    refine n_iconst hx hb 0 dX5_comesToLight_13 (by decide) ?_
    refine lv_istore_n (lv' := [(3, .int (nI 0)), (2, .int (nI 1000000)), (0, .ref b), (1, .int (nI p'))]) hx hb dX5_comesToLight_14 rfl hl (by decide) rfl (fun ls hl => ?_)
    have L15 : ∀ (dd : Nat) (k : Nat) (a : Nat), 60 < k + dd → (k ≤ 60) → (a = zmin (dtSee σ.1 p') k) → (a ≤ 1000000) → ∀ (H : Heap) (locs : List Loc), zH G M H → zS 0 B0 s.heap H locs → ∀ (ls : Array Slot), lv_has ls 4 [(0, .ref b), (1, .int (nI p')), (2, .int (nI a)), (3, .int (nI k))] → zW pg l ev 5 0 0 s m [.ref b, .int (nI p')] below meth cd H locs 0 0 G B0 (some (.int (fLight σ (nI p')))) (fun M1 => M = M1) (F0 m 15 ls []) := by
      intro dd
      induction dd with
      | zero =>
        intro k a hdd hk ha ham
        exact absurd hdd (by omega)
      | succ dd ih =>
        intro k a hdd hk ha ham H locs hH hS ls hl
        refine lv_iload_n hx hb dX5_comesToLight_15 rfl (lv_at hl 3 rfl) ?_
        refine n_bipush hx hb 60 dX5_comesToLight_16 (by decide) ?_
        refine n_cmp_ge (tgt := 41) hx hb (by omega) (by decide) dX5_comesToLight_18 (by decide) (fun h4 => ?_) (fun h4 => ?_)
        · refine lv_iload_n hx hb dX5_comesToLight_41 rfl (lv_at hl 2 rfl) ?_
          refine n_sipush hx hb 300 dX5_comesToLight_42 (by decide) ?_
          refine n_cmp_gt (tgt := 52) hx hb (by omega) (by decide) dX5_comesToLight_45 (by decide) (fun h5 => ?_) (fun h5 => ?_)
          · refine lv_bipush (v := (-6)) hx hb dX5_comesToLight_52 (by decide) ?_
            exact z_iret hE hH hS (by have hkk : k = 60 := (by omega); subst hkk; unfold fLight; rw [if_neg (by rw [show isP (sV σ) (nI p') = true from h2]; decide), if_neg (by rw [show zmin (dtSee (sV σ) (tn (nI p'))) 60 = a from by rw [tn_nI (by omega)]; exact ha.symm]; omega)]) rfl dX5_comesToLight_54
          · refine lv_iload_n hx hb dX5_comesToLight_48 rfl (lv_at hl 2 rfl) ?_
            refine lv_goto (tgt := 54) hx hb dX5_comesToLight_49 (by decide) ?_
            exact z_iret hE hH hS (by have hkk : k = 60 := (by omega); subst hkk; unfold fLight; rw [if_neg (by rw [show isP (sV σ) (nI p') = true from h2]; decide), if_pos (by rw [show zmin (dtSee (sV σ) (tn (nI p'))) 60 = a from by rw [tn_nI (by omega)]; exact ha.symm]; omega), show zmin (dtSee (sV σ) (tn (nI p'))) 60 = a from by rw [tn_nI (by omega)]; exact ha.symm]) rfl dX5_comesToLight_54
        · refine lv_iload_n hx hb dX5_comesToLight_21 rfl (lv_at hl 2 rfl) ?_
          refine lv_aload_n hx hb dX5_comesToLight_22 rfl (lv_at hl 0 rfl) ?_
          refine z_get (T := TX5) (v := .ref (b + 1)) hE hH hC.1 rfl uw_X5 0 (by decide) fkX5_12 rfl dX5_comesToLight_23 ?_
          refine lv_iload_n hx hb dX5_comesToLight_26 rfl (lv_at hl 1 rfl) ?_
          refine lv_iload_n hx hb dX5_comesToLight_27 rfl (lv_at hl 3 rfl) ?_
          refine z_callV (rest := [.int (nI a)]) (st2 := [.int (nI (dtSee σ.1 p' k)), .int (nI a)]) hE hH hS hB0 hl ca_X4_daysToSee mkX5_208 (c_X4_daysToSee l G B0 M (b + 1) r σ.1 hW hr hv p' k (by omega) (by omega)) hW.1 rfl rfl rfl rfl rfl ⟨Nat.le_of_ble_eq_true rfl, Nat.le_of_ble_eq_true rfl⟩ (Nat.le_of_ble_eq_true rfl) ⟨Nat.le_refl _, Nat.le_refl _⟩ dX5_comesToLight_28 (fun H locs M1 hH hp hS => ?_)
          subst hp
          have q6 := dtSee_le (j := p') hv (show k < 60 by omega)
          refine z_min (rest := []) hE hl mkX5_203 (by omega) (by omega) ⟨Nat.le_of_ble_eq_true rfl, Nat.le_of_ble_eq_true rfl⟩ ⟨Nat.le_refl _, Nat.le_refl _⟩ dX5_comesToLight_31 ?_
          refine lv_istore_n (lv' := [(2, .int (nI (min a (dtSee σ.1 p' k)))), (0, .ref b), (1, .int (nI p')), (3, .int (nI k))]) hx hb dX5_comesToLight_34 rfl hl (by decide) rfl (fun ls hl => ?_)
          refine lv_iinc (v := (nI (k + 1))) (lv' := [(3, .int (nI (k + 1))), (2, .int (nI (min a (dtSee σ.1 p' k)))), (0, .ref b), (1, .int (nI p'))]) hx hb dX5_comesToLight_35 hl (k := 3) rfl (nI_inc _) (by decide) rfl (fun ls hl => ?_)
          refine lv_goto (tgt := 15) hx hb dX5_comesToLight_38 (by decide) ?_
          exact ih  (k + 1) (min a (dtSee σ.1 p' k)) (by omega) (by omega) (by rw [ha]; rfl) (by omega) _ _ hH hS _ (lv_sub hl [2, 3, 1, 0] rfl)
    exact L15 61 0 1000000 (by omega) (by omega) rfl (by omega) _ _ hH hS _ (lv_sub hl [2, 3, 1, 0] rfl)
  · refine lv_iconst (v := (-1)) hx hb dX5_comesToLight_8 (by decide) ?_
    exact z_iret hE hH hS (by unfold fLight; rw [if_pos (by exact h2)]) rfl dX5_comesToLight_9

set_option maxHeartbeats 4000000 in
set_option maxRecDepth 100000 in
theorem c_X5_bestTorn (l : Launch) (G : zG) (B0 : Nat) (M : Mm) (σ : Sg) (b : Nat) (hC : Cl G b σ M) (hok : sOk σ) (hBb : B0 ≤ b) (c : Int32) : zMet l yX5_bestTorn cX5_bestTorn 6 (some .int) 4 0 0 G B0 M [.ref b, .int c] (some (.int (fBest σ c))) (fun M1 => M = M1) := by
  refine z_met RX5 [(0, .ref b), (1, .int c)] (by decide) rfl (Nat.le_of_ble_eq_true rfl) rfl ?_
  intro pg ev s m below meth cd ls hE hin hB0 hH hl
  have hx := hE.1
  have hb := hE.2.1
  have hv : wOk σ.1 := hok.hw
  have hn : σ.1 0 ≤ 12 := hv.1
  have hdy : σ.1 1 ≤ 9999 := hok.1.2
  have hn6 : σ.2.1 ≤ 6 := hok.2.1
  have hhv : ∀ k, k < σ.2.1 → wOk (σ.2.2.1 k) := hok.hh
  have hsv : ∀ k, k < 2 → σ.2.2.2.2.1 k = true → wOk (σ.2.2.2.1 k) := hok.hs
  have hln : σ.2.2.2.2.2.1 ≤ 60 := hok.2.2.2.2.1
  obtain ⟨r, hr, hW⟩ := hC.2.1
  have hF : ∀ q, (q < b ∨ b + 278 ≤ q) → M q = M q := fun _ _ => rfl
  refine z_gen B0 (fun H locs hH hS => ?_) hH
  refine lv_iload_n hx hb dX5_bestTorn_0 rfl (lv_at hl 1 rfl) ?_
  refine n_iconst hx hb 0 dX5_bestTorn_1 (by decide) ?_
  refine n_iconst hx hb 1 dX5_bestTorn_2 (by decide) ?_
  refine z_callS (rest := []) (st2 := [.int (zb (wi c (nI 0) (nI 1)))]) hE hH hS hB0 hl ca_X5_isWithin mkX5_45 (c_X5_isWithin l G B0 M c (nI 0) (nI 1)) rfl rfl rfl ⟨Nat.le_of_ble_eq_true rfl, Nat.le_of_ble_eq_true rfl⟩ (Nat.le_of_ble_eq_true rfl) ⟨Nat.le_refl _, Nat.le_refl _⟩ dX5_bestTorn_3 (fun H locs M1 hH hp hS => ?_)
  subst hp
  refine b_if_ne (tgt := 12) hx hb dX5_bestTorn_6 (by decide) (fun h2 => ?_) (fun h2 => ?_)
  · obtain ⟨c', rfl, c1, c2⟩ := wi_nat (by decide) (by decide) h2
    have tx3 : tn (nI c') = c' := tn_nI (by omega)
    refine lv_bipush (v := (-6)) hx hb dX5_bestTorn_12 (by decide) ?_
    refine lv_istore_n (lv' := [(2, .int (-6)), (0, .ref b), (1, .int (nI c'))]) hx hb dX5_bestTorn_14 rfl hl (by decide) rfl (fun ls hl => ?_)
    refine lv_bipush (v := (-6)) hx hb dX5_bestTorn_15 (by decide) ?_
    refine lv_istore_n (lv' := [(3, .int (-6)), (2, .int (-6)), (0, .ref b), (1, .int (nI c'))]) hx hb dX5_bestTorn_17 rfl hl (by decide) rfl (fun ls hl => ?_)
    refine n_iconst hx hb 0 dX5_bestTorn_18 (by decide) ?_
    refine lv_istore (lv' := [(4, .int (nI 0)), (3, .int (-6)), (2, .int (-6)), (0, .ref b), (1, .int (nI c'))]) hx hb dX5_bestTorn_19 hl (by decide) rfl (fun ls hl => ?_)
    have L21 : ∀ (dd : Nat) (k : Nat) (o : Option (Nat × Nat)), σ.1 0 < k + dd → (k ≤ σ.1 0) → (o = btO σ.1 k) → ∀ (H : Heap) (locs : List Loc), zH G M H → zS 0 B0 s.heap H locs → ∀ (ls : Array Slot), lv_has ls 6 [(0, .ref b), (1, .int (nI c')), (2, .int (oI (o.map (fun q => q.1)))), (3, .int (oI (o.map (fun q => q.2)))), (4, .int (nI k))] → zW pg l ev 4 0 0 s m [.ref b, .int (nI c')] below meth cd H locs 0 0 G B0 (some (.int (fBest σ (nI c')))) (fun M1 => M = M1) (F0 m 21 ls []) := by
      intro dd
      induction dd with
      | zero =>
        intro k o hdd hk ho
        exact absurd hdd (by omega)
      | succ dd ih =>
        intro k o hdd hk ho H locs hH hS ls hl
        refine lv_iload hx hb dX5_bestTorn_21 (lv_at hl 4 rfl) ?_
        refine lv_aload_n hx hb dX5_bestTorn_23 rfl (lv_at hl 0 rfl) ?_
        refine z_get (T := TX5) (v := .ref (b + 1)) hE hH hC.1 rfl uw_X5 0 (by decide) fkX5_12 rfl dX5_bestTorn_24 ?_
        refine z_get (T := TX4) (v := .int (nI (σ.1 0))) hE hH hW.1 rfl uw_X4 1 (by decide) fkX5_49 rfl dX5_bestTorn_27 ?_
        refine n_cmp_ge (tgt := 62) hx hb (by omega) (by omega) dX5_bestTorn_30 (by decide) (fun h4 => ?_) (fun h4 => ?_)
        · refine lv_iload_n hx hb dX5_bestTorn_62 rfl (lv_at hl 1 rfl) ?_
          refine n_if_ne (tgt := 70) hx hb (by omega) dX5_bestTorn_63 (by decide) (fun h5 => ?_) (fun h5 => ?_)
          · refine lv_iload_n hx hb dX5_bestTorn_70 rfl (lv_at hl 3 rfl) ?_
            exact z_iret hE hH hS (by have hkk : k = σ.1 0 := (by omega); subst hkk; unfold fBest; rw [if_neg (by rw [h2]; decide), tn_nI (by omega), if_neg (by omega), ho]) rfl dX5_bestTorn_71
          · refine lv_iload_n hx hb dX5_bestTorn_66 rfl (lv_at hl 2 rfl) ?_
            refine lv_goto (tgt := 71) hx hb dX5_bestTorn_67 (by decide) ?_
            exact z_iret hE hH hS (by have hkk : k = σ.1 0 := (by omega); subst hkk; unfold fBest; rw [if_neg (by rw [h2]; decide), tn_nI (by omega), if_pos (by omega), ho]) rfl dX5_bestTorn_71
        · refine lv_aload_n hx hb dX5_bestTorn_33 rfl (lv_at hl 0 rfl) ?_
          refine z_get (T := TX5) (v := .ref (b + 1)) hE hH hC.1 rfl uw_X5 0 (by decide) fkX5_12 rfl dX5_bestTorn_34 ?_
          refine lv_iload hx hb dX5_bestTorn_37 (lv_at hl 4 rfl) ?_
          refine z_callV (rest := []) (st2 := [.int (nI (sumW σ.1 (nI k)))]) hE hH hS hB0 hl ca_X4_sumWithout mkX5_176 (c_X4_sumWithout l G B0 M (b + 1) r σ.1 hW hr hv (nI k)) hW.1 rfl rfl rfl rfl rfl ⟨Nat.le_of_ble_eq_true rfl, Nat.le_of_ble_eq_true rfl⟩ (Nat.le_of_ble_eq_true rfl) ⟨Nat.le_refl _, Nat.le_refl _⟩ dX5_bestTorn_39 (fun H locs M1 hH hp hS => ?_)
          subst hp
          have q6 := sumW_le hv (nI k)
          refine lv_istore (lv' := [(5, .int (nI (sumW σ.1 (nI k)))), (0, .ref b), (1, .int (nI c')), (2, .int (oI (o.map (fun q => q.1)))), (3, .int (oI (o.map (fun q => q.2)))), (4, .int (nI k))]) hx hb dX5_bestTorn_42 hl (by decide) rfl (fun ls hl => ?_)
          refine lv_iload hx hb dX5_bestTorn_44 (lv_at hl 0 rfl) ?_
          refine lv_iload_n hx hb dX5_bestTorn_46 rfl (lv_at hl 4 rfl) ?_
          refine no_cmp_le (tgt := 56) hx hb (by omega) (btO_ob hv ho) dX5_bestTorn_47 (by decide) (fun j8 h7e h7 => ?_) (fun h7 => ?_)
          · refine lv_iinc (v := (nI (k + 1))) (lv' := [(4, .int (nI (k + 1))), (5, .int (nI (sumW σ.1 (nI k)))), (0, .ref b), (1, .int (nI c')), (2, .int (oI (o.map (fun q => q.1)))), (3, .int (oI (o.map (fun q => q.2))))]) hx hb dX5_bestTorn_56 hl (k := 5) rfl (nI_inc _) (by decide) rfl (fun ls hl => ?_)
            refine lv_goto (tgt := 21) hx hb dX5_bestTorn_59 (by decide) ?_
            exact ih  (k + 1) o (by omega) (by omega) (btO_keep ho h7e h7) _ _ hH hS _ (lv_sub hl [2, 3, 4, 5, 0] rfl)
          · refine lv_iload hx hb dX5_bestTorn_50 (lv_at hl 5 rfl) ?_
            refine lv_istore_n (lv' := [(2, .int (nI k)), (5, .int (nI (sumW σ.1 (nI k)))), (0, .ref b), (1, .int (nI c')), (3, .int (oI (o.map (fun q => q.2)))), (4, .int (nI k))]) hx hb dX5_bestTorn_52 rfl hl (by decide) rfl (fun ls hl => ?_)
            refine lv_iload hx hb dX5_bestTorn_53 (lv_at hl 1 rfl) ?_
            refine lv_istore_n (lv' := [(3, .int (nI (sumW σ.1 (nI k)))), (2, .int (nI k)), (5, .int (nI (sumW σ.1 (nI k)))), (0, .ref b), (1, .int (nI c')), (4, .int (nI k))]) hx hb dX5_bestTorn_55 rfl hl (by decide) rfl (fun ls hl => ?_)
            refine lv_iinc (v := (nI (k + 1))) (lv' := [(4, .int (nI (k + 1))), (3, .int (nI (sumW σ.1 (nI k)))), (2, .int (nI k)), (5, .int (nI (sumW σ.1 (nI k)))), (0, .ref b), (1, .int (nI c'))]) hx hb dX5_bestTorn_56 hl (k := 5) rfl (nI_inc _) (by decide) rfl (fun ls hl => ?_)
            refine lv_goto (tgt := 21) hx hb dX5_bestTorn_59 (by decide) ?_
            exact ih  (k + 1) (some (k, sumW σ.1 (nI k))) (by omega) (by omega) (btO_new ho h7) _ _ hH hS _ (lv_sub hl [4, 5, 2, 1, 0] rfl)
    exact L21 (σ.1 0 + 1) 0 none (by omega) (by omega) rfl _ _ hH hS _ (lv_sub hl [3, 4, 2, 1, 0] rfl)
  · refine lv_bipush (v := (-2)) hx hb dX5_bestTorn_9 (by decide) ?_
    exact z_iret hE hH hS (by unfold fBest; rw [if_pos h2]) rfl dX5_bestTorn_11
