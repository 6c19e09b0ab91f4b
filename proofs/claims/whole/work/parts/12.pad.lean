theorem wb_tb (n : Nat) : (lN n).toBitVec = BitVec.ofNat 64 n := rfl
theorem wb_inj {a b : Int64} (h : a.toBitVec = b.toBitVec) : a = b := Int64.toBitVec_inj.mp h
theorem wb_tn {n : Nat} (h : n < 2 ^ 64) : (lN n).toBitVec.toNat = n := by rw [wb_tb, BitVec.toNat_ofNat, Nat.mod_eq_of_lt h]
theorem wb_of (x : Int64) : ∃ n, n < 2 ^ 64 ∧ x = lN n := ⟨x.toBitVec.toNat, x.toBitVec.isLt, wb_inj (by rw [wb_tb]; simp)⟩
theorem wb_cu : ∀ k, k < 64 → ((nI k).toInt64.toUInt64 &&& Int64.toUInt64 63) = UInt64.ofNat k := by decide +kernel
theorem wb_lt2 {a b : Nat} (h : a < b) : 2 ^ a < 2 ^ b := Nat.pow_lt_pow_right (by decide) h
theorem wb_shr {n k : Nat} (hn : n < 2 ^ 64) (hk : k < 64) : ((lN n).toUInt64 >>> ((nI k).toInt64.toUInt64 &&& Int64.toUInt64 63)).toInt64 = lN (n / 2 ^ k) := by
  rw [wb_cu k hk]
  apply wb_inj
  apply BitVec.eq_of_toNat_eq
  show ((lN n).toUInt64 >>> UInt64.ofNat k).toNat = (BitVec.ofNat 64 _).toNat
  have h1 : (UInt64.ofNat k).toNat = k := by
    show (BitVec.ofNat 64 k).toNat = k
    rw [BitVec.toNat_ofNat, Nat.mod_eq_of_lt (by omega)]
  have h2 : (lN n).toUInt64.toNat = n := wb_tn hn
  rw [UInt64.toNat_shiftRight, h1, h2, Nat.mod_eq_of_lt hk, Nat.shiftRight_eq_div_pow, BitVec.toNat_ofNat, Nat.mod_eq_of_lt (Nat.lt_of_le_of_lt (Nat.div_le_self _ _) hn)]
theorem wb_and {a b : Nat} (ha : a < 2 ^ 64) (hb : b < 2 ^ 64) : lN a &&& lN b = lN (a &&& b) := by
  apply wb_inj
  rw [Int64.toBitVec_and, wb_tb, wb_tb, wb_tb]
  apply BitVec.eq_of_toNat_eq
  rw [BitVec.toNat_and, BitVec.toNat_ofNat, BitVec.toNat_ofNat, BitVec.toNat_ofNat, Nat.mod_eq_of_lt ha, Nat.mod_eq_of_lt hb, Nat.mod_eq_of_lt (Nat.and_lt_two_pow _ hb)]
theorem wb_mask {n k : Nat} (hn : n < 2 ^ 64) (hk : k < 64) : lN n &&& lN (2 ^ k - 1) = lN (n % 2 ^ k) := by
  rw [wb_and hn (by have := wb_lt2 hk; omega), Nat.and_two_pow_sub_one_eq_mod]
theorem nI_i2c {k : Nat} (hk : k < 65536) : ((nI k).toUInt32 % 65536).toInt32 = nI k := lg_i2c_word (by rw [nI_toInt (by omega)]; omega) (by rw [nI_toInt (by omega)]; omega)
theorem lg0 {r : Nat} (hr : r < 2 ^ 64) : lg_cmp (lN r) (lN 0) = 0 ↔ r = 0 := by
  have key : lN r = lN 0 ↔ r = 0 := by
    refine ⟨fun h => ?_, fun h => by rw [h]⟩
    have h1 := congrArg (fun z : Int64 => z.toBitVec.toNat) h
    simp only [wb_tn hr, wb_tn (show 0 < 2 ^ 64 by decide)] at h1
    exact h1
  unfold lg_cmp
  by_cases h : lN r = lN 0
  · rw [h]
    simp
    exact key.mp h
  · rw [← key]
    by_cases h1 : lN r > lN 0
    · rw [if_pos h1]
      exact ⟨fun q => absurd q (by decide), fun q => absurd q h⟩
    · rw [if_neg h1, if_neg h]
      exact ⟨fun q => absurd q (by decide), fun q => absurd q h⟩
section ZL
variable {p : Program} {l : Launch} {e : Env} {R : Room} {s : State} {m : MethodId} {args : Array Value} {below : List Frame} {meth : Method} {c : Code} {H : Heap} {locs : List Loc} {cells slots : Nat} {Q : State → Prop}
variable {cc : ByteArray} {pc tgt : Nat} {off : Int} {ls : Array Slot} {rest : List Value} {r b j : Nat}
theorem l_mask (hx : p.tables.exec = Jvm.exec) (hb : c.code = cc) (hr : r < 2 ^ 64) (hdg : decode cc pc = .ok (.land, 1)) (kk : W p l e R s m args below meth c H locs cells slots Q (F0 m (pc + 1) ls (.long (lN (r % 256)) :: rest))) : W p l e R s m args below meth c H locs cells slots Q (F0 m pc ls (.long (lN 255) :: .long (lN r) :: rest)) :=
  lv_land hx hb hdg (by rw [show lN r &&& lN 255 = lN (r % 256) from wb_mask (k := 8) hr (by decide)]; exact kk)
theorem l_shr (hx : p.tables.exec = Jvm.exec) (hb : c.code = cc) (hr : r < 2 ^ 64) (hk : b < 64) (hdg : decode cc pc = .ok (.lushr, 1)) (kk : W p l e R s m args below meth c H locs cells slots Q (F0 m (pc + 1) ls (.long (lN (r / 2 ^ b)) :: rest))) : W p l e R s m args below meth c H locs cells slots Q (F0 m pc ls (.int (nI b) :: .long (lN r) :: rest)) :=
  lv_lushr hx hb hdg (wb_shr hr hk) kk
theorem c_if_eq (hx : p.tables.exec = Jvm.exec) (hb : c.code = cc) (hr : r < 2 ^ 64) (hdg : decode cc pc = .ok (.ifCond .eq off, 3)) (ht : (pc : Int) + off = (tgt : Int)) (kt : r = 0 → W p l e R s m args below meth c H locs cells slots Q (F0 m tgt ls rest)) (kf : 0 < r → W p l e R s m args below meth c H locs cells slots Q (F0 m (pc + 3) ls rest)) : W p l e R s m args below meth c H locs cells slots Q (F0 m pc ls (.int (lg_cmp (lN r) (lN 0)) :: rest)) :=
  lv_if_eq hx hb hdg ht (fun h => kt ((lg0 hr).mp h)) (fun h => kf (Nat.pos_of_ne_zero (fun q => h ((lg0 hr).mpr q))))
theorem c_if_ne (hx : p.tables.exec = Jvm.exec) (hb : c.code = cc) (hr : r < 2 ^ 64) (hdg : decode cc pc = .ok (.ifCond .ne off, 3)) (ht : (pc : Int) + off = (tgt : Int)) (kt : 0 < r → W p l e R s m args below meth c H locs cells slots Q (F0 m tgt ls rest)) (kf : r = 0 → W p l e R s m args below meth c H locs cells slots Q (F0 m (pc + 3) ls rest)) : W p l e R s m args below meth c H locs cells slots Q (F0 m pc ls (.int (lg_cmp (lN r) (lN 0)) :: rest)) :=
  lv_if_ne hx hb hdg ht (fun h => kt (Nat.pos_of_ne_zero (fun q => h ((lg0 hr).mpr q)))) (fun h => kf ((lg0 hr).mp h))
theorem nd_cmp_lt (hx : p.tables.exec = Jvm.exec) (hb : c.code = cc) (hj : j < 2 ^ 31) (hbb : b < 2 ^ 31) (hdg : decode cc pc = .ok (.if_icmp .lt off, 3)) (ht : (pc : Int) + off = (tgt : Int)) (kt : j ≤ b → W p l e R s m args below meth c H locs cells slots Q (F0 m tgt ls rest)) (kf : ∀ i, j = i + 1 → b ≤ i → W p l e R s m args below meth c H locs cells slots Q (F0 m (pc + 3) ls rest)) : W p l e R s m args below meth c H locs cells slots Q (F0 m pc ls (.int (nI b) :: .int (nI j - nI 1) :: rest)) := by
  cases j with
  | zero => exact lv_icmp_lt hx hb hdg ht (fun _ => kt (Nat.zero_le _)) (fun h => absurd (show nI 0 - nI 1 < nI b by
      have e : (nI 0 - nI 1 : Int32).toInt = -1 := by decide
      rw [Int32.lt_iff_toInt_lt, e, nI_toInt hbb]; omega) h)
  | succ i =>
    rw [nI_down]
    exact n_cmp_lt hx hb (by omega) hbb hdg ht (fun h => kt (by omega)) (fun h => kf i rfl h)
end ZL
theorem wOk.setP56 {v : Wv} (h : wOk v) {j k x : Nat} (hj : j < 12) (hk : k = 5 ∨ k = 6) : wOk (vset v (14 + 7 * j + k) x) ∧ (vset v (14 + 7 * j + k) x) 0 = v 0 := by
  obtain ⟨h1, h2, h3, h4⟩ := h
  have hz : (vset v (14 + 7 * j + k) x) 0 = v 0 := v0_setP v x (by decide)
  refine ⟨⟨by rw [hz]; exact h1, by rw [v0_setP v x (by decide)]; exact h2, fun u hu => by rw [sv_setP v x hu]; exact h3 u hu, fun i hi => ?_⟩, hz⟩
  rw [hz] at hi
  have hp : ∀ d, d < 5 → pv (vset v (14 + 7 * j + k) x) i d = pv v i d := fun d hd => by
    rw [pv_setP v x (by omega) (by omega), if_neg (by omega)]
  have hc : cv (vset v (14 + 7 * j + k) x) i = cv v i := funext fun c => cv_setP v x hj (by omega)
  have hl' : ∀ a b, liesN (pv (vset v (14 + 7 * j + k) x) i) a b = liesN (pv v i) a b := fun a b => by
    unfold liesN; rw [hp 0 (by decide), hp 1 (by decide), hp 2 (by decide), hp 3 (by decide)]
  have := h4 i hi
  unfold pOk at this ⊢
  rw [hp 0 (by decide), hp 1 (by decide), hp 2 (by decide), hp 3 (by decide), hp 4 (by decide), hc]
  simpa only [hl'] using this
theorem wOk.setS23 {v : Wv} (h : wOk v) {i x : Nat} (hi : i = 2 ∨ i = 3) : wOk (vset v i x) ∧ (vset v i x) 0 = v 0 := by
  obtain ⟨h1, h2, h3, h4⟩ := h
  have hz : (vset v i x) 0 = v 0 := fset_ne v x (by omega)
  have hp : ∀ j, pv (vset v i x) j = pv v j := fun j => funext fun k => pv_setS v x (by omega)
  have hc : ∀ j, cv (vset v i x) j = cv v j := fun j => funext fun k => cv_setS v x (by omega)
  refine ⟨⟨by rw [hz]; exact h1, by rw [show (vset v i x) 1 = v 1 from fset_ne v x (by omega)]; exact h2, fun u hu => by rw [show sv (vset v i x) u = sv v u from fset_ne v x (by omega)]; exact h3 u hu, fun j hj => ?_⟩, hz⟩
  rw [hp, hc]
  exact h4 j (by rw [hz] at hj; exact hj)
theorem sellJ_ok {v : Wv} (h : wOk v) {j : Nat} (hj : j < v 0) : wOk (sellJ v j) ∧ sellJ v j 0 = v 0 := by
  have hj12 : j < 12 := by have := h.1; omega
  have a1 := h.setP56 (x := pv v j 5 + 1) hj12 (Or.inl rfl)
  have a2 := a1.1.setP56 (x := pv (vset v (14 + 7 * j + 5) (pv v j 5 + 1)) j 6 + pv v j 4) hj12 (Or.inr rfl)
  have a3 := a2.1.setS23 (x := (vset (vset v (14 + 7 * j + 5) (pv v j 5 + 1)) (14 + 7 * j + 6) (pv (vset v (14 + 7 * j + 5) (pv v j 5 + 1)) j 6 + pv v j 4)) 2 + 1) (Or.inl rfl)
  have a4 := a3.1.setS23 (x := (vset (vset (vset v (14 + 7 * j + 5) (pv v j 5 + 1)) (14 + 7 * j + 6) (pv (vset v (14 + 7 * j + 5) (pv v j 5 + 1)) j 6 + pv v j 4)) 2 ((vset (vset v (14 + 7 * j + 5) (pv v j 5 + 1)) (14 + 7 * j + 6) (pv (vset v (14 + 7 * j + 5) (pv v j 5 + 1)) j 6 + pv v j 4)) 2 + 1)) 3 + pv v j 4) (Or.inr rfl)
  exact ⟨a4.1, a4.2.trans (a3.2.trans (a2.2.trans a1.2))⟩
theorem sellV_ok {v : Wv} (h : wOk v) (c pu : Nat) : wOk (sellV v c pu) ∧ sellV v c pu 0 = v 0 := by
  unfold sellV
  cases hs : seen v (-6) c with
  | none => exact ⟨h, rfl⟩
  | some j =>
    show wOk (if pv v j 4 ≤ pu then sellJ v j else v) ∧ (if pv v j 4 ≤ pu then sellJ v j else v) 0 = v 0
    split
    · exact sellJ_ok h (seen_lt hs)
    · exact ⟨h, rfl⟩

set_option maxHeartbeats 4000000 in
set_option maxRecDepth 100000 in
theorem c_X0_pays (l : Launch) (G : zG) (B0 : Nat) (M : Mm) (a p x y u : Nat) (hR : RdM G a p (some x) (some y) (some u) M) (hx9 : x < 10) (hy9 : y < 6) (hu9 : u ≤ 999) (w : Nat) (r : Nat → Nat) (v : Wv) (hW : WlR G w r v M) (hr : rOk r) (hv : wOk v) (hBw : B0 ≤ w) : zMet l yX0_pays cX0_pays 2 (some .boolean) 4 0 0 G B0 M [.ref a, .ref w] (some (.int (zb (sells v (y * 10 + x) u)))) (fun M1 => WlR G w r (sellV v (y * 10 + x) u) M1 ∧ ∀ q, (q < w ∨ w + 27 ≤ q) → M1 q = M q) := by
  refine z_met RX0 [(0, .ref a), (1, .ref w)] (by decide) rfl (Nat.le_of_ble_eq_true rfl) rfl ?_
  intro pg ev s m below meth cd ls hE hin hB0 hH hl
  have hx := hE.1
  have hb := hE.2.1
  have hn := hv.1
  have hF : ∀ q, (q < w ∨ w + 27 ≤ q) → M q = M q := fun _ _ => rfl
  have hR0 : M a = some (.inr (0, [.int (nI p), .int (nI x), .int (nI y), .int (nI u)])) := hR
  refine z_gen B0 (fun H locs hH hS => ?_) hH
  refine lv_aload_n hx hb dX0_pays_0 rfl (lv_at hl 0 rfl) ?_
  refine z_get (T := TX0) (v := .int (nI x)) hE hH hR0 rfl uw_X0 1 (by decide) fkX0_15 rfl dX0_pays_1 ?_
  refine lv_aload_n hx hb dX0_pays_4 rfl (lv_at hl 0 rfl) ?_
  refine z_get (T := TX0) (v := .int (nI y)) hE hH hR0 rfl uw_X0 2 (by decide) fkX0_18 rfl dX0_pays_5 ?_
  refine z_callSN (rest := []) (st2 := [.int (zb (isC (nI x) (nI y)))]) hE hH hS hB0 hl ca_X5_isCell hE.2.2.2.2.2.2.2.2.2.2.2.2.1 (c_X5_isCell l G B0 M (nI x) (nI y)) rfl rfl rfl ⟨Nat.le_of_ble_eq_true rfl, Nat.le_of_ble_eq_true rfl⟩ (Nat.le_of_ble_eq_true rfl) ⟨Nat.le_refl _, Nat.le_refl _⟩ dX0_pays_8 (fun H locs M1 hH hp hS => ?_)
  subst hp
  refine b_if_eq (tgt := 40) hx hb dX0_pays_11 (by decide) (fun h1 => ?_) (fun h1 => ?_)
  · exact absurd h1 (by rw [isC_N (by omega) (by omega)]; decide)
  · refine lv_aload_n hx hb dX0_pays_14 rfl (lv_at hl 1 rfl) ?_
    refine lv_aload_n hx hb dX0_pays_15 rfl (lv_at hl 0 rfl) ?_
    refine z_get (T := TX0) (v := .int (nI x)) hE hH hR0 rfl uw_X0 1 (by decide) fkX0_15 rfl dX0_pays_16 ?_
    refine lv_aload_n hx hb dX0_pays_19 rfl (lv_at hl 0 rfl) ?_
    refine z_get (T := TX0) (v := .int (nI y)) hE hH hR0 rfl uw_X0 2 (by decide) fkX0_18 rfl dX0_pays_20 ?_
    refine z_callSN (rest := [.ref w]) (st2 := [.int (nI (y * 10 + x)), .ref w]) hE hH hS hB0 hl ca_X5_cellAt hE.2.2.2.2.2.2.2.2.2.2.2.2.2 (c_X5_cellAt l G B0 M x y) rfl rfl rfl ⟨Nat.le_of_ble_eq_true rfl, Nat.le_of_ble_eq_true rfl⟩ (Nat.le_of_ble_eq_true rfl) ⟨Nat.le_refl _, Nat.le_refl _⟩ dX0_pays_23 (fun H locs M1 hH hp hS => ?_)
    subst hp
    refine lv_aload_n hx hb dX0_pays_26 rfl (lv_at hl 0 rfl) ?_
    refine z_get (T := TX0) (v := .int (nI u)) hE hH hR0 rfl uw_X0 3 (by decide) fkX0_25 rfl dX0_pays_27 ?_
    refine z_callV (rest := []) (st2 := [.int (zb (sells v (y * 10 + x) u))]) hE hH hS hB0 hl ca_X4_sellAt mkX0_44 (c_X4_sellAt l G B0 M w r v hW hr hv (by omega) (y * 10 + x) u (by omega) (by omega)) hW.1 rfl rfl rfl rfl rfl ⟨Nat.le_of_ble_eq_true rfl, Nat.le_of_ble_eq_true rfl⟩ (Nat.le_of_ble_eq_true rfl) ⟨Nat.le_refl _, Nat.le_refl _⟩ dX0_pays_30 (fun H locs M2 hH hp hS => ?_)
    obtain ⟨hW3, hG4⟩ := hp
    have hv5 : wOk (sellV v (y * 10 + x) u) := (sellV_ok hv _ _).1
    have hF6 := fun q hq => (hG4 q hq).trans (hF q hq)
    refine b_if_eq (tgt := 40) hx hb dX0_pays_33 (by decide) (fun h7 => ?_) (fun h7 => ?_)
    · refine n_iconst hx hb 0 dX0_pays_40 (by decide) ?_
      exact z_zret hE hH hS (by rw [h7]; rfl) ⟨hW3, hF6⟩ dX0_pays_41
    · refine n_iconst hx hb 1 dX0_pays_36 (by decide) ?_
      refine lv_goto (tgt := 41) hx hb dX0_pays_37 (by decide) ?_
      exact z_zret hE hH hS (by rw [h7]; rfl) ⟨hW3, hF6⟩ dX0_pays_41

/-! the pad -/
def PdM (G : zG) (d len : Nat) (ps : Nat → Nat) (M : Mm) : Prop := M d = some (.inr (2, [.ref (d + 1), .int (nI len), .ref (d + 2)])) ∧ zArr G 4 M (d + 1) 60 (fun i => nI (ps i))
theorem PdM.kept {G : zG} {d len : Nat} {ps : Nat → Nat} {M M1 : Mm} (h : PdM G d len ps M) (h1 : M1 d = M d) (h2 : M1 (d + 1) = M (d + 1)) : PdM G d len ps M1 := ⟨by rw [h1]; exact h.1, h.2.kept h2⟩
abbrev RS : Type := Nat × Option Nat × Option Nat × Option Nat
def tkS (st : RS) (c : Nat) : RS := (tkP st.1 c, tkX st.1 st.2.1 c, tkY st.1 st.2.2.1 c, tkU st.1 st.2.2.2 c)
def rst (g : RS) (ps : Nat → Nat) : Nat → RS
  | 0 => (0, g.2.1, g.2.2.1, g.2.2.2)
  | k + 1 => tkS (rst g ps k) (ps k)
def bad (g : RS) (ps : Nat → Nat) (i : Nat) : Bool := !(tkB (rst g ps i).1 (rst g ps i).2.2.2 (ps i))
def zfind (p : Nat → Bool) : Nat → Option Nat
  | 0 => none
  | n + 1 => (zfind p n).elim (if p n = true then some n else none) some
theorem zfind_none {p : Nat → Bool} : ∀ {n : Nat}, zfind p n = none → ∀ k, k < n → p k = false
  | n + 1, h, k, hk => by
    unfold zfind at h
    cases hz : zfind p n with
    | some i => rw [hz] at h; cases h
    | none =>
      rw [hz] at h
      have h2 : (if p n = true then some n else none) = none := h
      by_cases hkn : k = n
      · subst hkn
        by_cases hp : p k = true
        · rw [if_pos hp] at h2; cases h2
        · exact Bool.not_eq_true _ ▸ hp
      · exact zfind_none hz k (by omega)
theorem zfind_step {p : Nat → Bool} {n : Nat} (h : zfind p n = none) (hp : p n = false) : zfind p (n + 1) = none := by
  unfold zfind
  rw [h, hp]
  rfl
theorem zfind_hit {p : Nat → Bool} {k : Nat} (h : zfind p k = none) (hp : p k = true) : ∀ {n : Nat}, k < n → zfind p n = some k
  | n + 1, hk => by
    unfold zfind
    by_cases hkn : k = n
    · subst hkn; rw [h, hp]; rfl
    · rw [zfind_hit h hp (n := n) (by omega)]; rfl
def ffR (g : RS) (ps : Nat → Nat) (len : Nat) : Option Nat := (zfind (bad g ps) len).elim (if (rst g ps len).1 = 4 then none else some len) some
theorem tkP_le (p c : Nat) : tkP p c ≤ 4 := by
  unfold tkP
  split <;> (try split) <;> omega
theorem dgt_of {c : Nat} (h : (dgt c).isSome = true) : ∃ d, dgt c = some d ∧ d ≤ 9 := by
  cases hd : dgt c with
  | none => rw [hd] at h; cases h
  | some d => exact ⟨d, rfl, (dgt_le hd).1⟩
/-- in the text's part without a fault, a purse that is begun is a number -/
theorem rst_ok (g : RS) (ps : Nat → Nat) : ∀ k, zfind (bad g ps) k = none → (rst g ps k).1 ≤ 4 ∧ ((rst g ps k).1 = 4 → ∃ u, (rst g ps k).2.2.2 = some u ∧ u ≤ 999)
  | 0, _ => ⟨Nat.zero_le _, fun h => by cases h⟩
  | k + 1, h => by
    have hk : zfind (bad g ps) k = none := by
      cases hz : zfind (bad g ps) k with
      | none => rfl
      | some i => unfold zfind at h; rw [hz] at h; cases h
    have hb := zfind_none h k (by omega)
    have hi := rst_ok g ps k hk
    refine ⟨tkP_le _ _, fun h4 => ?_⟩
    have hb2 : tkB (rst g ps k).1 (rst g ps k).2.2.2 (ps k) = true := by
      unfold bad at hb
      simpa using hb
    have hT : tkP (rst g ps k).1 (ps k) = 4 := h4
    show ∃ u, tkU (rst g ps k).1 (rst g ps k).2.2.2 (ps k) = some u ∧ u ≤ 999
    generalize (rst g ps k).1 = p at *
    generalize (rst g ps k).2.2.2 = uo at *
    generalize ps k = c at *
    have h5 := hi.1
    rcases (show p = 0 ∨ p = 1 ∨ p = 2 ∨ p = 3 ∨ p = 4 by omega) with rfl | rfl | rfl | rfl | rfl
    · cases hT
    · cases hT
    · cases hT
    · obtain ⟨d, hd, hd9⟩ := dgt_of hb2
      exact ⟨d, by unfold tkU; rw [if_pos rfl, hd], by omega⟩
    · obtain ⟨u, hu, hu9⟩ := hi.2 rfl
      have hc : c ≠ 59 := fun q => by subst q; cases hT
      subst hu
      have hb3 := hb2
      unfold tkB at hb3
      rw [if_neg hc] at hb3
      cases hd : dgt c with
      | none => rw [hd] at hb3; cases hb3
      | some d =>
        rw [hd] at hb3
        have hb4 : decide (u ≠ 0 ∧ u * 10 + d ≤ 999) = true := hb3
        rw [decide_eq_true_eq] at hb4
        refine ⟨u * 10 + d, ?_, hb4.2⟩
        unfold tkU
        rw [if_neg (by decide), if_pos ⟨rfl, hc, hb2⟩, hd]
        rfl

set_option maxHeartbeats 4000000 in
set_option maxRecDepth 100000 in
theorem c_X2_firstFault (l : Launch) (G : zG) (B0 : Nat) (M : Mm) (d len : Nat) (ps : Nat → Nat) (hP : PdM G d len ps M) (hlen : len ≤ 60) (hps : ∀ i, i < len → ps i < 128) (g : RS) (hR : RdM G (d + 2) g.1 g.2.1 g.2.2.1 g.2.2.2 M) (hBd : B0 ≤ d) : zMet l yX2_firstFault cX2_firstFault 2 (some .int) 2 0 0 G B0 M [.ref d] (some (.int (oI (ffR g ps len)))) (fun M1 => PdM G d len ps M1 ∧ (∃ p xo yo uo, RdM G (d + 2) p xo yo uo M1) ∧ ∀ q, q ≠ d + 2 → M1 q = M q) := by
  refine z_met RX2 [(0, .ref d)] (by decide) rfl (Nat.le_of_ble_eq_true rfl) rfl ?_
  intro pg ev s m below meth cd ls hE hin hB0 hH hl
  have hx := hE.1
  have hb := hE.2.1
  have hF : ∀ q, q ≠ d + 2 → M q = M q := fun _ _ => rfl
  refine z_gen B0 (fun H locs hH hS => ?_) hH
  refine lv_aload_n hx hb dX2_firstFault_0 rfl (lv_at hl 0 rfl) ?_
  refine z_get (T := TX2) (v := .ref (d + 2)) hE hH hP.1 rfl uw_X2 2 (by decide) fkX2_18 rfl dX2_firstFault_1 ?_
  refine z_callV (rest := []) (st2 := []) hE hH hS hB0 hl ca_X0_begin mkX2_28 (c_X0_begin l G B0 M (d + 2) g.1 g.2.1 g.2.2.1 g.2.2.2 hR (by omega)) hR rfl rfl rfl rfl rfl ⟨Nat.le_of_ble_eq_true rfl, Nat.le_of_ble_eq_true rfl⟩ (Nat.le_of_ble_eq_true rfl) ⟨Nat.le_refl _, Nat.le_refl _⟩ dX2_firstFault_4 (fun H locs M1 hH hp hS => ?_)
  obtain ⟨hR2, hG3⟩ := hp
  have hP5 := hP.kept (hG3 _ (by omega)) (hG3 _ (by omega))
  have hF4 := fun q hq => (hG3 q (by omega)).trans (hF q hq)
  refine n_iconst hx hb 0 dX2_firstFault_7 (by decide) ?_
  refine lv_istore_n (lv' := [(1, .int (nI 0)), (0, .ref d)]) hx hb dX2_firstFault_8 rfl hl (by decide) rfl (fun ls hl => ?_)
  have L9 : ∀ (dd : Nat) (k : Nat) (M1 : Mm), len < k + dd → (k ≤ len) → (PdM G d len ps M1) → (RdM G (d + 2) (rst g ps k).1 (rst g ps k).2.1 (rst g ps k).2.2.1 (rst g ps k).2.2.2 M1) → (∀ q, q ≠ d + 2 → M1 q = M q) → (zfind (bad g ps) k = none) → ∀ (H : Heap) (locs : List Loc), zH G M1 H → zS 0 B0 s.heap H locs → ∀ (ls : Array Slot), lv_has ls 2 [(0, .ref d), (1, .int (nI k))] → zW pg l ev 2 0 0 s m [.ref d] below meth cd H locs 0 0 G B0 (some (.int (oI (ffR g ps len)))) (fun M1 => PdM G d len ps M1 ∧ (∃ p xo yo uo, RdM G (d + 2) p xo yo uo M1) ∧ ∀ q, q ≠ d + 2 → M1 q = M q) (F0 m 9 ls []) := by
    intro dd
    induction dd with
    | zero =>
      intro k M1 hdd hk hP1 hR1 hF1 hz
      exact absurd hdd (by omega)
    | succ dd ih =>
      intro k M1 hdd hk hP1 hR1 hF1 hz H locs hH hS ls hl
      refine lv_iload_n hx hb dX2_firstFault_9 rfl (lv_at hl 1 rfl) ?_
      refine lv_aload_n hx hb dX2_firstFault_10 rfl (lv_at hl 0 rfl) ?_
      refine z_get (T := TX2) (v := .int (nI len)) hE hH hP1.1 rfl uw_X2 1 (by decide) fkX2_24 rfl dX2_firstFault_11 ?_
      refine n_cmp_ge (tgt := 41) hx hb (by omega) (by omega) dX2_firstFault_14 (by decide) (fun h6 => ?_) (fun h6 => ?_)
      · refine lv_aload_n hx hb dX2_firstFault_41 rfl (lv_at hl 0 rfl) ?_
        refine z_get (T := TX2) (v := .ref (d + 2)) hE hH hP1.1 rfl uw_X2 2 (by decide) fkX2_18 rfl dX2_firstFault_42 ?_
        refine z_callV (rest := []) (st2 := [.int (zb (decide ((rst g ps k).1 = 4)))]) hE hH hS hB0 hl ca_X0_mayEnd mkX2_35 (c_X0_mayEnd l G B0 M1 (d + 2) ((rst g ps k).1) ((rst g ps k).2.1) ((rst g ps k).2.2.1) ((rst g ps k).2.2.2) hR1 (rst_ok g ps k hz).1) hR1 rfl rfl rfl rfl rfl ⟨Nat.le_of_ble_eq_true rfl, Nat.le_of_ble_eq_true rfl⟩ (Nat.le_of_ble_eq_true rfl) ⟨Nat.le_refl _, Nat.le_refl _⟩ dX2_firstFault_45 (fun H locs M1 hH hp hS => ?_)
        subst hp
        refine b_if_eq (tgt := 56) hx hb dX2_firstFault_48 (by decide) (fun h7 => ?_) (fun h7 => ?_)
        · refine lv_aload_n hx hb dX2_firstFault_56 rfl (lv_at hl 0 rfl) ?_
          refine z_get (T := TX2) (v := .int (nI len)) hE hH hP1.1 rfl uw_X2 1 (by decide) fkX2_24 rfl dX2_firstFault_57 ?_
          exact z_iret hE hH hS (by have hkk : k = len := (by omega); subst hkk; have hd4 := h7; rw [decide_eq_false_iff_not] at hd4; unfold ffR; rw [hz]; show _ = oI (if _ then _ else _); rw [if_neg hd4]; first | done | rfl) ⟨hP1, ⟨_, _, _, _, hR1⟩, hF1⟩ dX2_firstFault_60
        · refine lv_bipush (v := (-6)) hx hb dX2_firstFault_51 (by decide) ?_
          refine lv_goto (tgt := 60) hx hb dX2_firstFault_53 (by decide) ?_
          exact z_iret hE hH hS (by have hkk : k = len := (by omega); subst hkk; have hd4 := h7; rw [decide_eq_true_eq] at hd4; unfold ffR; rw [hz]; show _ = oI (if _ then _ else _); rw [if_pos hd4]; first | done | rfl) ⟨hP1, ⟨_, _, _, _, hR1⟩, hF1⟩ dX2_firstFault_60
      · refine lv_aload_n hx hb dX2_firstFault_17 rfl (lv_at hl 0 rfl) ?_
        refine z_get (T := TX2) (v := .ref (d + 2)) hE hH hP1.1 rfl uw_X2 2 (by decide) fkX2_18 rfl dX2_firstFault_18 ?_
        refine lv_aload_n hx hb dX2_firstFault_21 rfl (lv_at hl 0 rfl) ?_
        refine z_get (T := TX2) (v := .ref (d + 1)) hE hH hP1.1 rfl uw_X2 0 (by decide) fkX2_9 rfl dX2_firstFault_22 ?_
        refine lv_iload_n hx hb dX2_firstFault_25 rfl (lv_at hl 1 rfl) ?_
        refine z_cald hE hH hP1.2 (k := k) (by omega) (by decide) dX2_firstFault_26 ?_
        have q8 := hps k (by omega)
        refine z_callV (rest := []) (st2 := [.int (zb (tkB ((rst g ps k).1) ((rst g ps k).2.2.2) (ps k)))]) hE hH hS hB0 hl ca_X0_takes mkX2_31 (c_X0_takes l G B0 M1 (d + 2) ((rst g ps k).1) ((rst g ps k).2.1) ((rst g ps k).2.2.1) ((rst g ps k).2.2.2) hR1 (by omega) (rst_ok g ps k hz).1 (rst_ok g ps k hz).2 (ps k) (by omega)) hR1 rfl rfl rfl rfl rfl ⟨Nat.le_of_ble_eq_true rfl, Nat.le_of_ble_eq_true rfl⟩ (Nat.le_of_ble_eq_true rfl) ⟨Nat.le_refl _, Nat.le_refl _⟩ dX2_firstFault_27 (fun H locs M9 hH hp hS => ?_)
        obtain ⟨hR10, hG11⟩ := hp
        have hP13 := hP1.kept (hG11 _ (by omega)) (hG11 _ (by omega))
        have hF12 := fun q hq => (hG11 q (by omega)).trans (hF1 q hq)
        refine b_if_ne (tgt := 35) hx hb dX2_firstFault_30 (by decide) (fun h14 => ?_) (fun h14 => ?_)
        · refine lv_iinc (v := (nI (k + 1))) (lv' := [(1, .int (nI (k + 1))), (0, .ref d)]) hx hb dX2_firstFault_35 hl (k := 1) rfl (nI_inc _) (by decide) rfl (fun ls hl => ?_)
          refine lv_goto (tgt := 9) hx hb dX2_firstFault_38 (by decide) ?_
          exact ih  (k + 1) M9 (by omega) (by omega) hP13 hR10 hF12 (zfind_step hz (by unfold bad; rw [h14]; rfl)) _ _ hH hS _ (lv_sub hl [1, 0] rfl)
        · refine lv_iload_n hx hb dX2_firstFault_33 rfl (lv_at hl 1 rfl) ?_
          exact z_iret hE hH hS (by unfold ffR; rw [zfind_hit hz (by unfold bad; rw [h14]; rfl) (by omega)]; rfl) ⟨hP13, ⟨_, _, _, _, hR10⟩, hF12⟩ dX2_firstFault_34
  exact L9 (len + 1) 0 M1 (by omega) (by omega) hP5 hR2 hF4 rfl _ _ hH hS _ (lv_sub hl [1, 0] rfl)
