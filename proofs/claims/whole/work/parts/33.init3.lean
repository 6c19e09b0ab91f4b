theorem cl_made {G : zG} {b : Nat} {M : Mm} {r : Nat → Option Nat} (hO : ObM b M) (h1 : Wl G (b + 1) v00 M) (h2 : Wl G (b + 28) v00 M) (h3 : HsB G (b + 55) 0 (fun i => i) M) (hA : M (b + 219) = some (.inl (G.2 2, 2, .inr (.inr (.inr (.inr r)))))) (hr : ∀ i, i < 2 → r i = some (b + 220 + 27 * i)) (hW : ∀ j, j < 2 → Wl G (b + 220 + 27 * j) v00 M) (hD : zArr G 3 M (b + 274) 2 (fun _ => 0)) (hP : PdM G (b + 275) 0 (fun _ => 0) M) (hR : RdM G (b + 275 + 2) 0 (some 0) (some 0) (some 0) M) : Cl G b σ0 M :=
  ⟨hO, h1, ⟨v00, v00_0, h2⟩, ⟨fun i => i, ⟨fun j hj => hj, fun i j _ _ h => h⟩, h3, fun k hk => absurd hk (Nat.not_lt_zero k)⟩, ⟨⟨r, hA, hr⟩, hD, fun k hk => ⟨v00, v00_0, hW k hk⟩, fun k hk hd => hW k hk⟩, hP, _, _, _, _, hR⟩

set_option maxHeartbeats 4000000 in
set_option maxRecDepth 100000 in
theorem c_X2_init (l : Launch) (G : zG) (B0 : Nat) (M : Mm) (d : Nat) (hM0 : M d = some (.inr (2, [.null, .int (nI 0), .null]))) (hBa : B0 ≤ d) : zMetA l yX2_init cX2_init 1 none 2 2 64 G B0 M [.ref d] none (d + 1) (fun M1 => (PdM G d 0 (fun _ => 0) M1 ∧ RdM G (d + 2) 0 (some 0) (some 0) (some 0) M1) ∧ ∀ q : Nat, (q < d ∨ d + 3 ≤ q) → M1 q = M q) := by
  refine z_metA RX2 [(0, .ref d)] (by decide) rfl (Nat.le_of_ble_eq_true rfl) rfl ?_
  intro pg ev s m below meth cd ls hE hin hB0 hsz hH hl
  have hx := hE.1
  have hb := hE.2.1
  have hF : ∀ q : Nat, (q < d ∨ d + 3 ≤ q) → M q = M q := fun _ _ => rfl
  refine z_gen B0 (fun H locs hH hS => ?_) hH
  refine lv_aload_n hx hb dX2_init_0 rfl (lv_at hl 0 rfl) ?_
  refine z_obj hE hl mkX2_3 (Nat.le_of_ble_eq_true rfl) (Nat.le_of_ble_eq_true rfl) dX2_init_1 ?_
  refine lv_aload_n hx hb dX2_init_4 rfl (lv_at hl 0 rfl) ?_
  refine n_bipush hx hb 60 dX2_init_5 (by decide) ?_
  refine z_newa (a := d + 1) hE hH hS (by rw [hS.2]; omega) 4 rfl rfl ac_char ra_char rfl (N := 60) (by decide) (Nat.le_of_ble_eq_true rfl) (by show _ ≤ 2; omega) (by show _ ≤ 64; omega) dX2_init_7 (fun H M3 hH hS e1 o2 => ?_)
  have k4 := (o2 _ (by omega)).trans hM0
  have k5 := fun q hq => (o2 q (by omega)).trans (hF q hq)
  refine z_putF (T := TX2) hE hin hH hS k4 rfl uw_X2 tyX2 tyX2_ok nmX2 0 (by decide) fkX2_9 rfl rfl rfl rfl (Nat.le_of_ble_eq_true rfl) (by omega) dX2_init_9 (fun H locs M8 hH hS e6 o7 => ?_)
  have k9 := fun q hq => (o7 q (by omega)).trans (k5 q hq)
  have k10 := e1.kept (o7 _ (by omega))
  refine lv_aload_n hx hb dX2_init_12 rfl (lv_at hl 0 rfl) ?_
  refine z_new (a := d + 2) (ci := 0) (T := TX0) (fs := [.int (nI 0), .int (nI 0), .int (nI 0), .int (nI 0)]) hE hH hS (by rw [hS.2]; omega) rfl uw_X0 tyX0 tyX0_ok clX2_15 ins_X0 ini_X0 (fun j hj => by rcases (show j = 0 ∨ j = 1 ∨ j = 2 ∨ j = 3 by omega) with rfl | rfl | rfl | rfl <;> rfl) (by show _ ≤ 2; omega) (by show _ ≤ 64; omega) dX2_init_13 (fun H M13 hH hS e11 o12 => ?_)
  have k14 := (o12 _ (by omega)).trans e6
  have k15 := fun q hq => (o12 q (by omega)).trans (k9 q hq)
  have k16 := k10.kept (o12 _ (by omega))
  refine lv_dup hx hb dX2_init_16 rfl ?_
  refine z_callINA (rest := [.ref (d + 2), .ref d]) hE hH hS hB0 hl ca_X0_init hE.2.2.2.2.2.2.2.2.2.2.1 (c_X0_init l G B0 M13 (d + 2) e11 (by omega)) (by rw [hS.2]; omega) rfl rfl ⟨Nat.le_of_ble_eq_true rfl, Nat.le_of_ble_eq_true rfl⟩ (Nat.le_of_ble_eq_true rfl) ⟨(by show _ ≤ 2; omega), (by show _ ≤ 64; omega)⟩ dX2_init_17 (fun H locs M17 hH hp hS => ?_)
  have hG0 : ∀ q : Nat, (q < 0 ∨ 0 ≤ q) → M17 q = M13 q := fun q _ => congrFun hp q
  have k18 := (hG0 _ (by omega)).trans k14
  have k19 := fun q hq => (hG0 q (by omega)).trans (k15 q hq)
  have k20 := k16.kept (hG0 _ (by omega))
  have k21 := (hG0 _ (by omega)).trans e11
  refine z_putF (T := TX2) hE hin hH hS k18 rfl uw_X2 tyX2 tyX2_ok nmX2 2 (by decide) fkX2_18 rfl rfl rfl rfl (Nat.le_of_ble_eq_true rfl) (by omega) dX2_init_20 (fun H locs M24 hH hS e22 o23 => ?_)
  have k25 := fun q hq => (o23 q (by omega)).trans (k19 q hq)
  have k26 := k20.kept (o23 _ (by omega))
  have k27 := (o23 _ (by omega)).trans k21
  refine W.widen (k := 2) (n := 64) (by omega) (by omega) ?_
  exact z_vret hE hH (hS.to (by omega)) ⟨⟨⟨e22, k26.to (fun _ _ => rfl)⟩, k27⟩, k25⟩ dX2_init_23

set_option maxHeartbeats 4000000 in
set_option maxRecDepth 100000 in
theorem c_X5_init (l : Launch) (G : zG) (B0 : Nat) (M : Mm) (b : Nat) (hM0 : M b = some (.inr (5, [.null, .null, .null, .null, .null, .null]))) (hBa : B0 ≤ b) : zMetA l yX5_init cX5_init 2 none 4 277 8519 G B0 M [.ref b] none (b + 1) (fun M1 => Cl G b σ0 M1 ∧ ∀ q : Nat, (q < b ∨ b + 278 ≤ q) → M1 q = M q) := by
  refine z_metA RX5 [(0, .ref b)] (by decide) rfl (Nat.le_of_ble_eq_true rfl) rfl ?_
  intro pg ev s m below meth cd ls hE hin hB0 hsz hH hl
  have hx := hE.1
  have hb := hE.2.1
  have hF : ∀ q : Nat, (q < b ∨ b + 278 ≤ q) → M q = M q := fun _ _ => rfl
  refine z_gen B0 (fun H locs hH hS => ?_) hH
  refine lv_aload_n hx hb dX5_init_0 rfl (lv_at hl 0 rfl) ?_
  refine z_obj hE hl mkX5_3 (Nat.le_of_ble_eq_true rfl) (Nat.le_of_ble_eq_true rfl) dX5_init_1 ?_
  refine lv_aload_n hx hb dX5_init_4 rfl (lv_at hl 0 rfl) ?_
  refine z_new (a := b + 1) (ci := 4) (T := TX4) (fs := [.null, .int (nI 0), .null, .int (nI 0), .int (nI 0), .int (nI 0)]) hE hH hS (by rw [hS.2]; omega) rfl uw_X4 tyX4 tyX4_ok clX5_9 ins_X4 ini_X4 (fun j hj => by rcases (show j = 0 ∨ j = 1 ∨ j = 2 ∨ j = 3 ∨ j = 4 ∨ j = 5 by omega) with rfl | rfl | rfl | rfl | rfl | rfl <;> rfl) (by show _ ≤ 277; omega) (by show _ ≤ 8519; omega) dX5_init_5 (fun H M3 hH hS e1 o2 => ?_)
  have k4 := (o2 _ (by omega)).trans hM0
  have k5 := fun q hq => (o2 q (by omega)).trans (hF q hq)
  refine lv_dup hx hb dX5_init_8 rfl ?_
  refine z_callIA (rest := [.ref (b + 1), .ref b]) hE hH hS hB0 hl ca_X4_init mkX5_11 (c_X4_init l G B0 M3 (b + 1) e1 (by omega)) (by rw [hS.2]; omega) rfl rfl ⟨Nat.le_of_ble_eq_true rfl, Nat.le_of_ble_eq_true rfl⟩ (Nat.le_of_ble_eq_true rfl) ⟨(by show _ ≤ 277; omega), (by show _ ≤ 8519; omega)⟩ dX5_init_9 (fun H locs M6 hH hp hS => ?_)
  obtain ⟨hp7, hG8⟩ := hp
  have k9 := (hG8 _ (by omega)).trans k4
  have k10 := fun q hq => (hG8 q (by omega)).trans (k5 q hq)
  refine z_putF (T := TX5) hE hin hH hS k9 rfl uw_X5 tyX5 tyX5_ok nmX5 0 (by decide) fkX5_12 rfl rfl rfl rfl (Nat.le_of_ble_eq_true rfl) (by omega) dX5_init_12 (fun H locs M13 hH hS e11 o12 => ?_)
  have k14 := fun q hq => (o12 q (by omega)).trans (k10 q hq)
  have k15 := hp7.kept v00_0 (fun q q1 q2 => o12 q (by omega))
  refine lv_aload_n hx hb dX5_init_15 rfl (lv_at hl 0 rfl) ?_
  refine z_new (a := b + 28) (ci := 4) (T := TX4) (fs := [.null, .int (nI 0), .null, .int (nI 0), .int (nI 0), .int (nI 0)]) hE hH hS (by rw [hS.2]; omega) rfl uw_X4 tyX4 tyX4_ok clX5_9 ins_X4 ini_X4 (fun j hj => by rcases (show j = 0 ∨ j = 1 ∨ j = 2 ∨ j = 3 ∨ j = 4 ∨ j = 5 by omega) with rfl | rfl | rfl | rfl | rfl | rfl <;> rfl) (by show _ ≤ 277; omega) (by show _ ≤ 8519; omega) dX5_init_16 (fun H M18 hH hS e16 o17 => ?_)
  have k19 := (o17 _ (by omega)).trans e11
  have k20 := fun q hq => (o17 q (by omega)).trans (k14 q hq)
  have k21 := k15.kept v00_0 (fun q q1 q2 => o17 q (by omega))
  refine lv_dup hx hb dX5_init_19 rfl ?_
  refine z_callIA (rest := [.ref (b + 28), .ref b]) hE hH hS hB0 hl ca_X4_init mkX5_11 (c_X4_init l G B0 M18 (b + 28) e16 (by omega)) (by rw [hS.2]; omega) rfl rfl ⟨Nat.le_of_ble_eq_true rfl, Nat.le_of_ble_eq_true rfl⟩ (Nat.le_of_ble_eq_true rfl) ⟨(by show _ ≤ 277; omega), (by show _ ≤ 8519; omega)⟩ dX5_init_20 (fun H locs M22 hH hp hS => ?_)
  obtain ⟨hp23, hG24⟩ := hp
  have k25 := (hG24 _ (by omega)).trans k19
  have k26 := fun q hq => (hG24 q (by omega)).trans (k20 q hq)
  have k27 := k21.kept v00_0 (fun q q1 q2 => hG24 q (by omega))
  refine z_putF (T := TX5) hE hin hH hS k25 rfl uw_X5 tyX5 tyX5_ok nmX5 1 (by decide) fkX5_16 rfl rfl rfl rfl (Nat.le_of_ble_eq_true rfl) (by omega) dX5_init_23 (fun H locs M30 hH hS e28 o29 => ?_)
  have k31 := fun q hq => (o29 q (by omega)).trans (k26 q hq)
  have k32 := k27.kept v00_0 (fun q q1 q2 => o29 q (by omega))
  have k33 := hp23.kept v00_0 (fun q q1 q2 => o29 q (by omega))
  refine lv_aload_n hx hb dX5_init_26 rfl (lv_at hl 0 rfl) ?_
  refine z_new (a := b + 55) (ci := 1) (T := TX1) (fs := [.null, .int (nI 0)]) hE hH hS (by rw [hS.2]; omega) rfl uw_X1 tyX1 tyX1_ok clX5_19 ins_X1 ini_X1 (fun j hj => by rcases (show j = 0 ∨ j = 1 by omega) with rfl | rfl <;> rfl) (by show _ ≤ 277; omega) (by show _ ≤ 8519; omega) dX5_init_27 (fun H M36 hH hS e34 o35 => ?_)
  have k37 := (o35 _ (by omega)).trans e28
  have k38 := fun q hq => (o35 q (by omega)).trans (k31 q hq)
  have k39 := k32.kept v00_0 (fun q q1 q2 => o35 q (by omega))
  have k40 := k33.kept v00_0 (fun q q1 q2 => o35 q (by omega))
  refine lv_dup hx hb dX5_init_30 rfl ?_
  refine z_callIA (rest := [.ref (b + 55), .ref b]) hE hH hS hB0 hl ca_X1_init mkX5_21 (c_X1_init l G B0 M36 (b + 55) e34 (by omega)) (by rw [hS.2]; omega) rfl rfl ⟨Nat.le_of_ble_eq_true rfl, Nat.le_of_ble_eq_true rfl⟩ (Nat.le_of_ble_eq_true rfl) ⟨(by show _ ≤ 277; omega), (by show _ ≤ 8519; omega)⟩ dX5_init_31 (fun H locs M41 hH hp hS => ?_)
  obtain ⟨hp42, hG43⟩ := hp
  have k44 := (hG43 _ (by omega)).trans k37
  have k45 := fun q hq => (hG43 q (by omega)).trans (k38 q hq)
  have k46 := k39.kept v00_0 (fun q q1 q2 => hG43 q (by omega))
  have k47 := k40.kept v00_0 (fun q q1 q2 => hG43 q (by omega))
  refine z_putF (T := TX5) hE hin hH hS k44 rfl uw_X5 tyX5 tyX5_ok nmX5 2 (by decide) fkX5_22 rfl rfl rfl rfl (Nat.le_of_ble_eq_true rfl) (by omega) dX5_init_34 (fun H locs M50 hH hS e48 o49 => ?_)
  have k51 := fun q hq => (o49 q (by omega)).trans (k45 q hq)
  have k52 := k46.kept v00_0 (fun q q1 q2 => o49 q (by omega))
  have k53 := k47.kept v00_0 (fun q q1 q2 => o49 q (by omega))
  have k54 := hp42.kept (fun q q1 q2 => o49 q (by omega))
  refine lv_aload_n hx hb dX5_init_37 rfl (lv_at hl 0 rfl) ?_
  refine n_iconst hx hb 2 dX5_init_38 (by decide) ?_
  refine z_newq (a := b + 219) hE hH hS (by rw [hS.2]; omega) 2 rfl clX5_9 hE.2.2.2.2.2.2.2.2.2.1 (N := 2) (by decide) (by show _ ≤ 277; omega) (by show _ ≤ 8519; omega) dX5_init_39 (fun H M57 hH hS e55 o56 => ?_)
  have k58 := (o56 _ (by omega)).trans e48
  have k59 := fun q hq => (o56 q (by omega)).trans (k51 q hq)
  have k60 := k52.kept v00_0 (fun q q1 q2 => o56 q (by omega))
  have k61 := k53.kept v00_0 (fun q q1 q2 => o56 q (by omega))
  have k62 := k54.kept (fun q q1 q2 => o56 q (by omega))
  refine z_putF (T := TX5) hE hin hH hS k58 rfl uw_X5 tyX5 tyX5_ok nmX5 3 (by decide) fkX5_26 rfl rfl rfl rfl (Nat.le_of_ble_eq_true rfl) (by omega) dX5_init_42 (fun H locs M65 hH hS e63 o64 => ?_)
  have k66 := fun q hq => (o64 q (by omega)).trans (k59 q hq)
  have k67 := k60.kept v00_0 (fun q q1 q2 => o64 q (by omega))
  have k68 := k61.kept v00_0 (fun q q1 q2 => o64 q (by omega))
  have k69 := k62.kept (fun q q1 q2 => o64 q (by omega))
  have k70 := (o64 _ (by omega)).trans e55
  refine n_iconst hx hb 0 dX5_init_45 (by decide) ?_
  refine lv_istore_n (lv' := [(1, .int (nI 0)), (0, .ref b)]) hx hb dX5_init_46 rfl hl (by decide) rfl (fun ls hl => ?_)
  refine W.widen (k := 219 + 27 * (0)) (n := 6762 + 844 * (0)) (by omega) (by omega) ?_
  have hS := hS.to (n' := 219 + 27 * (0)) (by omega)
  have L47 : ∀ (dd : Nat) (k : Nat) (r : Nat → Option Nat) (M1 : Mm), 2 < k + dd → (k ≤ 2) → (M1 b = some (.inr (5, [.ref (b + 1), .ref (b + 28), .ref (b + 55), .ref (b + 219), .null, .null]))) → (Wl G (b + 1) v00 M1) → (Wl G (b + 28) v00 M1) → (HsB G (b + 55) 0 (fun i => i) M1) → (M1 (b + 219) = some (.inl (G.2 2, 2, .inr (.inr (.inr (.inr r)))))) → (∀ i, i < k → r i = some (b + 220 + 27 * i)) → (∀ j, j < k → Wl G (b + 220 + 27 * j) v00 M1) → (∀ q : Nat, (q < b ∨ b + 278 ≤ q) → M1 q = M q) → ∀ (H : Heap) (locs : List Loc), zH G M1 H → zS (219 + 27 * k) B0 s.heap H locs → ∀ (ls : Array Slot), lv_has ls 2 [(0, .ref b), (1, .int (nI k))] → zW pg l ev 4 277 8519 s m [.ref b] below meth cd H locs (219 + 27 * k) (6762 + 844 * k) G B0 none (fun M1 => Cl G b σ0 M1 ∧ ∀ q : Nat, (q < b ∨ b + 278 ≤ q) → M1 q = M q) (F0 m 47 ls []) := by
    intro dd
    induction dd with
    | zero =>
      intro k r M1 hdd hk hO1 hW1 hW2 hH1 hA1 hr hS1 hF1
      exact absurd hdd (by omega)
    | succ dd ih =>
      intro k r M1 hdd hk hO1 hW1 hW2 hH1 hA1 hr hS1 hF1 H locs hH hS ls hl
      refine lv_iload_n hx hb dX5_init_47 rfl (lv_at hl 1 rfl) ?_
      refine n_iconst hx hb 2 dX5_init_48 (by decide) ?_
      refine n_cmp_ge (tgt := 71) hx hb (by omega) (by decide) dX5_init_49 (by decide) (fun h71 => ?_) (fun h71 => ?_)
      · have hk2 : k = 2 := by omega
        subst hk2
        refine lv_aload_n hx hb dX5_init_71 rfl (lv_at hl 0 rfl) ?_
        refine n_iconst hx hb 2 dX5_init_72 (by decide) ?_
        refine z_newa (a := b + 274) hE hH hS (by rw [hS.2]; omega) 3 rfl rfl ac_boolean ra_bool rfl (N := 2) (by decide) (Nat.le_of_ble_eq_true rfl) (by show _ ≤ 277; omega) (by show _ ≤ 8519; omega) dX5_init_73 (fun H M74 hH hS e72 o73 => ?_)
        have k75 := (o73 _ (by omega)).trans hO1
        have k76 := fun q hq => (o73 q (by omega)).trans (hF1 q hq)
        have k77 := hW1.kept v00_0 (fun q q1 q2 => o73 q (by omega))
        have k78 := hW2.kept v00_0 (fun q q1 q2 => o73 q (by omega))
        have k79 := hH1.kept (fun q q1 q2 => o73 q (by omega))
        have k80 := (o73 _ (by omega)).trans hA1
        have k81 := fun j hj => (hS1 j hj).kept v00_0 (fun q q1 q2 => o73 q (by omega))
        refine z_putF (T := TX5) hE hin hH hS k75 rfl uw_X5 tyX5 tyX5_ok nmX5 4 (by decide) fkX5_30 rfl rfl rfl rfl (Nat.le_of_ble_eq_true rfl) (by omega) dX5_init_75 (fun H locs M84 hH hS e82 o83 => ?_)
        have k85 := fun q hq => (o83 q (by omega)).trans (k76 q hq)
        have k86 := k77.kept v00_0 (fun q q1 q2 => o83 q (by omega))
        have k87 := k78.kept v00_0 (fun q q1 q2 => o83 q (by omega))
        have k88 := k79.kept (fun q q1 q2 => o83 q (by omega))
        have k89 := (o83 _ (by omega)).trans k80
        have k90 := fun j hj => (k81 j hj).kept v00_0 (fun q q1 q2 => o83 q (by omega))
        have k91 := e72.kept (o83 _ (by omega))
        refine lv_aload_n hx hb dX5_init_78 rfl (lv_at hl 0 rfl) ?_
        refine z_new (a := b + 275) (ci := 2) (T := TX2) (fs := [.null, .int (nI 0), .null]) hE hH hS (by rw [hS.2]; omega) rfl uw_X2 tyX2 tyX2_ok clX5_34 ins_X2 ini_X2 (fun j hj => by rcases (show j = 0 ∨ j = 1 ∨ j = 2 by omega) with rfl | rfl | rfl <;> rfl) (by show _ ≤ 277; omega) (by show _ ≤ 8519; omega) dX5_init_79 (fun H M94 hH hS e92 o93 => ?_)
        have k95 := (o93 _ (by omega)).trans e82
        have k96 := fun q hq => (o93 q (by omega)).trans (k85 q hq)
        have k97 := k86.kept v00_0 (fun q q1 q2 => o93 q (by omega))
        have k98 := k87.kept v00_0 (fun q q1 q2 => o93 q (by omega))
        have k99 := k88.kept (fun q q1 q2 => o93 q (by omega))
        have k100 := (o93 _ (by omega)).trans k89
        have k101 := fun j hj => (k90 j hj).kept v00_0 (fun q q1 q2 => o93 q (by omega))
        have k102 := k91.kept (o93 _ (by omega))
        refine lv_dup hx hb dX5_init_82 rfl ?_
        refine z_callIA (rest := [.ref (b + 275), .ref b]) hE hH hS hB0 hl ca_X2_init mkX5_36 (c_X2_init l G B0 M94 (b + 275) e92 (by omega)) (by rw [hS.2]; omega) rfl rfl ⟨Nat.le_of_ble_eq_true rfl, Nat.le_of_ble_eq_true rfl⟩ (Nat.le_of_ble_eq_true rfl) ⟨(by show _ ≤ 277; omega), (by show _ ≤ 8519; omega)⟩ dX5_init_83 (fun H locs M103 hH hp hS => ?_)
        obtain ⟨⟨hp104, hq105⟩, hG106⟩ := hp
        have k107 := (hG106 _ (by omega)).trans k95
        have k108 := fun q hq => (hG106 q (by omega)).trans (k96 q hq)
        have k109 := k97.kept v00_0 (fun q q1 q2 => hG106 q (by omega))
        have k110 := k98.kept v00_0 (fun q q1 q2 => hG106 q (by omega))
        have k111 := k99.kept (fun q q1 q2 => hG106 q (by omega))
        have k112 := (hG106 _ (by omega)).trans k100
        have k113 := fun j hj => (k101 j hj).kept v00_0 (fun q q1 q2 => hG106 q (by omega))
        have k114 := k102.kept (hG106 _ (by omega))
        refine z_putF (T := TX5) hE hin hH hS k107 rfl uw_X5 tyX5 tyX5_ok nmX5 5 (by decide) fkX5_37 rfl rfl rfl rfl (Nat.le_of_ble_eq_true rfl) (by omega) dX5_init_86 (fun H locs M117 hH hS e115 o116 => ?_)
        have k118 := fun q hq => (o116 q (by omega)).trans (k108 q hq)
        have k119 := k109.kept v00_0 (fun q q1 q2 => o116 q (by omega))
        have k120 := k110.kept v00_0 (fun q q1 q2 => o116 q (by omega))
        have k121 := k111.kept (fun q q1 q2 => o116 q (by omega))
        have k122 := (o116 _ (by omega)).trans k112
        have k123 := fun j hj => (k113 j hj).kept v00_0 (fun q q1 q2 => o116 q (by omega))
        have k124 := k114.kept (o116 _ (by omega))
        have k125 := hp104.kept (o116 _ (by omega)) (o116 _ (by omega))
        have k126 := (o116 _ (by omega)).trans hq105
        refine W.widen (k := 277) (n := 8519) (by omega) (by omega) ?_
        exact z_vret hE hH (hS.to (by omega)) ⟨cl_made e115 k119 k120 k121 k122 hr k123 k124 k125 k126, k118⟩ dX5_init_89
      · refine lv_aload_n hx hb dX5_init_52 rfl (lv_at hl 0 rfl) ?_
        refine z_get (T := TX5) (v := .ref (b + 219)) hE hH hO1 rfl uw_X5 3 (by decide) fkX5_26 rfl dX5_init_53 ?_
        refine lv_iload_n hx hb dX5_init_56 rfl (lv_at hl 1 rfl) ?_
        refine z_new (a := b + 220 + 27 * k) (ci := 4) (T := TX4) (fs := [.null, .int (nI 0), .null, .int (nI 0), .int (nI 0), .int (nI 0)]) hE hH hS (by rw [hS.2]; omega) rfl uw_X4 tyX4 tyX4_ok clX5_9 ins_X4 ini_X4 (fun j hj => by rcases (show j = 0 ∨ j = 1 ∨ j = 2 ∨ j = 3 ∨ j = 4 ∨ j = 5 by omega) with rfl | rfl | rfl | rfl | rfl | rfl <;> rfl) (by show _ ≤ 277; omega) (by show _ ≤ 8519; omega) dX5_init_57 (fun H M129 hH hS e127 o128 => ?_)
        have k130 := (o128 _ (by omega)).trans hO1
        have k131 := fun q hq => (o128 q (by omega)).trans (hF1 q hq)
        have k132 := hW1.kept v00_0 (fun q q1 q2 => o128 q (by omega))
        have k133 := hW2.kept v00_0 (fun q q1 q2 => o128 q (by omega))
        have k134 := hH1.kept (fun q q1 q2 => o128 q (by omega))
        have k135 := (o128 _ (by omega)).trans hA1
        have k136 := fun j hj => (hS1 j hj).kept v00_0 (fun q q1 q2 => o128 q (by omega))
        refine lv_dup hx hb dX5_init_60 rfl ?_
        refine z_callIA (rest := [.ref (b + 220 + 27 * k), .int (nI k), .ref (b + 219)]) hE hH hS hB0 hl ca_X4_init mkX5_11 (c_X4_init l G B0 M129 (b + 220 + 27 * k) e127 (by omega)) (by rw [hS.2]; omega) rfl rfl ⟨Nat.le_of_ble_eq_true rfl, Nat.le_of_ble_eq_true rfl⟩ (Nat.le_of_ble_eq_true rfl) ⟨(by show _ ≤ 277; omega), (by show _ ≤ 8519; omega)⟩ dX5_init_61 (fun H locs M137 hH hp hS => ?_)
        obtain ⟨hp138, hG139⟩ := hp
        have k140 := (hG139 _ (by omega)).trans k130
        have k141 := fun q hq => (hG139 q (by omega)).trans (k131 q hq)
        have k142 := k132.kept v00_0 (fun q q1 q2 => hG139 q (by omega))
        have k143 := k133.kept v00_0 (fun q q1 q2 => hG139 q (by omega))
        have k144 := k134.kept (fun q q1 q2 => hG139 q (by omega))
        have k145 := (hG139 _ (by omega)).trans k135
        have k146 := fun j hj => (k136 j hj).kept v00_0 (fun q q1 q2 => hG139 q (by omega))
        refine z_aast hE hH hS k145 rfl (wl_at hp138).choose_spec rfl (k := k) (by omega) (by decide) (by omega) dX5_init_64 (fun H locs M149 hH hS e147 o148 => ?_)
        have k150 := (o148 _ (by omega)).trans k140
        have k151 := fun q hq => (o148 q (by omega)).trans (k141 q hq)
        have k152 := k142.kept v00_0 (fun q q1 q2 => o148 q (by omega))
        have k153 := k143.kept v00_0 (fun q q1 q2 => o148 q (by omega))
        have k154 := k144.kept (fun q q1 q2 => o148 q (by omega))
        have k155 := fun j hj => (k146 j hj).kept v00_0 (fun q q1 q2 => o148 q (by omega))
        have k156 := hp138.kept v00_0 (fun q q1 q2 => o148 q (by omega))
        refine lv_iinc (v := (nI (k + 1))) (lv' := [(1, .int (nI (k + 1))), (0, .ref b)]) hx hb dX5_init_65 hl (k := 1) rfl (nI_inc _) (by decide) rfl (fun ls hl => ?_)
        refine lv_goto (tgt := 47) hx hb dX5_init_68 (by decide) ?_
        refine W.widen (k := 219 + 27 * (k + 1)) (n := 6762 + 844 * (k + 1)) (by omega) (by omega) ?_
        have hS := hS.to (n' := 219 + 27 * (k + 1)) (by omega)
        exact ih  (k + 1) (fun i => if i = k then some (b + 220 + 27 * k) else r i) M149 (by omega) (by omega) k150 k152 k153 k154 e147 (fun i hi => by show (if i = k then _ else _) = _; by_cases hik : i = k; (· subst hik; rw [if_pos rfl]); (· rw [if_neg hik]; exact hr i (by omega))) (fun j hj => by by_cases hjk : j = k; (· subst hjk; exact k156); (· exact k155 j (by omega))) k151 _ _ hH hS _ (lv_sub hl [1, 0] rfl)
  exact L47 3 0 (fun _ => none) M65 (by omega) (by omega) e63 k67 k68 k69 k70 (fun i hi => absurd hi (Nat.not_lt_zero i)) (fun i hi => absurd hi (Nat.not_lt_zero i)) k66 _ _ hH hS _ (lv_sub hl [1, 0] rfl)

set_option maxHeartbeats 4000000 in
set_option maxRecDepth 100000 in
theorem c_X6_init (l : Launch) (G : zG) (B0 : Nat) (M : Mm) (d : Nat) (hM0 : M d = some (.inr (6, [.int (nI 0), .null, .null, .null, .int (nI 0), .null, .null, .null, .int (nI 0), .null, .null, .int (nI 0), .int (nI 0), .null, .int (nI 0)]))) (hBa : B0 ≤ d) : zMetA l yX6_init cX6_init 2 none 1 9 8426 G B0 M [.ref d] none (d + 1) (fun M1 => Mo G d σ0 M1 ∧ ∀ q : Nat, (q < d ∨ d + 10 ≤ q) → M1 q = M q) := by
  refine z_metA RX6 [(0, .ref d)] (by decide) rfl (Nat.le_of_ble_eq_true rfl) rfl ?_
  intro pg ev s m below meth cd ls hE hin hB0 hsz hH hl
  have hx := hE.1
  have hb := hE.2.1
  have hF : ∀ q : Nat, (q < d ∨ d + 10 ≤ q) → M q = M q := fun _ _ => rfl
  refine z_gen B0 (fun H locs hH hS => ?_) hH
  refine lv_aload_n hx hb dX6_init_0 rfl (lv_at hl 0 rfl) ?_
  refine z_obj hE hl mkX6_1 (Nat.le_of_ble_eq_true rfl) (Nat.le_of_ble_eq_true rfl) dX6_init_1 ?_
  refine lv_aload_n hx hb dX6_init_4 rfl (lv_at hl 0 rfl) ?_
  refine n_sipush hx hb 818 dX6_init_5 (by decide) ?_
  refine z_newa (a := d + 1) hE hH hS (by rw [hS.2]; omega) 0 rfl rfl ac_int ra_int rfl (N := 818) (by decide) (Nat.le_of_ble_eq_true rfl) (by show _ ≤ 9; omega) (by show _ ≤ 8426; omega) dX6_init_8 (fun H M3 hH hS e1 o2 => ?_)
  have k4 := (o2 _ (by omega)).trans hM0
  have k5 := fun q hq => (o2 q (by omega)).trans (hF q hq)
  refine z_putF (T := TX6) hE hin hH hS k4 rfl uw_X6 tyX6 tyX6_ok nmX6 1 (by decide) fkX6_7 rfl rfl rfl rfl (Nat.le_of_ble_eq_true rfl) (by omega) dX6_init_10 (fun H locs M8 hH hS e6 o7 => ?_)
  have k9 := fun q hq => (o7 q (by omega)).trans (k5 q hq)
  have k10 := e1.kept (o7 _ (by omega))
  refine lv_aload_n hx hb dX6_init_13 rfl (lv_at hl 0 rfl) ?_
  refine n_sipush hx hb 818 dX6_init_14 (by decide) ?_
  refine z_newa (a := d + 2) hE hH hS (by rw [hS.2]; omega) 0 rfl rfl ac_int ra_int rfl (N := 818) (by decide) (Nat.le_of_ble_eq_true rfl) (by show _ ≤ 9; omega) (by show _ ≤ 8426; omega) dX6_init_17 (fun H M13 hH hS e11 o12 => ?_)
  have k14 := (o12 _ (by omega)).trans e6
  have k15 := fun q hq => (o12 q (by omega)).trans (k9 q hq)
  have k16 := k10.kept (o12 _ (by omega))
  refine z_putF (T := TX6) hE hin hH hS k14 rfl uw_X6 tyX6 tyX6_ok nmX6 2 (by decide) fkX6_13 rfl rfl rfl rfl (Nat.le_of_ble_eq_true rfl) (by omega) dX6_init_19 (fun H locs M19 hH hS e17 o18 => ?_)
  have k20 := fun q hq => (o18 q (by omega)).trans (k15 q hq)
  have k21 := k16.kept (o18 _ (by omega))
  have k22 := e11.kept (o18 _ (by omega))
  refine lv_aload_n hx hb dX6_init_22 rfl (lv_at hl 0 rfl) ?_
  refine n_sipush hx hb 4908 dX6_init_23 (by decide) ?_
  refine z_newa (a := d + 3) hE hH hS (by rw [hS.2]; omega) 0 rfl rfl ac_int ra_int rfl (N := 4908) (by decide) (Nat.le_of_ble_eq_true rfl) (by show _ ≤ 9; omega) (by show _ ≤ 8426; omega) dX6_init_26 (fun H M25 hH hS e23 o24 => ?_)
  have k26 := (o24 _ (by omega)).trans e17
  have k27 := fun q hq => (o24 q (by omega)).trans (k20 q hq)
  have k28 := k21.kept (o24 _ (by omega))
  have k29 := k22.kept (o24 _ (by omega))
  refine z_putF (T := TX6) hE hin hH hS k26 rfl uw_X6 tyX6 tyX6_ok nmX6 3 (by decide) fkX6_16 rfl rfl rfl rfl (Nat.le_of_ble_eq_true rfl) (by omega) dX6_init_28 (fun H locs M32 hH hS e30 o31 => ?_)
  have k33 := fun q hq => (o31 q (by omega)).trans (k27 q hq)
  have k34 := k28.kept (o31 _ (by omega))
  have k35 := k29.kept (o31 _ (by omega))
  have k36 := e23.kept (o31 _ (by omega))
  refine lv_aload_n hx hb dX6_init_31 rfl (lv_at hl 0 rfl) ?_
  refine n_sipush hx hb 1636 dX6_init_32 (by decide) ?_
  refine z_newa (a := d + 4) hE hH hS (by rw [hS.2]; omega) 0 rfl rfl ac_int ra_int rfl (N := 1636) (by decide) (Nat.le_of_ble_eq_true rfl) (by show _ ≤ 9; omega) (by show _ ≤ 8426; omega) dX6_init_35 (fun H M39 hH hS e37 o38 => ?_)
  have k40 := (o38 _ (by omega)).trans e30
  have k41 := fun q hq => (o38 q (by omega)).trans (k33 q hq)
  have k42 := k34.kept (o38 _ (by omega))
  have k43 := k35.kept (o38 _ (by omega))
  have k44 := k36.kept (o38 _ (by omega))
  refine z_putF (T := TX6) hE hin hH hS k40 rfl uw_X6 tyX6 tyX6_ok nmX6 5 (by decide) fkX6_19 rfl rfl rfl rfl (Nat.le_of_ble_eq_true rfl) (by omega) dX6_init_37 (fun H locs M47 hH hS e45 o46 => ?_)
  have k48 := fun q hq => (o46 q (by omega)).trans (k41 q hq)
  have k49 := k42.kept (o46 _ (by omega))
  have k50 := k43.kept (o46 _ (by omega))
  have k51 := k44.kept (o46 _ (by omega))
  have k52 := e37.kept (o46 _ (by omega))
  refine lv_aload_n hx hb dX6_init_40 rfl (lv_at hl 0 rfl) ?_
  refine n_iconst hx hb 2 dX6_init_41 (by decide) ?_
  refine z_newa (a := d + 5) hE hH hS (by rw [hS.2]; omega) 3 rfl rfl ac_boolean ra_bool rfl (N := 2) (by decide) (Nat.le_of_ble_eq_true rfl) (by show _ ≤ 9; omega) (by show _ ≤ 8426; omega) dX6_init_42 (fun H M55 hH hS e53 o54 => ?_)
  have k56 := (o54 _ (by omega)).trans e45
  have k57 := fun q hq => (o54 q (by omega)).trans (k48 q hq)
  have k58 := k49.kept (o54 _ (by omega))
  have k59 := k50.kept (o54 _ (by omega))
  have k60 := k51.kept (o54 _ (by omega))
  have k61 := k52.kept (o54 _ (by omega))
  refine z_putF (T := TX6) hE hin hH hS k56 rfl uw_X6 tyX6 tyX6_ok nmX6 6 (by decide) fkX6_22 rfl rfl rfl rfl (Nat.le_of_ble_eq_true rfl) (by omega) dX6_init_44 (fun H locs M64 hH hS e62 o63 => ?_)
  have k65 := fun q hq => (o63 q (by omega)).trans (k57 q hq)
  have k66 := k58.kept (o63 _ (by omega))
  have k67 := k59.kept (o63 _ (by omega))
  have k68 := k60.kept (o63 _ (by omega))
  have k69 := k61.kept (o63 _ (by omega))
  have k70 := e53.kept (o63 _ (by omega))
  refine lv_aload_n hx hb dX6_init_47 rfl (lv_at hl 0 rfl) ?_
  refine n_bipush hx hb 60 dX6_init_48 (by decide) ?_
  refine z_newa (a := d + 6) hE hH hS (by rw [hS.2]; omega) 0 rfl rfl ac_int ra_int rfl (N := 60) (by decide) (Nat.le_of_ble_eq_true rfl) (by show _ ≤ 9; omega) (by show _ ≤ 8426; omega) dX6_init_50 (fun H M73 hH hS e71 o72 => ?_)
  have k74 := (o72 _ (by omega)).trans e62
  have k75 := fun q hq => (o72 q (by omega)).trans (k65 q hq)
  have k76 := k66.kept (o72 _ (by omega))
  have k77 := k67.kept (o72 _ (by omega))
  have k78 := k68.kept (o72 _ (by omega))
  have k79 := k69.kept (o72 _ (by omega))
  have k80 := k70.kept (o72 _ (by omega))
  refine z_putF (T := TX6) hE hin hH hS k74 rfl uw_X6 tyX6 tyX6_ok nmX6 7 (by decide) fkX6_26 rfl rfl rfl rfl (Nat.le_of_ble_eq_true rfl) (by omega) dX6_init_52 (fun H locs M83 hH hS e81 o82 => ?_)
  have k84 := fun q hq => (o82 q (by omega)).trans (k75 q hq)
  have k85 := k76.kept (o82 _ (by omega))
  have k86 := k77.kept (o82 _ (by omega))
  have k87 := k78.kept (o82 _ (by omega))
  have k88 := k79.kept (o82 _ (by omega))
  have k89 := k80.kept (o82 _ (by omega))
  have k90 := e71.kept (o82 _ (by omega))
  refine lv_aload_n hx hb dX6_init_55 rfl (lv_at hl 0 rfl) ?_
  refine n_bipush hx hb 60 dX6_init_56 (by decide) ?_
  refine z_newa (a := d + 7) hE hH hS (by rw [hS.2]; omega) 0 rfl rfl ac_int ra_int rfl (N := 60) (by decide) (Nat.le_of_ble_eq_true rfl) (by show _ ≤ 9; omega) (by show _ ≤ 8426; omega) dX6_init_58 (fun H M93 hH hS e91 o92 => ?_)
  have k94 := (o92 _ (by omega)).trans e81
  have k95 := fun q hq => (o92 q (by omega)).trans (k84 q hq)
  have k96 := k85.kept (o92 _ (by omega))
  have k97 := k86.kept (o92 _ (by omega))
  have k98 := k87.kept (o92 _ (by omega))
  have k99 := k88.kept (o92 _ (by omega))
  have k100 := k89.kept (o92 _ (by omega))
  have k101 := k90.kept (o92 _ (by omega))
  refine z_putF (T := TX6) hE hin hH hS k94 rfl uw_X6 tyX6 tyX6_ok nmX6 9 (by decide) fkX6_29 rfl rfl rfl rfl (Nat.le_of_ble_eq_true rfl) (by omega) dX6_init_60 (fun H locs M104 hH hS e102 o103 => ?_)
  have k105 := fun q hq => (o103 q (by omega)).trans (k95 q hq)
  have k106 := k96.kept (o103 _ (by omega))
  have k107 := k97.kept (o103 _ (by omega))
  have k108 := k98.kept (o103 _ (by omega))
  have k109 := k99.kept (o103 _ (by omega))
  have k110 := k100.kept (o103 _ (by omega))
  have k111 := k101.kept (o103 _ (by omega))
  have k112 := e91.kept (o103 _ (by omega))
  refine lv_aload_n hx hb dX6_init_63 rfl (lv_at hl 0 rfl) ?_
  refine n_bipush hx hb 60 dX6_init_64 (by decide) ?_
  refine z_newa (a := d + 8) hE hH hS (by rw [hS.2]; omega) 0 rfl rfl ac_int ra_int rfl (N := 60) (by decide) (Nat.le_of_ble_eq_true rfl) (by show _ ≤ 9; omega) (by show _ ≤ 8426; omega) dX6_init_66 (fun H M115 hH hS e113 o114 => ?_)
  have k116 := (o114 _ (by omega)).trans e102
  have k117 := fun q hq => (o114 q (by omega)).trans (k105 q hq)
  have k118 := k106.kept (o114 _ (by omega))
  have k119 := k107.kept (o114 _ (by omega))
  have k120 := k108.kept (o114 _ (by omega))
  have k121 := k109.kept (o114 _ (by omega))
  have k122 := k110.kept (o114 _ (by omega))
  have k123 := k111.kept (o114 _ (by omega))
  have k124 := k112.kept (o114 _ (by omega))
  refine z_putF (T := TX6) hE hin hH hS k116 rfl uw_X6 tyX6 tyX6_ok nmX6 10 (by decide) fkX6_32 rfl rfl rfl rfl (Nat.le_of_ble_eq_true rfl) (by omega) dX6_init_68 (fun H locs M127 hH hS e125 o126 => ?_)
  have k128 := fun q hq => (o126 q (by omega)).trans (k117 q hq)
  have k129 := k118.kept (o126 _ (by omega))
  have k130 := k119.kept (o126 _ (by omega))
  have k131 := k120.kept (o126 _ (by omega))
  have k132 := k121.kept (o126 _ (by omega))
  have k133 := k122.kept (o126 _ (by omega))
  have k134 := k123.kept (o126 _ (by omega))
  have k135 := k124.kept (o126 _ (by omega))
  have k136 := e113.kept (o126 _ (by omega))
  refine lv_aload_n hx hb dX6_init_71 rfl (lv_at hl 0 rfl) ?_
  refine n_bipush hx hb 64 dX6_init_72 (by decide) ?_
  refine z_newa (a := d + 9) hE hH hS (by rw [hS.2]; omega) 0 rfl rfl ac_int ra_int rfl (N := 64) (by decide) (Nat.le_of_ble_eq_true rfl) (by show _ ≤ 9; omega) (by show _ ≤ 8426; omega) dX6_init_74 (fun H M139 hH hS e137 o138 => ?_)
  have k140 := (o138 _ (by omega)).trans e125
  have k141 := fun q hq => (o138 q (by omega)).trans (k128 q hq)
  have k142 := k129.kept (o138 _ (by omega))
  have k143 := k130.kept (o138 _ (by omega))
  have k144 := k131.kept (o138 _ (by omega))
  have k145 := k132.kept (o138 _ (by omega))
  have k146 := k133.kept (o138 _ (by omega))
  have k147 := k134.kept (o138 _ (by omega))
  have k148 := k135.kept (o138 _ (by omega))
  have k149 := k136.kept (o138 _ (by omega))
  refine z_putF (T := TX6) hE hin hH hS k140 rfl uw_X6 tyX6 tyX6_ok nmX6 13 (by decide) fkX6_35 rfl rfl rfl rfl (Nat.le_of_ble_eq_true rfl) (by omega) dX6_init_76 (fun H locs M152 hH hS e150 o151 => ?_)
  have k153 := fun q hq => (o151 q (by omega)).trans (k141 q hq)
  have k154 := k142.kept (o151 _ (by omega))
  have k155 := k143.kept (o151 _ (by omega))
  have k156 := k144.kept (o151 _ (by omega))
  have k157 := k145.kept (o151 _ (by omega))
  have k158 := k146.kept (o151 _ (by omega))
  have k159 := k147.kept (o151 _ (by omega))
  have k160 := k148.kept (o151 _ (by omega))
  have k161 := k149.kept (o151 _ (by omega))
  have k162 := e137.kept (o151 _ (by omega))
  refine lv_aload_n hx hb dX6_init_79 rfl (lv_at hl 0 rfl) ?_
  refine n_iconst hx hb 0 dX6_init_80 (by decide) ?_
  refine z_put (T := TX6) hE hH hS e150 rfl uw_X6 tyX6 tyX6_ok nmX6 0 (by decide) fkX6_38 rfl rfl rfl (Nat.le_of_ble_eq_true rfl) (by omega) dX6_init_81 (fun H locs M165 hH hS e163 o164 => ?_)
  have k166 := fun q hq => (o164 q (by omega)).trans (k153 q hq)
  have k167 := k154.kept (o164 _ (by omega))
  have k168 := k155.kept (o164 _ (by omega))
  have k169 := k156.kept (o164 _ (by omega))
  have k170 := k157.kept (o164 _ (by omega))
  have k171 := k158.kept (o164 _ (by omega))
  have k172 := k159.kept (o164 _ (by omega))
  have k173 := k160.kept (o164 _ (by omega))
  have k174 := k161.kept (o164 _ (by omega))
  have k175 := k162.kept (o164 _ (by omega))
  refine n_iconst hx hb 0 dX6_init_84 (by decide) ?_
  refine lv_istore_n (lv' := [(1, .int (nI 0)), (0, .ref d)]) hx hb dX6_init_85 rfl hl (by decide) rfl (fun ls hl => ?_)
  refine W.widen (k := 9) (n := 8426) (by omega) (by omega) ?_
  have hS := hS.to (n' := 9) (by omega)
  have L86 : ∀ (dd : Nat) (x : Nat) (g1 : Nat → Int32) (M1 : Mm), 10 < x + dd → (x ≤ 10) → (M1 d = some (.inr (6, [.int (nI 0), .ref (d + 1), .ref (d + 2), .ref (d + 3), .int (nI 0), .ref (d + 4), .ref (d + 5), .ref (d + 6), .int (nI 0), .ref (d + 7), .ref (d + 8), .int (nI 0), .int (nI 0), .ref (d + 9), .int (nI 0)]))) → (zArr G 0 M1 (d + 1) 818 g1) → (zArr G 0 M1 (d + 2) 818 (fun _ => 0)) → (zArr G 0 M1 (d + 3) 4908 (fun _ => 0)) → (zArr G 0 M1 (d + 4) 1636 (fun _ => 0)) → (zArr G 3 M1 (d + 5) 2 (fun _ => 0)) → (zArr G 0 M1 (d + 6) 60 (fun _ => 0)) → (zArr G 0 M1 (d + 7) 60 (fun _ => 0)) → (zArr G 0 M1 (d + 8) 60 (fun _ => 0)) → (zArr G 0 M1 (d + 9) 64 (fun _ => 0)) → (∀ q : Nat, (q < d ∨ d + 10 ≤ q) → M1 q = M q) → (∀ i, i < 818 → g1 i = nI (if 4 ≤ i ∧ i < 4 + x then 1 else 0)) → ∀ (H : Heap) (locs : List Loc), zH G M1 H → zS 9 B0 s.heap H locs → ∀ (ls : Array Slot), lv_has ls 2 [(0, .ref d), (1, .int (nI x))] → zW pg l ev 1 9 8426 s m [.ref d] below meth cd H locs 9 8426 G B0 none (fun M1 => Mo G d σ0 M1 ∧ ∀ q : Nat, (q < d ∨ d + 10 ≤ q) → M1 q = M q) (F0 m 86 ls []) := by
    intro dd
    induction dd with
    | zero =>
      intro x g1 M1 hdd hx10 hO1 hA11 hA21 hA31 hA41 hA51 hA61 hA71 hA81 hA91 hF1 hg
      exact absurd hdd (by omega)
    | succ dd ih =>
      intro x g1 M1 hdd hx10 hO1 hA11 hA21 hA31 hA41 hA51 hA61 hA71 hA81 hA91 hF1 hg H locs hH hS ls hl
      refine lv_iload_n hx hb dX6_init_86 rfl (lv_at hl 1 rfl) ?_
      refine n_bipush hx hb 10 dX6_init_87 (by decide) ?_
      refine n_cmp_ge (tgt := 107) hx hb (by omega) (by decide) dX6_init_89 (by decide) (fun h176 => ?_) (fun h176 => ?_)
      · refine W.widen (k := 9) (n := 8426) (by omega) (by omega) ?_
        have hx1 : x = 10 := by omega
        subst hx1
        have hMd : Md G d (sg (nI 0) (nI 0) (nI 0) (nI 0) (nI 0) (nI 0)) (xs v00 (fun _ => 0) (fun _ => 0) (fun _ => 0) (fun _ => 0) (fun _ => nI 0) (fun _ => 0) (fun _ => 0) (fun _ => 0)) M1 := by
          refine ⟨hO1, fun j h1 h9 => ?_⟩
          rcases (show j = 1 ∨ j = 2 ∨ j = 3 ∨ j = 4 ∨ j = 5 ∨ j = 6 ∨ j = 7 ∨ j = 8 ∨ j = 9 by omega) with rfl | rfl | rfl | rfl | rfl | rfl | rfl | rfl | rfl
          · exact hA11.to (fun i hi => (hg i hi).trans rfl)
          · exact hA21
          · exact hA31
          · exact hA41
          · exact hA51
          · exact hA61.to (fun _ _ => rfl)
          · exact hA71
          · exact hA81
          · exact hA91
        exact z_vret hE hH (hS.to (by omega)) ⟨⟨_, _, _, _, _, _, _, _, _, _, _, hMd, fun k hk => absurd hk (Nat.not_lt_zero k), fun k _ h => Bool.noConfusion (show false = true from h), fun k _ => rfl⟩, hF1⟩ dX6_init_107
      · refine lv_aload_n hx hb dX6_init_92 rfl (lv_at hl 0 rfl) ?_
        refine z_get (T := TX6) (v := .ref (d + 1)) hE hH hO1 rfl uw_X6 1 (by decide) fkX6_7 rfl dX6_init_93 ?_
        refine n_iconst hx hb 4 dX6_init_96 (by decide) ?_
        refine lv_iload_n hx hb dX6_init_97 rfl (lv_at hl 1 rfl) ?_
        refine n_iadd hx hb dX6_init_98 ?_
        refine n_iconst hx hb 1 dX6_init_99 (by decide) ?_
        refine z_iast hE hH hS hA11 (k := 4 + x) (by omega) (by decide) (by omega) dX6_init_100 (fun H locs M179 hH hS e177 o178 => ?_)
        have k180 := (o178 _ (by omega)).trans hO1
        have k181 := fun q hq => (o178 q (by omega)).trans (hF1 q hq)
        have k182 := hA21.kept (o178 _ (by omega))
        have k183 := hA31.kept (o178 _ (by omega))
        have k184 := hA41.kept (o178 _ (by omega))
        have k185 := hA51.kept (o178 _ (by omega))
        have k186 := hA61.kept (o178 _ (by omega))
        have k187 := hA71.kept (o178 _ (by omega))
        have k188 := hA81.kept (o178 _ (by omega))
        have k189 := hA91.kept (o178 _ (by omega))
        refine lv_iinc (v := (nI (x + 1))) (lv' := [(1, .int (nI (x + 1))), (0, .ref d)]) hx hb dX6_init_101 hl (k := 1) rfl (nI_inc _) (by decide) rfl (fun ls hl => ?_)
        refine lv_goto (tgt := 86) hx hb dX6_init_104 (by decide) ?_
        exact ih  (x + 1) (fun i => if i = (4 + x) then (nI 1) else g1 i) M179 (by omega) (by omega) k180 e177 k182 k183 k184 k185 k186 k187 k188 k189 k181 (fun i hi => by show (if i = 4 + x then _ else _) = _; by_cases hix : i = 4 + x; (· subst hix; rw [if_pos rfl, if_pos (by omega)]); (· rw [if_neg hix, hg i hi]; by_cases h2 : 4 ≤ i ∧ i < 4 + x; (· rw [if_pos h2, if_pos (show 4 ≤ i ∧ i < 4 + (x + 1) by omega)]); (· rw [if_neg h2, if_neg (show ¬(4 ≤ i ∧ i < 4 + (x + 1)) by omega)]))) _ _ hH hS _ (lv_sub hl [1, 0] rfl)
  exact L86 11 0 (fun _ => 0) M165 (by omega) (by omega) e163 k167 k168 k169 k170 k171 k172 k173 k174 k175 k166 (fun i hi => by rw [if_neg (by omega)]; rfl) _ _ hH hS _ (lv_sub hl [1, 0] rfl)
