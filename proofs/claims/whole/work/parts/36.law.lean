/-! THE CLAIM OUT OF ONE WALK OF THE LAW'S BODY. Your part is whole_start (and what it stands on); all else here is the same for every law, but numbers. -/
def R_law : String := "VarnishPricesLaw"
def lw_P (b : Addr) (xs : List Int32) (args : Array Value) (s : State) : Prop := args = #[.ref b] ∧ s.IntsAt b xs ∧ xs.length ≤ 3584 ∧ (Jvm.Cond.and given_1 narrow_1).before args s = true
def lw_Q (_ : Array Value) (s : State) (o : Outcome) (t : State) : Prop := o = .returned (some (.int 1)) ∧ Framed s o t [] 600000 7302250
def lw_Z (below : List Frame) (a : Array Value) (s : State) : State → Prop := fun t => ∃ o, t.status = .running ∧ Ended t below o ∧ lw_Q a s o t
/-- the law's own end, with 1 on the stack, nothing written that was there before, its room as the claim has it -/
theorem lw_ret {p : Program} {l : Launch} {e : Env} {s : State} {m : MethodId} {below : List Frame} {meth : Method} {c : Code} {b : Nat} (hx : p.tables.exec = Jvm.exec) (hb : c.code = code) (hr : meth.sig.returnType = ret) (hlocks : meth.locks = false) {pc : Nat} {H : Heap} {ls : Array Slot} (hdg : decode code pc = .ok (.ireturn, 1)) : W p l e room_1 s m #[Value.ref b] below meth c H [] 600000 7302250 (lw_Z below #[Value.ref b] s) (F0 m pc ls [.int 1]) := by
  intro T hT X
  obtain ⟨fs, hret, hrun, hended, hW, hframe⟩ := X.leave (v := some (.int 1)) (hlocks := hlocks) (fun h => by rw [hr] at h; cases h)
  have hmeth' : T.vm.method? m = some meth := X.method'
  refine ⟨T.setFrames fs, ?_, .returned (some (.int 1)), hrun, hended, rfl, ⟨_, rfl⟩, hW, hframe⟩
  jvm_step X.here [X.here.top, hx, hb, hdg, hmeth', hr, ret, narrow_b1]
  (try refine ⟨rfl, ?_⟩); (try refine ⟨rfl, ?_⟩)
  first | (intro acts; rw [hret _ acts rfl rfl rfl]) | rw [hret _ _ rfl rfl rfl]
  exact Steps.refl _
/-- what holds at the law's entry: the machine, the code, the tables' words (any of lw_tbl by 'hts w (by decide +kernel)'), the script of L ints xs at the cell b, what the Statement gives of the start (any of its parts by flat_of_before) -/
def lw_At (p : Program) (s : State) (m : MethodId) (meth : Method) (c : Code) (b L : Nat) (xs : Nat → Int32) : Prop :=
  p.tables.exec = Jvm.exec ∧ c.code = code ∧ meth.sig.returnType = ret ∧ c.maxLocals = 4 ∧ s.vm.findClass R_law = some m.cls ∧ (∀ w ∈ lw_tbl, w.before #[Value.ref b] s = true) ∧ va_X b L xs s s.heap ∧ b < s.heap.size ∧ meth.locks = false ∧ (Jvm.Cond.and given_1 narrow_1).before #[Value.ref b] s = true
set_option maxHeartbeats 4000000 in
set_option maxRecDepth 100000 in
/-- THE LAW'S LOOP: at its head the class and the check tell the same state -/
theorem law_loop {p : Program} {l : Launch} {e : Env} {s : State} {m : MethodId} {below : List Frame} {meth : Method} {c : Code} {G : zG} {b L : Nat} {xs : Nat → Int32} (hE : zE p s m #[Value.ref b] meth c G RL cL_law 4 (some .boolean)) (hX : va_X b L xs s s.heap) (hbl : b < s.heap.size) (hL : L ≤ 3584) :
    ∀ (n i : Nat) (σ : Sg) (M : Mm) (H : Heap) (locs : List Loc) (ls : Array Slot), L + 8 ≤ i + n → i ≤ L + 7 → zH G M H → zS 288 s.heap.size s.heap H locs → Cl G s.heap.size σ M → Mo G (s.heap.size + 278) σ M → sOk σ → lv_has ls 4 [(0, .ref b), (1, .ref s.heap.size), (2, .ref (s.heap.size + 278)), (3, .int (nI i))] → W p l e room_1 s m #[Value.ref b] below meth c H locs 288 16966 (lw_Z below #[Value.ref b] s) (F0 m 18 ls []) := by
  have hx := hE.1
  have hb := hE.2.1
  intro n
  induction n with
  | zero =>
    intro i σ M H locs ls h1 h2
    exact absurd h1 (by omega)
  | succ n ih =>
    intro i σ M H locs ls h1 h2 hH hS hC hD hok hl
    refine lv_iload_n hx hb dL_law_18 rfl (lv_at hl 3 rfl) ?_
    refine lv_aload_n hx hb dL_law_19 rfl (lv_at hl 0 rfl) ?_
    refine va_slen hx hb hX hbl (Nat.not_le.mpr hbl) hS.1 dL_law_20 ?_
    refine n_bipush hx hb 7 dL_law_21 (by decide) ?_
    refine lv_isub hx hb dL_law_23 ?_
    refine lv_icmp_gt (tgt := 874) hx hb dL_law_24 (by decide) (fun h => ?_) (fun h => ?_)
    · refine lv_iconst (v := 1) hx hb dL_law_874 (by decide) ?_
      refine va_forget (fun q hq => hS.1.2.2 q hq) ?_
      refine W.widen (k := 600000) (n := 7302250) (Nat.le_of_ble_eq_true rfl) (Nat.le_of_ble_eq_true rfl) ?_
      exact lw_ret hx hb hE.2.2.2.2.2.1 hE.2.2.2.2.2.2.1 dL_law_875
    · have hi : i + 7 ≤ L := Nat.not_lt.mp (fun q => h ((mini_le hL (by omega)).mpr q))
      have back : ∀ (σ1 : Sg) (M1 : Mm) (H1 : Heap) (locs1 : List Loc), zH G M1 H1 → zS 288 s.heap.size s.heap H1 locs1 → Cl G s.heap.size σ1 M1 → Mo G (s.heap.size + 278) σ1 M1 → sOk σ1 → W p l e room_1 s m #[Value.ref b] below meth c H1 locs1 288 16966 (lw_Z below #[Value.ref b] s) (F0 m 868 ls []) := by
        intro σ1 M1 H1 locs1 hH hS hC hD hok
        refine lv_iinc (v := nI (i + 7)) (lv' := [(3, .int (nI (i + 7))), (0, .ref b), (1, .ref s.heap.size), (2, .ref (s.heap.size + 278))]) hx hb dL_law_868 hl (k := 3) rfl (nI_add _ 7) (by decide) rfl (fun ls hl => ?_)
        refine lv_goto (tgt := 18) hx hb dL_law_871 (by decide) ?_
        exact ih (i + 7) σ1 M1 H1 locs1 ls (by omega) (by omega) hH hS hC hD hok (lv_sub hl [1, 2, 3, 0] rfl)
      refine lv_aload_n hx hb dL_law_27 rfl (lv_at hl 0 rfl) ?_
      refine lv_iload_n hx hb dL_law_28 rfl (lv_at hl 3 rfl) ?_
      refine z_sld hx hb hX hbl hS (by omega) hL dL_law_29 ?_
      refine n_bipush hx hb 31 dL_law_30 (by decide) ?_
      refine lv_iand hx hb dL_law_32 ?_
      rcases wi_cases (xs i &&& nI 31) 0 23 with hw | hw
      · obtain ⟨k, ek, k1, k2⟩ := wi_nat (by decide) (by decide) hw
        refine z_topeq ek ?_
        rcases (show k = 0 ∨ k = 1 ∨ k = 2 ∨ k = 3 ∨ k = 4 ∨ k = 5 ∨ k = 6 ∨ k = 7 ∨ k = 8 ∨ k = 9 ∨ k = 10 ∨ k = 11 ∨ k = 12 ∨ k = 13 ∨ k = 14 ∨ k = 15 ∨ k = 16 ∨ k = 17 ∨ k = 18 ∨ k = 19 ∨ k = 20 ∨ k = 21 ∨ k = 22 ∨ k = 23 by omega) with rfl | rfl | rfl | rfl | rfl | rfl | rfl | rfl | rfl | rfl | rfl | rfl | rfl | rfl | rfl | rfl | rfl | rfl | rfl | rfl | rfl | rfl | rfl | rfl
        · refine lv_tableIn (tgt := 144) hx hb dL_law_33 (by decide +kernel) (by decide +kernel) (off := 111) (by decide +kernel) (by decide) ?_
          exact lc_paste hE hX hbl hL hi hH hS hC hD hok hl back
        · refine lv_tableIn (tgt := 219) hx hb dL_law_33 (by decide +kernel) (by decide +kernel) (off := 186) (by decide +kernel) (by decide) ?_
          exact lc_tear hE hX hbl hL hi hH hS hC hD hok hl back
        · refine lv_tableIn (tgt := 242) hx hb dL_law_33 (by decide +kernel) (by decide +kernel) (off := 209) (by decide +kernel) (by decide) ?_
          exact lc_coat hE hX hbl hL hi hH hS hC hD hok hl back
        · refine lv_tableIn (tgt := 275) hx hb dL_law_33 (by decide +kernel) (by decide +kernel) (off := 242) (by decide +kernel) (by decide) ?_
          exact lc_scrape hE hX hbl hL hi hH hS hC hD hok hl back
        · refine lv_tableIn (tgt := 318) hx hb dL_law_33 (by decide +kernel) (by decide +kernel) (off := 285) (by decide +kernel) (by decide) ?_
          exact lc_sun hE hX hbl hL hi hH hS hC hD hok hl back
        · refine lv_tableIn (tgt := 351) hx hb dL_law_33 (by decide +kernel) (by decide +kernel) (off := 318) (by decide +kernel) (by decide) ?_
          exact lc_buy hE hX hbl hL hi hH hS hC hD hok hl back
        · refine lv_tableIn (tgt := 394) hx hb dL_law_33 (by decide +kernel) (by decide +kernel) (off := 361) (by decide +kernel) (by decide) ?_
          exact lc_buyAll hE hX hbl hL hi hH hS hC hD hok hl back
        · refine lv_tableIn (tgt := 407) hx hb dL_law_33 (by decide +kernel) (by decide +kernel) (off := 374) (by decide +kernel) (by decide) ?_
          exact lc_pass hE hX hbl hL hi hH hS hC hD hok hl back
        · refine lv_tableIn (tgt := 430) hx hb dL_law_33 (by decide +kernel) (by decide +kernel) (off := 397) (by decide +kernel) (by decide) ?_
          exact lc_cell hE hX hbl hL hi hH hS hC hD hok hl back
        · refine lv_tableIn (tgt := 473) hx hb dL_law_33 (by decide +kernel) (by decide +kernel) (off := 440) (by decide +kernel) (by decide) ?_
          exact lc_poster hE hX hbl hL hi hH hS hC hD hok hl back
        · refine lv_tableIn (tgt := 506) hx hb dL_law_33 (by decide +kernel) (by decide +kernel) (off := 473) (by decide +kernel) (by decide) ?_
          exact lc_varnish hE hX hbl hL hi hH hS hC hD hok hl back
        · refine lv_tableIn (tgt := 549) hx hb dL_law_33 (by decide +kernel) (by decide +kernel) (off := 516) (by decide +kernel) (by decide) ?_
          exact lc_count hE hX hbl hL hi hH hS hC hD hok hl back
        · refine lv_tableIn (tgt := 572) hx hb dL_law_33 (by decide +kernel) (by decide +kernel) (off := 539) (by decide +kernel) (by decide) ?_
          exact lc_sunOf hE hX hbl hL hi hH hS hC hD hok hl back
        · refine lv_tableIn (tgt := 595) hx hb dL_law_33 (by decide +kernel) (by decide +kernel) (off := 562) (by decide +kernel) (by decide) ?_
          exact lc_ifPassed hE hX hbl hL hi hH hS hC hD hok hl back
        · refine lv_tableIn (tgt := 628) hx hb dL_law_33 (by decide +kernel) (by decide +kernel) (off := 595) (by decide +kernel) (by decide) ?_
          exact lc_willShow hE hX hbl hL hi hH hS hC hD hok hl back
        · refine lv_tableIn (tgt := 671) hx hb dL_law_33 (by decide +kernel) (by decide +kernel) (off := 638) (by decide +kernel) (by decide) ?_
          exact lc_nextChange hE hX hbl hL hi hH hS hC hD hok hl back
        · refine lv_tableIn (tgt := 684) hx hb dL_law_33 (by decide +kernel) (by decide +kernel) (off := 651) (by decide +kernel) (by decide) ?_
          exact lc_comesToLight hE hX hbl hL hi hH hS hC hD hok hl back
        · refine lv_tableIn (tgt := 707) hx hb dL_law_33 (by decide +kernel) (by decide +kernel) (off := 674) (by decide +kernel) (by decide) ?_
          exact lc_bestTorn hE hX hbl hL hi hH hS hC hD hok hl back
        · refine lv_tableIn (tgt := 730) hx hb dL_law_33 (by decide +kernel) (by decide +kernel) (off := 697) (by decide +kernel) (by decide) ?_
          exact lc_put hE hX hbl hL hi hH hS hC hD hok hl back
        · refine lv_tableIn (tgt := 783) hx hb dL_law_33 (by decide +kernel) (by decide +kernel) (off := 750) (by decide +kernel) (by decide) ?_
          exact lc_wipe hE hX hbl hL hi hH hS hC hD hok hl back
        · refine lv_tableIn (tgt := 796) hx hb dL_law_33 (by decide +kernel) (by decide +kernel) (off := 763) (by decide +kernel) (by decide) ?_
          exact lc_fault hE hX hbl hL hi hH hS hC hD hok hl back
        · refine lv_tableIn (tgt := 809) hx hb dL_law_33 (by decide +kernel) (by decide +kernel) (off := 776) (by decide +kernel) (by decide) ?_
          exact lc_undo hE hX hbl hL hi hH hS hC hD hok hl back
        · refine lv_tableIn (tgt := 822) hx hb dL_law_33 (by decide +kernel) (by decide +kernel) (off := 789) (by decide +kernel) (by decide) ?_
          exact lc_save hE hX hbl hL hi hH hS hC hD hok hl back
        · refine lv_tableIn (tgt := 845) hx hb dL_law_33 (by decide +kernel) (by decide +kernel) (off := 812) (by decide +kernel) (by decide) ?_
          exact lc_restore hE hX hbl hL hi hH hS hC hD hok hl back
      · refine lv_tableOut (tgt := 868) hx hb dL_law_33 (wi_false (by decide) (by decide) hw) (by decide) ?_
        exact back σ M H locs hH hS hC hD hok
set_option maxHeartbeats 4000000 in
set_option maxRecDepth 100000 in
/-- THE LAW, from its entry -/
theorem whole_start {p : Program} {e : Env} {s : State} {m : MethodId} {below : List Frame} {meth : Method} {c : Code} (l : Launch) (hflags : l.flags = flags0) {b L : Nat} {xs : Nat → Int32} (hL : L ≤ 3584) (C0 : lw_At p s m meth c b L xs) : W p l e room_1 s m #[Value.ref b] below meth c s.heap [] 0 0 (lw_Z below #[Value.ref b] s) (entryFrame m ([Value.ref b] : List Value).toArray 4) := by
  obtain ⟨hx, hb, hr, hml, hown, hts, hX, hbl, hlocks, hgv⟩ := id C0
  obtain ⟨G, hK⟩ := zK_start hts
  have hE : zE p s m #[Value.ref b] meth c G RL cL_law 4 (some .boolean) := ⟨hx, hb, hml, hown, fun w h => hts w (tb_tbl h), hr, hlocks, hK⟩
  have hB0 : s.heap.size ≤ s.heap.size := Nat.le_refl _
  have hH : zH G (fun _ => none) s.heap := fun a e h => by cases h
  have hS : zS 0 s.heap.size s.heap s.heap [] := zS.rf
  have hl := lv_entry ([.ref b]) (n := 4) (Nat.le_of_ble_eq_true rfl)
  rw [lg_entry_eq]
  generalize (lg_sl ([.ref b]) ++ List.replicate (4 - (lg_sl ([.ref b])).length) Slot.unset).toArray = ls at hl ⊢
  have hl : lv_has ls 4 [(0, .ref b)] := hl
  refine z_new (a := s.heap.size) (ci := 5) (T := TX5) (fs := [.null, .null, .null, .null, .null, .null]) hE hH hS rfl rfl uw_X5 tyX5 tyX5_ok clL_7 ins_X5 ini_X5 (fun j hj => by rcases (show j = 0 ∨ j = 1 ∨ j = 2 ∨ j = 3 ∨ j = 4 ∨ j = 5 by omega) with rfl | rfl | rfl | rfl | rfl | rfl <;> rfl) (Nat.le_of_ble_eq_true rfl) (Nat.le_of_ble_eq_true rfl) dL_law_0 (fun H M1 hH hS e1 o1 => ?_)
  refine lv_dup hx hb dL_law_3 rfl ?_
  refine z_callIA (rest := [.ref s.heap.size]) hE hH hS hB0 hl ca_X5_init mkL_9 (c_X5_init l G s.heap.size M1 s.heap.size e1 hB0) (by rw [hS.2]) rfl rfl ⟨Nat.le_of_ble_eq_true rfl, Nat.le_of_ble_eq_true rfl⟩ (Nat.le_of_ble_eq_true rfl) ⟨Nat.le_of_ble_eq_true rfl, Nat.le_of_ble_eq_true rfl⟩ dL_law_4 (fun H locs M2 hH hp hS => ?_)
  obtain ⟨hC, o2⟩ := hp
  refine lv_astore_n (lv' := [(1, .ref s.heap.size), (0, .ref b)]) hx hb dL_law_7 rfl hl (by decide) rfl (fun ls hl => ?_)
  refine z_new (a := s.heap.size + 278) (ci := 6) (T := TX6) (fs := [.int (nI 0), .null, .null, .null, .int (nI 0), .null, .null, .null, .int (nI 0), .null, .null, .int (nI 0), .int (nI 0), .null, .int (nI 0)]) hE hH hS (by rw [hS.2]) rfl uw_X6 tyX6 tyX6_ok clL_10 ins_X6 ini_X6 (fun j hj => by rcases (show j = 0 ∨ j = 1 ∨ j = 2 ∨ j = 3 ∨ j = 4 ∨ j = 5 ∨ j = 6 ∨ j = 7 ∨ j = 8 ∨ j = 9 ∨ j = 10 ∨ j = 11 ∨ j = 12 ∨ j = 13 ∨ j = 14 by omega) with rfl | rfl | rfl | rfl | rfl | rfl | rfl | rfl | rfl | rfl | rfl | rfl | rfl | rfl | rfl <;> rfl) (Nat.le_of_ble_eq_true rfl) (Nat.le_of_ble_eq_true rfl) dL_law_8 (fun H M3 hH hS e3 o3 => ?_)
  have hC3 := hC.kept σ0_ok (fun q q1 q2 => o3 q (by omega))
  refine lv_dup hx hb dL_law_11 rfl ?_
  refine z_callIA (rest := [.ref (s.heap.size + 278)]) hE hH hS hB0 hl ca_X6_init mkL_12 (c_X6_init l G s.heap.size M3 (s.heap.size + 278) e3 (by omega)) (by rw [hS.2]) rfl rfl ⟨Nat.le_of_ble_eq_true rfl, Nat.le_of_ble_eq_true rfl⟩ (Nat.le_of_ble_eq_true rfl) ⟨Nat.le_of_ble_eq_true rfl, Nat.le_of_ble_eq_true rfl⟩ dL_law_12 (fun H locs M4 hH hp hS => ?_)
  obtain ⟨hD, o4⟩ := hp
  have hC4 := hC3.kept σ0_ok (fun q q1 q2 => o4 q (by omega))
  refine lv_astore_n (lv' := [(2, .ref (s.heap.size + 278)), (1, .ref s.heap.size), (0, .ref b)]) hx hb dL_law_15 rfl hl (by decide) rfl (fun ls hl => ?_)
  refine n_iconst hx hb 0 dL_law_16 (by decide) ?_
  refine lv_istore_n (lv' := [(3, .int (nI 0)), (2, .ref (s.heap.size + 278)), (1, .ref s.heap.size), (0, .ref b)]) hx hb dL_law_17 rfl hl (by decide) rfl (fun ls hl => ?_)
  refine z_wid rfl rfl ?_
  exact law_loop hE hX hbl hL (L + 8) 0 σ0 M4 H _ ls (by omega) (by omega) hH hS hC4 hD σ0_ok (lv_sub hl [3, 2, 1, 0] rfl)
