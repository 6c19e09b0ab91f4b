theorem pOk_congr {f f' g g' : Nat → Nat} (hf : ∀ k, k < 7 → f k = f' k) (hg : ∀ c, c < 60 → g c = g' c) (h : pOk f' g') : pOk f g := by
  have hl : ∀ a b, liesN f a b = liesN f' a b := fun a b => by
    unfold liesN; rw [hf 0 (by decide), hf 1 (by decide), hf 2 (by decide), hf 3 (by decide)]
  obtain ⟨a1, a2, a3, a4, a5, a6, a7⟩ := h
  refine ⟨by rw [hf 2 (by decide)]; exact a1, by rw [hf 0 (by decide), hf 2 (by decide)]; exact a2, by rw [hf 3 (by decide)]; exact a3, by rw [hf 1 (by decide), hf 3 (by decide)]; exact a4, by rw [hf 4 (by decide)]; exact a5, by rw [hf 4 (by decide)]; exact a6, fun c hc => ?_⟩
  rw [hg c hc, hl]
  exact a7 c hc
theorem paste_D {v : Wv} {x y wd ht p q : Nat} (hv : wD v) (hn : v 0 < 12) (h1 : 1 ≤ wd) (h2 : x + wd ≤ 10) (h3 : 1 ≤ ht) (h4 : y + ht ≤ 6) (h5 : 1 ≤ p) (h6 : p ≤ 999) (h7 : q ≤ 99) : wD (pasteV v x y wd ht p q) := by
  obtain ⟨⟨a1, a2, a3, a4⟩, a5⟩ := hv
  have e1 := pasteV_s v x y wd ht p q (i := 1) (by decide) (by decide)
  refine ⟨⟨?_, by rw [e1]; exact a2, fun u hu => ?_, fun j hj => ?_⟩, by rw [e1]; exact a5⟩
  · show v 0 + 1 ≤ 12
    omega
  · show pasteV v x y wd ht p q (4 + u) ≤ 9
    rw [pasteV_s v x y wd ht p q (by omega) (by omega)]
    exact a3 u hu
  · have hj2 : j < v 0 + 1 := hj
    by_cases hjn : j = v 0
    · subst hjn
      refine pOk_congr (f' := pasteF x y wd ht p) (g' := fun c => if liesN (pasteF x y wd ht p) (c % 10) (c / 10) = true then q else 0) (fun k hk => ?_) (fun c hc => ?_) ⟨h1, h2, h3, h4, h5, h6, fun c hc => ?_⟩
      · rw [pasteV_p v x y wd ht p q (Nat.le_refl _) hn hk, if_pos rfl]
      · rw [pasteV_c v x y wd ht p q (Nat.le_refl _) hn hc, if_pos rfl]
      · show (if liesN (pasteF x y wd ht p) (c % 10) (c / 10) = true then q else 0) ≤ 99 ∧ (0 < (if liesN (pasteF x y wd ht p) (c % 10) (c / 10) = true then q else 0) → liesN (pasteF x y wd ht p) (c % 10) (c / 10) = true)
        by_cases hl : liesN (pasteF x y wd ht p) (c % 10) (c / 10) = true
        · exact ⟨by rw [if_pos hl]; exact h7, fun _ => hl⟩
        · exact ⟨by rw [if_neg hl]; exact Nat.zero_le _, fun w => by rw [if_neg hl] at w; exact absurd w (Nat.lt_irrefl 0)⟩
    · refine pOk_congr (fun k hk => ?_) (fun c hc => ?_) (a4 j (by omega))
      · rw [pasteV_p v x y wd ht p q (by omega) hn hk, if_neg hjn]
      · rw [pasteV_c v x y wd ht p q (by omega) hn hc, if_neg hjn]
theorem tear_D {v : Wv} {p : Nat} (hv : wD v) (hp : p < v 0) : wD (tearV v p) := by
  obtain ⟨⟨a1, a2, a3, a4⟩, a5⟩ := hv
  have e1 := tearV_s v p (i := 1) hp (by decide) (by decide)
  refine ⟨⟨?_, by rw [e1]; exact a2, fun u hu => ?_, fun j hj => ?_⟩, by rw [e1]; exact a5⟩
  · show v 0 - 1 ≤ 12
    omega
  · show tearV v p (4 + u) ≤ 9
    rw [tearV_s v p hp (by omega) (by omega)]
    exact a3 u hu
  · have hj2 : j < v 0 - 1 := hj
    by_cases hpj : p ≤ j
    · refine pOk_congr (fun k hk => ?_) (fun c hc => ?_) (a4 (j + 1) (by omega))
      · rw [tearV_p v hp a1 (by omega) hk, if_pos hpj]
      · rw [tearV_c v hp a1 (by omega) hc, if_pos hpj]
    · refine pOk_congr (fun k hk => ?_) (fun c hc => ?_) (a4 j (by omega))
      · rw [tearV_p v hp a1 (by omega) hk, if_neg hpj]
      · rw [tearV_c v hp a1 (by omega) hc, if_neg hpj]
theorem coatV_u (v : Wv) (j b : Nat) {u : Nat} (hu : u < 14) : ∀ k, coatV v j b k u = v u
  | 0 => rfl
  | k + 1 => by
    rw [coatV_succ]
    split
    · exact (v0_setC _ _ hu).trans (coatV_u v j b hu k)
    · exact coatV_u v j b hu k
theorem coat_D {v : Wv} (hv : wD v) (j b : Nat) : wD (coatV v j b 60) := ⟨coatV_ok hv.1 j b 60 (Nat.le_refl _), by rw [coatV_u v j b (by decide)]; exact hv.2⟩
theorem scr_D {c : Nat} (hc : c < 60) : ∀ (n : Nat) (v : Wv) (t : Nat), wD v → n ≤ v 0 → wD (scrV c n v t)
  | 0, v, t, h, _ => h
  | n + 1, v, t, h, hn => by
    rw [scrV_succ]
    split
    · exact h
    · refine scr_D hc n _ _ ⟨h.1.decC (by omega) hc (Nat.sub_le _ _), ?_⟩ ?_
      · rw [v0_setC v _ (by decide)]; exact h.2
      · rw [v0_setC v _ (by decide)]; omega
theorem sun_D {v : Wv} {x c : Nat} (hv : wD v) (hx : x < 10) (hc : c ≤ 9) : wD (vset v (4 + x) c) := by
  obtain ⟨⟨h1, h2, h3, h4⟩, h5⟩ := hv
  have hz : (vset v (4 + x) c) 0 = v 0 := fset_ne v c (by omega)
  have h1' : (vset v (4 + x) c) 1 = v 1 := fset_ne v c (by omega)
  have hp : ∀ j, pv (vset v (4 + x) c) j = pv v j := fun j => funext fun k => pv_setS v c (by omega)
  have hcc : ∀ j, cv (vset v (4 + x) c) j = cv v j := fun j => funext fun k => cv_setS v c (by omega)
  refine ⟨⟨by rw [hz]; exact h1, by rw [h1']; exact h2, fun u hu => ?_, fun j hj => ?_⟩, by rw [h1']; exact h5⟩
  · show fset v (4 + x) c (4 + u) ≤ 9
    by_cases hux : u = x
    · subst hux; rw [fset_self]; exact hc
    · rw [fset_ne v c (by omega)]; exact h3 u hu
  · rw [hp, hcc]
    exact h4 j (by rw [hz] at hj; exact hj)
theorem sellV_1 (v : Wv) (c pu : Nat) (hn : v 0 ≤ 12) : sellV v c pu 1 = v 1 := by
  unfold sellV
  cases hs : seen v (-6) c with
  | none => rfl
  | some j =>
    show (if pv v j 4 ≤ pu then sellJ v j else v) 1 = v 1
    split
    · show fset (fset (fset (fset v _ _) _ _) 2 _) 3 _ 1 = v 1
      rw [fset_ne _ _ (by decide), fset_ne _ _ (by decide), fset_ne _ _ (by omega), fset_ne _ _ (by omega)]
    · rfl
theorem sell_D {v : Wv} (hv : wD v) (c pu : Nat) : wD (sellV v c pu) := ⟨(sellV_ok hv.1 c pu).1, by rw [sellV_1 v c pu hv.1.1]; exact hv.2⟩
theorem sb_D (g : RS) (ps : Nat → Nat) (len : Nat) {v : Wv} (h : wD v) : ∀ k, wD (sbV g ps len v k)
  | 0 => h
  | k + 1 => by
    rw [sbV_succ]
    split
    · exact sell_D (sb_D g ps len h k) _ _
    · exact sb_D g ps len h k
theorem pass_D {v : Wv} {t : Nat} (hv : wD v) (ht : v 1 + t ≤ 9999) : wD (fadA (vset v 1 (v 1 + t)) t 60) := by
  have h := fadA_keep (hv.1.setDay (x := v 1 + t) (by omega)) t 60 (Nat.le_refl _)
  refine ⟨h.1, ?_⟩
  rw [h.2 1 (by decide), show (vset v 1 (v 1 + t)) 1 = v 1 + t from fset_self v 1 _]
  exact ht
theorem keepH_D {hist : Nat → Wv} {n : Nat} {v : Wv} (hn : n ≤ 6) (hh : ∀ k, k < n → wD (hist k)) (hv : wD v) : ∀ k, k < keepN n → wD (keepH hist n v k) := by
  intro k hk
  unfold keepN at hk
  unfold keepH
  split at hk
  · next h6 =>
    rw [if_pos h6]
    split
    · exact hh _ (by omega)
    · exact hv
  · next h6 =>
    rw [if_neg h6]
    split
    · exact hv
    · exact hh _ (by omega)
theorem ok_chg {σ : Sg} (h : sOk σ) {v : Wv} (hv : wD v) : sOk (chg σ v) := ⟨hv, keepN_le h.2.1, keepH_D h.2.1 h.2.2.1 h.1, h.2.2.2.1, h.2.2.2.2.1, h.2.2.2.2.2⟩
theorem ok_paste {σ : Sg} (h : sOk σ) (x y wd ht p q : Int32) : sOk (fPaste σ x y wd ht p q).2 := by
  unfold fPaste
  cases h1 : isC x y with
  | false => rw [if_pos rfl]; exact h
  | true =>
    rw [if_neg (by decide)]
    obtain ⟨a, b, rfl, rfl, ha, hb⟩ := isC_nat h1
    have ta : tn (nI a) = a := tn_nI (by omega)
    have tb : tn (nI b) = b := tn_nI (by omega)
    rw [ta, tb]
    cases h2 : wi wd (nI 1) (nI (10 - a)) with
    | false => rw [if_pos rfl]; exact h
    | true =>
      rw [if_neg (by decide)]
      cases h3 : wi ht (nI 1) (nI (6 - b)) with
      | false => rw [if_pos rfl]; exact h
      | true =>
        rw [if_neg (by decide)]
        cases h4 : wi p (nI 1) (nI 999) with
        | false => rw [if_pos rfl]; exact h
        | true =>
          rw [if_neg (by decide)]
          cases h5 : wi q (nI 1) (nI 99) with
          | false => rw [if_pos rfl]; exact h
          | true =>
            rw [if_neg (by decide)]
            obtain ⟨c, rfl, c1, c2⟩ := wi_nat (by decide) (by omega) h2
            obtain ⟨d, rfl, d1, d2⟩ := wi_nat (by decide) (by omega) h3
            obtain ⟨p', rfl, p1, p2⟩ := wi_nat (by decide) (by decide) h4
            obtain ⟨q', rfl, q1, q2⟩ := wi_nat (by decide) (by decide) h5
            rw [tn_nI (show c < 2 ^ 31 by omega), tn_nI (show d < 2 ^ 31 by omega), tn_nI (show p' < 2 ^ 31 by omega), tn_nI (show q' < 2 ^ 31 by omega)]
            by_cases h6 : 12 ≤ sV σ 0
            · rw [if_pos h6]; exact h
            · rw [if_neg h6]; exact ok_chg h (paste_D h.1 (by omega) c1 (by omega) d1 (by omega) p1 p2 q2)
theorem ok_tear {σ : Sg} (h : sOk σ) (p : Int32) : sOk (fTear σ p).2 := by
  unfold fTear
  cases h1 : isP (sV σ) p with
  | false => rw [if_pos rfl]; exact h
  | true =>
    rw [if_neg (by decide)]
    obtain ⟨j, rfl, hj⟩ := isP_nat h.hw.1 h1
    have := h.hw.1
    rw [tn_nI (show j < 2 ^ 31 by omega)]
    exact ok_chg h (tear_D h.1 hj)
theorem ok_coat {σ : Sg} (h : sOk σ) (p c : Int32) : sOk (fCoat σ p c).2 := by
  unfold fCoat
  split
  · exact h
  · split
    · exact h
    · exact ok_chg h (coat_D h.1 _ _)
theorem ok_scrape {σ : Sg} (h : sOk σ) (x y c : Int32) : sOk (fScrape σ x y c).2 := by
  unfold fScrape
  cases h1 : isC x y with
  | false => rw [if_pos rfl]; exact h
  | true =>
    rw [if_neg (by decide)]
    obtain ⟨a, b, rfl, rfl, ha, hb⟩ := isC_nat h1
    have ta : tn (nI a) = a := tn_nI (by omega)
    have tb : tn (nI b) = b := tn_nI (by omega)
    rw [ta, tb]
    split
    · exact h
    · split
      · exact h
      · exact ok_chg h (scr_D (by omega) _ _ _ h.1 (Nat.le_refl _))
theorem ok_sun {σ : Sg} (h : sOk σ) (x c : Int32) : sOk (fSun σ x c).2 := by
  unfold fSun
  cases h1 : wi x (nI 0) (nI 9) with
  | false => rw [if_pos rfl]; exact h
  | true =>
    rw [if_neg (by decide)]
    cases h2 : wi c (nI 0) (nI 9) with
    | false => rw [if_pos rfl]; exact h
    | true =>
      rw [if_neg (by decide)]
      obtain ⟨a, rfl, a1, a2⟩ := wi_nat (by decide) (by decide) h1
      obtain ⟨b, rfl, b1, b2⟩ := wi_nat (by decide) (by decide) h2
      rw [tn_nI (show a < 2 ^ 31 by omega), tn_nI (show b < 2 ^ 31 by omega)]
      exact ok_chg h (sun_D h.1 (by omega) b2)
theorem ok_buy {σ : Sg} (h : sOk σ) (x y c : Int32) : sOk (fBuy σ x y c).2 := by
  unfold fBuy
  split
  · exact h
  · split
    · exact h
    · cases hp : prc (sV σ) (-6) (tn y * 10 + tn x) with
      | none => exact h
      | some p =>
        show sOk (if tn c < p then ((-5, σ) : Int32 × Sg) else (nI p, chg σ (sellV (sV σ) (tn y * 10 + tn x) (tn c)))).2
        split
        · exact h
        · exact ok_chg h (sell_D h.1 _ _)
theorem ok_buyAll {σ : Sg} (h : sOk σ) : sOk (fBuyAll σ).2 := by
  unfold fBuyAll
  split
  · exact ⟨sb_D _ _ _ h.1 _, keepN_le h.2.1, keepH_D h.2.1 h.2.2.1 h.1, h.2.2.2.1, Nat.zero_le _, fun i hi => absurd hi (Nat.not_lt_zero i)⟩
  · exact h
theorem ok_pass {σ : Sg} (h : sOk σ) (d : Int32) : sOk (fPass σ d).2 := by
  unfold fPass
  split
  · exact h
  · split
    · exact h
    · exact ok_chg h (pass_D h.1 (by omega))
theorem sg_in : ∀ (n r f : Nat), sgF n r f ≠ 0 → f ≤ sgF n r f ∧ ∀ j, f + j < sgF n r f → 33 ≤ (r / 256 ^ j) % 256 ∧ (r / 256 ^ j) % 256 ≤ 126
  | 0, r, f, _ => ⟨Nat.le_refl _, fun j hj => absurd hj (by show ¬ f + j < f; omega)⟩
  | n + 1, r, f, h => by
    rw [sgF_succ] at h ⊢
    by_cases h0 : r = 0
    · rw [if_pos h0]; exact ⟨Nat.le_refl _, fun j hj => absurd hj (by omega)⟩
    · rw [if_neg h0] at h ⊢
      by_cases hb : r % 256 < 33 ∨ 126 < r % 256
      · rw [if_pos hb] at h; exact absurd rfl h
      · rw [if_neg hb] at h ⊢
        obtain ⟨h1, h2⟩ := sg_in n (r / 256) (f + 1) h
        refine ⟨by omega, fun j hj => ?_⟩
        cases j with
        | zero => rw [Nat.pow_zero, Nat.div_one]; omega
        | succ j =>
          have := h2 j (by omega)
          rw [Nat.div_div_eq_div_mul] at this
          rw [show 256 ^ (j + 1) = 256 * 256 ^ j by rw [Nat.pow_succ, Nat.mul_comm]]
          exact this
theorem ok_put {σ : Sg} (h : sOk σ) (r : Nat) : sOk (fPut σ r).2 := by
  unfold fPut
  split
  · exact h
  · rename_i h0
    split
    · exact h
    · rename_i h1
      obtain ⟨a1, a2⟩ := sg_in 8 r 0 h0
      have hl := h.2.2.2.2.1
      refine ⟨h.1, h.2.1, h.2.2.1, h.2.2.2.1, ?_, fun i hi => ?_⟩
      · show sL σ + sgF 8 r 0 ≤ 60
        omega
      · show 33 ≤ apS (sP σ) (sL σ) r (sgF 8 r 0) i ∧ apS (sP σ) (sL σ) r (sgF 8 r 0) i ≤ 126
        have hi2 : i < sL σ + sgF 8 r 0 := hi
        unfold apS
        by_cases hh : sL σ ≤ i ∧ i < sL σ + sgF 8 r 0
        · rw [if_pos hh]; exact a2 _ (by omega)
        · rw [if_neg hh]; exact h.2.2.2.2.2 i (by omega)
theorem ok_wipe {σ : Sg} (h : sOk σ) : sOk (fWipe σ).2 := ⟨h.1, h.2.1, h.2.2.1, h.2.2.2.1, Nat.zero_le _, fun i hi => absurd hi (Nat.not_lt_zero i)⟩
theorem ok_undo {σ : Sg} (h : sOk σ) : sOk (fUndo σ).2 := by
  unfold fUndo
  split
  · exact h
  · exact ⟨h.2.2.1 _ (by omega), by have := h.2.1; show sN σ - 1 ≤ 6; omega, fun k hk => h.2.2.1 k (by have hk2 : k < sN σ - 1 := hk; omega), h.2.2.2.1, h.2.2.2.2.1, h.2.2.2.2.2⟩
theorem ok_save {σ : Sg} (h : sOk σ) (c : Int32) : sOk (fSave σ c).2 := by
  unfold fSave
  split
  · exact h
  · refine ⟨h.1, h.2.1, h.2.2.1, fun k hk hd => ?_, h.2.2.2.2.1, h.2.2.2.2.2⟩
    show wD (if k = tn c then sV σ else sS σ k)
    have hd2 : (if k = tn c then true else sD σ k) = true := hd
    by_cases hkc : k = tn c
    · rw [if_pos hkc]; exact h.1
    · rw [if_neg hkc] at hd2 ⊢; exact h.2.2.2.1 k hk hd2
theorem ok_restore {σ : Sg} (h : sOk σ) (c : Int32) : sOk (fRestore σ c).2 := by
  unfold fRestore
  cases h1 : wi c (nI 0) (nI 1) with
  | false => rw [if_pos rfl]; exact h
  | true =>
    rw [if_neg (by decide)]
    obtain ⟨a, rfl, a1, a2⟩ := wi_nat (by decide) (by decide) h1
    rw [tn_nI (show a < 2 ^ 31 by omega)]
    cases h2 : sD σ a with
    | false => rw [if_pos rfl]; exact h
    | true => rw [if_neg (by decide)]; exact ok_chg h (h.2.2.2.1 a (by omega) h2)
/-! what is kept -/
theorem Md.kept {G : zG} {d : Nat} {sc : Nat → Int32} {X : Nat → Nat → Int32} {M M1 : Mm} (h : Md G d sc X M) (o : ∀ q, d ≤ q → q < d + 10 → M1 q = M q) : Md G d sc X M1 :=
  ⟨by rw [o d (Nat.le_refl _) (by omega)]; exact h.1, fun j h1 h9 => (h.2 j h1 h9).kept (o _ (by omega) (by omega))⟩
theorem Mo.kept {G : zG} {d : Nat} {σ : Sg} {M M1 : Mm} (h : Mo G d σ M) (o : ∀ q, d ≤ q → q < d + 10 → M1 q = M q) : Mo G d σ M1 := by
  obtain ⟨t, at', w, bm, A, U, L, K, SE, SH, BU, hM, hU, hL, hK⟩ := h
  exact ⟨t, at', w, bm, A, U, L, K, SE, SH, BU, hM.kept o, hU, hL, hK⟩
theorem Cl.kept {G : zG} {b : Nat} {σ : Sg} {M M1 : Mm} (h : Cl G b σ M) (hok : sOk σ) (o : ∀ q, b ≤ q → q < b + 278 → M1 q = M q) : Cl G b σ M1 := by
  obtain ⟨h1, h2, h3, h4, h5, h6, p, xo, yo, uo, h7⟩ := h
  refine ⟨h1.kept (o _ (by omega) (by omega)), h2.kept hok.hw.1 (fun q q1 q2 => o q (by omega) (by omega)), h3.kept (fun q q1 q2 => o q (by omega) (by omega)), h4.kept hok.2.1 hok.hh (fun q q1 q2 => o q (by omega) (by omega)), h5.kept hok.hs (fun q q1 q2 => o q (by omega) (by omega)), h6.kept (o _ (by omega) (by omega)) (o _ (by omega) (by omega)), p, xo, yo, uo, ?_⟩
  unfold RdM at *
  rw [o _ (by omega) (by omega)]; exact h7
/-! the start -/
theorem zK_start {s : State} {args : Array Value} (hts : ∀ w ∈ lw_tbl, w.before args s = true) : ∃ G : zG, zK G s := by
  have ht : ∀ w ∈ Tb, w.before args s = true := fun w h => hts w (tb_tbl h)
  obtain ⟨c0, i0, k0⟩ := u_known (C := RX0) (T := TX0) (N := 4) ht uw_X0 (ht _ ins_X0)
  obtain ⟨c1, i1, k1⟩ := u_known (C := RX1) (T := TX1) (N := 2) ht uw_X1 (ht _ ins_X1)
  obtain ⟨c2, i2, k2⟩ := u_known (C := RX2) (T := TX2) (N := 3) ht uw_X2 (ht _ ins_X2)
  obtain ⟨c3, i3, k3⟩ := u_known (C := RX3) (T := TX3) (N := 8) ht uw_X3 (ht _ ins_X3)
  obtain ⟨c4, i4, k4⟩ := u_known (C := RX4) (T := TX4) (N := 6) ht uw_X4 (ht _ ins_X4)
  obtain ⟨c5, i5, k5⟩ := u_known (C := RX5) (T := TX5) (N := 6) ht uw_X5 (ht _ ins_X5)
  obtain ⟨c6, i6, k6⟩ := u_known (C := RX6) (T := TX6) (N := 15) ht uw_X6 (ht _ ins_X6)
  have pa : ∀ ty : FieldType, (∀ C, ty ≠ .object C) → Cond.arrayClass ty ∈ Tb → (∀ cA, va_RA s cA ty = (s.vm.findClass ("[" ++ ty.toString) = some cA)) → ∃ cA, ArrOfT s cA ty ∧ va_RA s cA ty := by
    intro ty _ hm hra
    obtain ⟨cA, kA, comp, f1, f2, f3⟩ := Cond.arrayClass_spec (ht _ hm)
    exact ⟨cA, fun n z => ⟨fun k h => (by cases h), kA, f2, comp, f3⟩, by rw [hra]; exact f1⟩
  have po : ∀ C : String, (Cond.arrayOver (.object C)).before args s = true → ∃ cA, ArrOfT s cA (.object C) ∧ va_RA s cA (.object C) := by
    intro C h
    obtain ⟨comp, cA, kA, f1, -, f3, f4, f5⟩ := Cond.arrayOver_spec h
    exact ⟨cA, fun n z => ⟨fun k h => (by cases h), kA, f3, comp, f4⟩, kA, comp, f3, f4, f1, f5⟩
  have w60 : (Cond.arrayOver (.object RX3)).before args s = true := hts _ (List.mem_of_getElem? (i := 60) (by decide +kernel))
  have w136 : (Cond.arrayOver (.object RX4)).before args s = true := hts _ (List.mem_of_getElem? (i := 136) (by decide +kernel))
  obtain ⟨d0, g0, r0⟩ := pa .int (fun C h => by cases h) ac_int ra_int
  obtain ⟨d1, g1, r1⟩ := po RX3 w60
  obtain ⟨d2, g2, r2⟩ := po RX4 w136
  obtain ⟨d3, g3, r3⟩ := pa .boolean (fun C h => by cases h) ac_boolean ra_bool
  obtain ⟨d4, g4, r4⟩ := pa .char (fun C h => by cases h) ac_char ra_char
  refine ⟨((fun k => match k with | 0 => c0 | 1 => c1 | 2 => c2 | 3 => c3 | 4 => c4 | 5 => c5 | _ => c6, fun k => match k with | 0 => i0 | 1 => i1 | 2 => i2 | 3 => i3 | 4 => i4 | 5 => i5 | _ => i6), fun k => match k with | 0 => d0 | 1 => d1 | 2 => d2 | 3 => d3 | _ => d4), ⟨?_, ?_⟩, va_AO.of w60, va_AO.of w136, va_Nw.of rfl (hts _ (List.mem_of_getElem? (i := 154) (by decide +kernel))), va_Nw.of rfl (hts _ (List.mem_of_getElem? (i := 331) (by decide +kernel))), va_Nw.of rfl (hts _ (List.mem_of_getElem? (i := 352) (by decide +kernel))), va_Nw.of rfl (hts _ (List.mem_of_getElem? (i := 353) (by decide +kernel)))⟩
  · intro c q hq
    match c, hq with
    | 0, hq => cases hq; exact k0
    | 1, hq => cases hq; exact k1
    | 2, hq => cases hq; exact k2
    | 3, hq => cases hq; exact k3
    | 4, hq => cases hq; exact k4
    | 5, hq => cases hq; exact k5
    | 6, hq => cases hq; exact k6
    | c + 7, hq => simp at hq
  · intro c q hq
    match c, hq with
    | 0, hq => cases hq; exact ⟨g0, r0⟩
    | 1, hq => cases hq; exact ⟨g1, r1⟩
    | 2, hq => cases hq; exact ⟨g2, r2⟩
    | 3, hq => cases hq; exact ⟨g3, r3⟩
    | 4, hq => cases hq; exact ⟨g4, r4⟩
    | c + 5, hq => simp at hq
