-- Stays_atBerth
noncomputable def Stays_atBerth_l3 (x1 x2 x3 : Int32) (s : MS) (x4 : Int32) : Option ((Int32) ⊕ Int32) :=
  if (s.1 5) ≤ x4 then (xit (some (-1 : Int32))) else (chk (inb x4 40) (bnd (s.2 15 x4.toNatClampNeg) fun v1 => if v1 = x1 then (chk (inb x4 40) (bnd (s.2 16 x4.toNatClampNeg) fun v3 => if x3 ≤ v3 then (bnd (x4 + (1 : Int32)) fun v4 => some (.inl v4)) else (chk (inb x4 40) (bnd (s.2 17 x4.toNatClampNeg) fun v5 => if v5 ≤ x2 then (bnd (x4 + (1 : Int32)) fun v6 => some (.inl v6)) else (xit (some x4)))))) else (bnd (x4 + (1 : Int32)) fun v2 => some (.inl v2))))
theorem Stays_atBerth_l3_w {l : Launch} {D : va_G} {cI cZ cJ : ClassId} {ad : Nat → Nat} (x1 x2 x3 x4 : Int32) (s : MS) {Q : Int32 → MS → Prop} {Post : ((Int32) ⊕ Int32) → Prop} (hR : ∀ (r9 : Int32), Post (.inr (r9)) → Q r9 s) (hL3 : ∀ (z4 : Int32) , Post (.inl z4) → G (XX l D cI cZ cJ ad) "SmallHarbour$Stays" b_Stays_atBerth 5 (some .int) 0 3 [(0, .ref (ad 5)), (1, .int x1), (2, .int x2), (3, .int x3), (4, .int z4)] [] s Q) (h : Ok (Stays_atBerth_l3 x1 x2 x3 s x4) Post) : G (XX l D cI cZ cJ ad) "SmallHarbour$Stays" b_Stays_atBerth 5 (some .int) 0 3 [(0, .ref (ad 5)), (1, .int x1), (2, .int x2), (3, .int x3), (4, .int x4)] [] s Q := by
  unfold Stays_atBerth_l3 at h
  refine G_iload d_Stays_atBerth_3 4 rfl ?_
  refine G_aload_n d_Stays_atBerth_5 rfl 0 rfl ?_
  refine gx_Stays_count d_Stays_atBerth_6 w_123 ?_
  refine G_icmp_ge (tgt := 54) d_Stays_atBerth_9 (by decide) (fun c => ?_) (fun c => ?_)
  · replace h := Ok_t c h
    replace h := Ok_xit h
    refine G_iconst d_Stays_atBerth_54 lt_iconst_m1 ?_
    exact G_iret rfl (vp_nar_int _) d_Stays_atBerth_55 (hR _ (Ok_some h))
  replace h := Ok_f c h
  refine G_aload_n d_Stays_atBerth_12 rfl 0 rfl ?_
  refine gx_Stays_berth d_Stays_atBerth_13 w_117 ?_
  refine G_iload d_Stays_atBerth_16 4 rfl ?_
  refine lx_15 d_Stays_atBerth_18 (Ok_ld h).1 (fun v1 e => ?_)
  replace h := (Ok_ld h).2 v1 e
  clear e
  refine G_iload_n d_Stays_atBerth_19 rfl 1 rfl ?_
  refine G_icmp_ne (tgt := 48) d_Stays_atBerth_20 (by decide) (fun c => ?_) (fun c => ?_)
  · replace h := Ok_f c h
    refine G_iinc d_Stays_atBerth_48 4 rfl lt_iconst_1 rfl (Nat.le_of_ble_eq_true rfl) (fun x => [(4, .int x), (0, .ref (ad 5)), (1, .int x1), (2, .int x2), (3, .int x3)]) (fun _ => rfl) (fun v2 e => ?_)
    replace h := Ok_bnd h v2 e
    clear e
    refine G_goto (tgt := 3) d_Stays_atBerth_51 (by decide) ?_
    refine G_lv [1, 2, 3, 4, 0] rfl ?_
    exact hL3 v2 (Ok_some h)
  replace h := Ok_t c h
  refine G_aload_n d_Stays_atBerth_23 rfl 0 rfl ?_
  refine gx_Stays_from d_Stays_atBerth_24 w_119 ?_
  refine G_iload d_Stays_atBerth_27 4 rfl ?_
  refine lx_16 d_Stays_atBerth_29 (Ok_ld h).1 (fun v3 e => ?_)
  replace h := (Ok_ld h).2 v3 e
  clear e
  refine G_iload_n d_Stays_atBerth_30 rfl 3 rfl ?_
  refine G_icmp_ge (tgt := 48) d_Stays_atBerth_31 (by decide) (fun c => ?_) (fun c => ?_)
  · replace h := Ok_t c h
    refine G_iinc d_Stays_atBerth_48 4 rfl lt_iconst_1 rfl (Nat.le_of_ble_eq_true rfl) (fun x => [(4, .int x), (0, .ref (ad 5)), (1, .int x1), (2, .int x2), (3, .int x3)]) (fun _ => rfl) (fun v4 e => ?_)
    replace h := Ok_bnd h v4 e
    clear e
    refine G_goto (tgt := 3) d_Stays_atBerth_51 (by decide) ?_
    refine G_lv [1, 2, 3, 4, 0] rfl ?_
    exact hL3 v4 (Ok_some h)
  replace h := Ok_f c h
  refine G_iload_n d_Stays_atBerth_34 rfl 2 rfl ?_
  refine G_aload_n d_Stays_atBerth_35 rfl 0 rfl ?_
  refine gx_Stays_to d_Stays_atBerth_36 w_121 ?_
  refine G_iload d_Stays_atBerth_39 4 rfl ?_
  refine lx_17 d_Stays_atBerth_41 (Ok_ld h).1 (fun v5 e => ?_)
  replace h := (Ok_ld h).2 v5 e
  clear e
  refine G_icmp_ge (tgt := 48) d_Stays_atBerth_42 (by decide) (fun c => ?_) (fun c => ?_)
  · replace h := Ok_t c h
    refine G_iinc d_Stays_atBerth_48 4 rfl lt_iconst_1 rfl (Nat.le_of_ble_eq_true rfl) (fun x => [(4, .int x), (0, .ref (ad 5)), (1, .int x1), (2, .int x2), (3, .int x3)]) (fun _ => rfl) (fun v6 e => ?_)
    replace h := Ok_bnd h v6 e
    clear e
    refine G_goto (tgt := 3) d_Stays_atBerth_51 (by decide) ?_
    refine G_lv [1, 2, 3, 4, 0] rfl ?_
    exact hL3 v6 (Ok_some h)
  replace h := Ok_f c h
  replace h := Ok_xit h
  refine G_iload d_Stays_atBerth_45 4 rfl ?_
  exact G_iret rfl (vp_nar_int _) d_Stays_atBerth_47 (hR _ (Ok_some h))
noncomputable def f_Stays_atBerth (a1 a2 a3 : Int32) (s : MS) : Option Int32 :=
  loop (fun z => Stays_atBerth_l3 a1 a2 a3 s z) (0 : Int32)
theorem f_Stays_atBerth_w {l : Launch} {D : va_G} {cI cZ cJ : ClassId} {ad : Nat → Nat} (a1 a2 a3 : Int32) (s : MS) {Q : Int32 → MS → Prop} {Post : Int32 → Prop} (hR : ∀ (r9 : Int32), Post (r9) → Q r9 s) (h : Ok (f_Stays_atBerth a1 a2 a3 s) Post) : G (XX l D cI cZ cJ ad) "SmallHarbour$Stays" b_Stays_atBerth 5 (some .int) 0 0 [(0, .ref (ad 5)), (1, .int a1), (2, .int a2), (3, .int a3)] [] s Q := by
  unfold f_Stays_atBerth at h
  refine G_iconst d_Stays_atBerth_0 lt_iconst_0 ?_
  refine G_istore d_Stays_atBerth_1 (Nat.le_of_ble_eq_true rfl) (fun x => [(4, .int x), (0, .ref (ad 5)), (1, .int a1), (2, .int a2), (3, .int a3)]) (fun _ => rfl) (fun x e => ?_)
  subst e
  refine G_lv [1, 2, 3, 4, 0] rfl ?_
  exact G_loop (J := (fun z => G (XX l D cI cZ cJ ad) "SmallHarbour$Stays" b_Stays_atBerth 5 (some .int) 0 3 [(0, .ref (ad 5)), (1, .int a1), (2, .int a2), (3, .int a3), (4, .int z)] [] s Q)) (fun z h => Stays_atBerth_l3_w a1 a2 a3 z s (Post := Sum.elim (fun z => G (XX l D cI cZ cJ ad) "SmallHarbour$Stays" b_Stays_atBerth 5 (some .int) 0 3 [(0, .ref (ad 5)), (1, .int a1), (2, .int a2), (3, .int a3), (4, .int z)] [] s Q) _) hR (fun z4 h => h) h) (0 : Int32) h
theorem c_Stays_atBerth {l : Launch} {D : va_G} {cI cZ cJ : ClassId} {ad : Nat → Nat} (a1 a2 a3 : Int32) (s : MS) {P : Int32 → Prop} (h : Ok (f_Stays_atBerth a1 a2 a3 s) P) : Ct (XX l D cI cZ cJ ad) y_Stays_atBerth b_Stays_atBerth 5 (some .int) 0 [.ref (ad 5), .int a1, .int a2, .int a3] s (fun r9 s9 => s9 = s ∧ P r9) :=
  Ct.of mi_Stays_atBerth (Nat.le_of_ble_eq_true rfl) (f_Stays_atBerth_w a1 a2 a3 s (fun _ h => ⟨rfl, h⟩) h)
-- Tide_on
noncomputable def f_Tide_on (a1 : Int32) (s : MS) : Option Int32 :=
  if a1 < 0 then (some (0 : Int32)) else (if (1 : Int32) ≤ (s.1 1) then (chk (decide (¬ (s.1 1) = 0)) (chk (inb (a1 - a1 / (s.1 1) * (s.1 1)) 30) (bnd (s.2 3 (a1 - a1 / (s.1 1) * (s.1 1)).toNatClampNeg) fun v1 => some v1))) else (some (0 : Int32)))
theorem f_Tide_on_w {l : Launch} {D : va_G} {cI cZ cJ : ClassId} {ad : Nat → Nat} (a1 : Int32) (s : MS) {Q : Int32 → MS → Prop} {Post : Int32 → Prop} (hR : ∀ (r9 : Int32), Post (r9) → Q r9 s) (h : Ok (f_Tide_on a1 s) Post) : G (XX l D cI cZ cJ ad) "SmallHarbour$Tide" b_Tide_on 2 (some .int) 0 0 [(0, .ref (ad 1)), (1, .int a1)] [] s Q := by
  unfold f_Tide_on at h
  refine G_iload_n d_Tide_on_0 rfl 1 rfl ?_
  refine G_if_lt (tgt := 12) d_Tide_on_1 (by decide) (fun c => ?_) (fun c => ?_)
  · replace h := Ok_t c h
    refine G_iconst d_Tide_on_12 lt_iconst_0 ?_
    refine G_goto (tgt := 27) d_Tide_on_13 (by decide) ?_
    exact G_iret rfl (vp_nar_int _) d_Tide_on_27 (hR _ (Ok_some h))
  replace h := Ok_f c h
  refine G_aload_n d_Tide_on_4 rfl 0 rfl ?_
  refine gx_Tide_count d_Tide_on_5 w_32 ?_
  refine G_iconst d_Tide_on_8 lt_iconst_1 ?_
  refine G_icmp_ge (tgt := 16) d_Tide_on_9 (by decide) (fun c => ?_) (fun c => ?_)
  · replace h := Ok_t c h
    refine G_aload_n d_Tide_on_16 rfl 0 rfl ?_
    refine gx_Tide_row d_Tide_on_17 w_31 ?_
    refine G_iload_n d_Tide_on_20 rfl 1 rfl ?_
    refine G_aload_n d_Tide_on_21 rfl 0 rfl ?_
    refine gx_Tide_count d_Tide_on_22 w_32 ?_
    refine G_irem d_Tide_on_25 (of_decide_eq_true (Ok_chk h).1) ?_
    replace h := (Ok_chk h).2
    refine lx_3 d_Tide_on_26 (Ok_ld h).1 (fun v1 e => ?_)
    replace h := (Ok_ld h).2 v1 e
    clear e
    exact G_iret rfl (vp_nar_int _) d_Tide_on_27 (hR _ (Ok_some h))
  replace h := Ok_f c h
  refine G_iconst d_Tide_on_12 lt_iconst_0 ?_
  refine G_goto (tgt := 27) d_Tide_on_13 (by decide) ?_
  exact G_iret rfl (vp_nar_int _) d_Tide_on_27 (hR _ (Ok_some h))
theorem c_Tide_on {l : Launch} {D : va_G} {cI cZ cJ : ClassId} {ad : Nat → Nat} (a1 : Int32) (s : MS) {P : Int32 → Prop} (h : Ok (f_Tide_on a1 s) P) : Ct (XX l D cI cZ cJ ad) y_Tide_on b_Tide_on 2 (some .int) 0 [.ref (ad 1), .int a1] s (fun r9 s9 => s9 = s ∧ P r9) :=
  Ct.of mi_Tide_on (Nat.le_of_ble_eq_true rfl) (f_Tide_on_w a1 s (fun _ h => ⟨rfl, h⟩) h)
-- Tide_lowest
noncomputable def Tide_lowest_l18 (x3 : Int32) (s : MS) (x4 x5 : Int32) : Option ((Int32 × Int32) ⊕ Int32) :=
  if x3 ≤ x5 then (xit (some x4)) else ((f_Tide_on x5 s).bind fun v1 => bnd (if v1 < x4 then v1 else x4) fun v2 => bnd (x5 + (1 : Int32)) fun v3 => some (.inl (v2, v3)))
theorem Tide_lowest_l18_w {l : Launch} {D : va_G} {cI cZ cJ : ClassId} {ad : Nat → Nat} (x3 x4 x5 : Int32) (s : MS) {Q : Int32 → MS → Prop} {Post : ((Int32 × Int32) ⊕ Int32) → Prop} (hR : ∀ (r9 : Int32), Post (.inr (r9)) → Q r9 s) (hL18 : ∀ (z4 z5 : Int32) , Post (.inl (z4, z5)) → G (XX l D cI cZ cJ ad) "SmallHarbour$Tide" b_Tide_lowest 6 (some .int) 1 18 [(0, .ref (ad 1)), (3, .int x3), (4, .int z4), (5, .int z5)] [] s Q) (h : Ok (Tide_lowest_l18 x3 s x4 x5) Post) : G (XX l D cI cZ cJ ad) "SmallHarbour$Tide" b_Tide_lowest 6 (some .int) 1 18 [(0, .ref (ad 1)), (3, .int x3), (4, .int x4), (5, .int x5)] [] s Q := by
  unfold Tide_lowest_l18 at h
  refine G_iload d_Tide_lowest_18 3 rfl ?_
  refine G_iload_n d_Tide_lowest_20 rfl 1 rfl ?_
  refine G_icmp_ge (tgt := 43) d_Tide_lowest_21 (by decide) (fun c => ?_) (fun c => ?_)
  · replace h := Ok_t c h
    replace h := Ok_xit h
    refine G_iload d_Tide_lowest_43 2 rfl ?_
    exact G_iret rfl (vp_nar_int _) d_Tide_lowest_45 (hR _ (Ok_some h))
  replace h := Ok_f c h
  refine G_iload d_Tide_lowest_24 2 rfl ?_
  refine G_aload_n d_Tide_lowest_26 rfl 0 rfl ?_
  refine G_iload d_Tide_lowest_27 3 rfl ?_
  refine G_callVp (st := [.int x4]) (As := [.int x5]) (b := ad 1) d_Tide_lowest_29 mi_Tide_on w_453 1 rfl rfl mv_Tide_on rfl (Nat.le_of_ble_eq_true rfl) (by decide) (c_Tide_on x5 s (Ok_bind h)) (fun v1 h hnv1 => ?_)
  refine G_min d_Tide_lowest_32 w_450 w_451 w_15 w_452 (by decide) (Nat.le_of_ble_eq_true rfl) (G_topi (fun v2 e => ?_))
  replace h := Ok_bnd h v2 e
  clear e
  refine G_istore d_Tide_lowest_35 (Nat.le_of_ble_eq_true rfl) (fun x => [(4, .int x), (0, .ref (ad 1)), (3, .int x3), (5, .int x5)]) (fun _ => rfl) (fun x e => ?_)
  subst e
  refine G_iinc d_Tide_lowest_37 3 rfl lt_iconst_1 rfl (Nat.le_of_ble_eq_true rfl) (fun x => [(5, .int x), (4, .int v2), (0, .ref (ad 1)), (3, .int x3)]) (fun _ => rfl) (fun v3 e => ?_)
  replace h := Ok_bnd h v3 e
  clear e
  refine G_goto (tgt := 18) d_Tide_lowest_40 (by decide) ?_
  refine G_lv [2, 3, 1, 0] rfl ?_
  exact hL18 v2 v3 (Ok_some h)
noncomputable def f_Tide_lowest (a1 a2 : Int32) (s : MS) : Option Int32 :=
  bnd (if (a1 + (s.1 1)) < a2 then (a1 + (s.1 1)) else a2) fun v1 => loop (fun z => Tide_lowest_l18 v1 s z.1 z.2) ((40 : Int32), a1)
theorem f_Tide_lowest_w {l : Launch} {D : va_G} {cI cZ cJ : ClassId} {ad : Nat → Nat} (a1 a2 : Int32) (s : MS) {Q : Int32 → MS → Prop} {Post : Int32 → Prop} (hR : ∀ (r9 : Int32), Post (r9) → Q r9 s) (h : Ok (f_Tide_lowest a1 a2 s) Post) : G (XX l D cI cZ cJ ad) "SmallHarbour$Tide" b_Tide_lowest 6 (some .int) 1 0 [(0, .ref (ad 1)), (1, .int a1), (2, .int a2)] [] s Q := by
  unfold f_Tide_lowest at h
  refine G_iload_n d_Tide_lowest_0 rfl 2 rfl ?_
  refine G_iload_n d_Tide_lowest_1 rfl 1 rfl ?_
  refine G_aload_n d_Tide_lowest_2 rfl 0 rfl ?_
  refine gx_Tide_count d_Tide_lowest_3 w_32 ?_
  refine G_iadd d_Tide_lowest_6 ?_
  refine G_min d_Tide_lowest_7 w_450 w_451 w_15 w_452 (by decide) (Nat.le_of_ble_eq_true rfl) (G_topi (fun v1 e => ?_))
  replace h := Ok_bnd h v1 e
  clear e
  refine G_istore_n d_Tide_lowest_10 rfl (Nat.le_of_ble_eq_true rfl) (fun x => [(3, .int x), (0, .ref (ad 1)), (1, .int a1), (2, .int a2)]) (fun _ => rfl) (fun x e => ?_)
  subst e
  refine G_bipush d_Tide_lowest_11 lt_bipush_40 ?_
  refine G_istore d_Tide_lowest_13 (Nat.le_of_ble_eq_true rfl) (fun x => [(4, .int x), (3, .int v1), (0, .ref (ad 1)), (1, .int a1), (2, .int a2)]) (fun _ => rfl) (fun x e => ?_)
  subst e
  refine G_iload_n d_Tide_lowest_15 rfl 3 rfl ?_
  refine G_istore d_Tide_lowest_16 (Nat.le_of_ble_eq_true rfl) (fun x => [(5, .int x), (4, .int (40 : Int32)), (3, .int v1), (0, .ref (ad 1)), (1, .int a1), (2, .int a2)]) (fun _ => rfl) (fun x e => ?_)
  subst e
  refine G_lv [3, 2, 1, 0] rfl ?_
  exact G_loop (J := (fun z => G (XX l D cI cZ cJ ad) "SmallHarbour$Tide" b_Tide_lowest 6 (some .int) 1 18 [(0, .ref (ad 1)), (3, .int v1), (4, .int (z.1)), (5, .int (z.2))] [] s Q)) (fun z h => Tide_lowest_l18_w v1 z.1 z.2 s (Post := Sum.elim (fun z => G (XX l D cI cZ cJ ad) "SmallHarbour$Tide" b_Tide_lowest 6 (some .int) 1 18 [(0, .ref (ad 1)), (3, .int v1), (4, .int (z.1)), (5, .int (z.2))] [] s Q) _) hR (fun z4 z5 h => h) h) ((40 : Int32), a1) h
theorem c_Tide_lowest {l : Launch} {D : va_G} {cI cZ cJ : ClassId} {ad : Nat → Nat} (a1 a2 : Int32) (s : MS) {P : Int32 → Prop} (h : Ok (f_Tide_lowest a1 a2 s) P) : Ct (XX l D cI cZ cJ ad) y_Tide_lowest b_Tide_lowest 6 (some .int) 1 [.ref (ad 1), .int a1, .int a2] s (fun r9 s9 => s9 = s ∧ P r9) :=
  Ct.of mi_Tide_lowest (Nat.le_of_ble_eq_true rfl) (f_Tide_lowest_w a1 a2 s (fun _ h => ⟨rfl, h⟩) h)
-- Hb_canBeHome
noncomputable def f_Hb_canBeHome (a1 a2 a3 : Int32) (s : MS) : Option Int32 :=
  (f_Berths_has a1 s).bind fun v1 => if v1 = 0 then (some (0 : Int32)) else (chk (inb a1 10) (bnd (s.2 6 a1.toNatClampNeg) fun v2 => if v2 = (-1 : Int32) then ((f_Stays_atBerth a1 (0 : Int32) (400 : Int32) s).bind fun v3 => if v3 = (-1 : Int32) then ((f_Tide_lowest (0 : Int32) (400 : Int32) s).bind fun v4 => (f_Berths_takes a1 a2 a3 v4 s).bind fun v5 => if v5 = 0 then (some (0 : Int32)) else (some (1 : Int32))) else (some (0 : Int32))) else (some (0 : Int32))))
theorem f_Hb_canBeHome_w {l : Launch} {D : va_G} {cI cZ cJ : ClassId} {ad : Nat → Nat} (a1 a2 a3 : Int32) (s : MS) {Q : Int32 → MS → Prop} {Post : Int32 → Prop} (hR : ∀ (r9 : Int32), Post (r9) → Q r9 s) (h : Ok (f_Hb_canBeHome a1 a2 a3 s) Post) : G (XX l D cI cZ cJ ad) "SmallHarbour" b_Hb_canBeHome 4 (some .boolean) 2 0 [(0, .ref (ad 0)), (1, .int a1), (2, .int a2), (3, .int a3)] [] s Q := by
  unfold f_Hb_canBeHome at h
  refine G_aload_n d_Hb_canBeHome_0 rfl 0 rfl ?_
  refine gx_Hb_berths d_Hb_canBeHome_1 w_348 ?_
  refine G_iload_n d_Hb_canBeHome_4 rfl 1 rfl ?_
  refine G_callVp (st := []) (As := [.int a1]) (b := ad 2) d_Hb_canBeHome_5 mi_Berths_has w_438 2 rfl rfl mv_Berths_has rfl (Nat.le_of_ble_eq_true rfl) (by decide) (c_Berths_has a1 s (Ok_bind h)) (fun v1 h hnv1 => ?_)
  refine G_if_eq (tgt := 24) d_Hb_canBeHome_8 (by decide) (fun c => ?_) (fun c => ?_)
  · replace h := Ok_t c h
    refine G_iconst d_Hb_canBeHome_24 lt_iconst_0 ?_
    exact G_iret rfl rfl d_Hb_canBeHome_25 (hR _ (Ok_some h))
  replace h := Ok_f c h
  refine G_aload_n d_Hb_canBeHome_11 rfl 0 rfl ?_
  refine gx_Hb_berths d_Hb_canBeHome_12 w_348 ?_
  refine gx_Berths_holder d_Hb_canBeHome_15 w_48 ?_
  refine G_iload_n d_Hb_canBeHome_18 rfl 1 rfl ?_
  refine lx_6 d_Hb_canBeHome_19 (Ok_ld h).1 (fun v2 e => ?_)
  replace h := (Ok_ld h).2 v2 e
  clear e
  refine G_iconst d_Hb_canBeHome_20 lt_iconst_m1 ?_
  refine G_icmp_eq (tgt := 26) d_Hb_canBeHome_21 (by decide) (fun c => ?_) (fun c => ?_)
  · replace h := Ok_t c h
    refine G_aload_n d_Hb_canBeHome_26 rfl 0 rfl ?_
    refine gx_Hb_stays d_Hb_canBeHome_27 w_351 ?_
    refine G_iload_n d_Hb_canBeHome_30 rfl 1 rfl ?_
    refine G_iconst d_Hb_canBeHome_31 lt_iconst_0 ?_
    refine G_sipush d_Hb_canBeHome_32 lt_sipush_400 ?_
    refine G_callVp (st := []) (As := [.int a1, .int (0 : Int32), .int (400 : Int32)]) (b := ad 5) d_Hb_canBeHome_35 mi_Stays_atBerth w_442 5 rfl rfl mv_Stays_atBerth rfl (Nat.le_of_ble_eq_true rfl) (by decide) (c_Stays_atBerth a1 (0 : Int32) (400 : Int32) s (Ok_bind h)) (fun v3 h hnv3 => ?_)
    refine G_iconst d_Hb_canBeHome_38 lt_iconst_m1 ?_
    refine G_icmp_ne (tgt := 70) d_Hb_canBeHome_39 (by decide) (fun c => ?_) (fun c => ?_)
    · replace h := Ok_f c h
      refine G_iconst d_Hb_canBeHome_70 lt_iconst_0 ?_
      exact G_iret rfl rfl d_Hb_canBeHome_71 (hR _ (Ok_some h))
    replace h := Ok_t c h
    refine G_aload_n d_Hb_canBeHome_42 rfl 0 rfl ?_
    refine gx_Hb_berths d_Hb_canBeHome_43 w_348 ?_
    refine G_iload_n d_Hb_canBeHome_46 rfl 1 rfl ?_
    refine G_iload_n d_Hb_canBeHome_47 rfl 2 rfl ?_
    refine G_iload_n d_Hb_canBeHome_48 rfl 3 rfl ?_
    refine G_aload_n d_Hb_canBeHome_49 rfl 0 rfl ?_
    refine gx_Hb_tide d_Hb_canBeHome_50 w_347 ?_
    refine G_iconst d_Hb_canBeHome_53 lt_iconst_0 ?_
    refine G_sipush d_Hb_canBeHome_54 lt_sipush_400 ?_
    refine G_callVp (st := [.int a3, .int a2, .int a1, .ref (ad 2)]) (As := [.int (0 : Int32), .int (400 : Int32)]) (b := ad 1) d_Hb_canBeHome_57 mi_Tide_lowest w_446 1 rfl rfl mv_Tide_lowest rfl (Nat.le_of_ble_eq_true rfl) (by decide) (c_Tide_lowest (0 : Int32) (400 : Int32) s (Ok_bind h)) (fun v4 h hnv4 => ?_)
    refine G_callVp (st := []) (As := [.int a1, .int a2, .int a3, .int v4]) (b := ad 2) d_Hb_canBeHome_60 mi_Berths_takes w_457 2 rfl rfl mv_Berths_takes rfl (Nat.le_of_ble_eq_true rfl) (by decide) (c_Berths_takes a1 a2 a3 v4 s (Ok_bind h)) (fun v5 h hnv5 => ?_)
    refine G_if_eq (tgt := 70) d_Hb_canBeHome_63 (by decide) (fun c => ?_) (fun c => ?_)
    · replace h := Ok_t c h
      refine G_iconst d_Hb_canBeHome_70 lt_iconst_0 ?_
      exact G_iret rfl rfl d_Hb_canBeHome_71 (hR _ (Ok_some h))
    replace h := Ok_f c h
    refine G_iconst d_Hb_canBeHome_66 lt_iconst_1 ?_
    refine G_goto (tgt := 71) d_Hb_canBeHome_67 (by decide) ?_
    exact G_iret rfl rfl d_Hb_canBeHome_71 (hR _ (Ok_some h))
  replace h := Ok_f c h
  refine G_iconst d_Hb_canBeHome_24 lt_iconst_0 ?_
  exact G_iret rfl rfl d_Hb_canBeHome_25 (hR _ (Ok_some h))
theorem c_Hb_canBeHome {l : Launch} {D : va_G} {cI cZ cJ : ClassId} {ad : Nat → Nat} (a1 a2 a3 : Int32) (s : MS) {P : Int32 → Prop} (h : Ok (f_Hb_canBeHome a1 a2 a3 s) P) : Ct (XX l D cI cZ cJ ad) y_Hb_canBeHome b_Hb_canBeHome 4 (some .boolean) 2 [.ref (ad 0), .int a1, .int a2, .int a3] s (fun r9 s9 => s9 = s ∧ P r9) :=
  Ct.of mi_Hb_canBeHome (Nat.le_of_ble_eq_true rfl) (f_Hb_canBeHome_w a1 a2 a3 s (fun _ h => ⟨rfl, h⟩) h)
-- Hb_boat
noncomputable def f_Hb_boat (a1 a2 a3 a4 : Int32) (s : MS) : Option (Int32 × MS) :=
  (f_Hb_isWithin a1 (10 : Int32) (400 : Int32)).bind fun v1 => if v1 = 0 then (some ((-1 : Int32), s)) else ((f_Hb_isWithin a2 (0 : Int32) (60 : Int32)).bind fun v2 => if v2 = 0 then (some ((-1 : Int32), s)) else ((f_Hb_isWithin a3 (1 : Int32) (500 : Int32)).bind fun v3 => if v3 = 0 then (some ((-1 : Int32), s)) else (if (s.1 3) < (30 : Int32) then (if a4 = (-1 : Int32) then (bd2 (f_Boats_add a1 a2 a3 (-1 : Int32) s) fun v8 s9 => some (v8, s9)) else ((f_Hb_canBeHome a4 a1 a2 s).bind fun v4 => if v4 = 0 then (some ((-1 : Int32), s)) else (bd2 (f_Boats_add a1 a2 a3 a4 s) fun v5 s6 => chk (inb a4 10) (bnd (pa s6 6 a4.toNatClampNeg v5) fun s7 => some (v5, s7))))) else (some ((-1 : Int32), s)))))
theorem f_Hb_boat_w {l : Launch} {D : va_G} {cI cZ cJ : ClassId} {ad : Nat → Nat} (a1 a2 a3 a4 : Int32) (s : MS) {Q : Int32 → MS → Prop} {Post : (Int32 × MS) → Prop} (hR : ∀ (r9 : Int32) (s9 : MS), Post ((r9, s9)) → Q r9 s9) (h : Ok (f_Hb_boat a1 a2 a3 a4 s) Post) : G (XX l D cI cZ cJ ad) "SmallHarbour" b_Hb_boat 6 (some .int) 3 0 [(0, .ref (ad 0)), (1, .int a1), (2, .int a2), (3, .int a3), (4, .int a4)] [] s Q := by
  unfold f_Hb_boat at h
  refine G_iload_n d_Hb_boat_0 rfl 1 rfl ?_
  refine G_bipush d_Hb_boat_1 lt_bipush_10 ?_
  refine G_sipush d_Hb_boat_3 lt_sipush_400 ?_
  refine G_callSp (st := []) (As := [.int a1, .int (10 : Int32), .int (400 : Int32)]) d_Hb_boat_6 mi_Hb_isWithin w_429 w_423 rfl (Nat.le_of_ble_eq_true rfl) (by decide) (c_Hb_isWithin a1 (10 : Int32) (400 : Int32) s (Ok_bind h)) (fun v1 h hnv1 => ?_)
  refine G_if_eq (tgt := 22) d_Hb_boat_9 (by decide) (fun c => ?_) (fun c => ?_)
  · replace h := Ok_t c h
    refine G_iconst d_Hb_boat_22 lt_iconst_m1 ?_
    exact G_iret rfl (vp_nar_int _) d_Hb_boat_23 (hR _ _ (Ok_some h))
  replace h := Ok_f c h
  refine G_iload_n d_Hb_boat_12 rfl 2 rfl ?_
  refine G_iconst d_Hb_boat_13 lt_iconst_0 ?_
  refine G_bipush d_Hb_boat_14 lt_bipush_60 ?_
  refine G_callSp (st := []) (As := [.int a2, .int (0 : Int32), .int (60 : Int32)]) d_Hb_boat_16 mi_Hb_isWithin w_429 w_423 rfl (Nat.le_of_ble_eq_true rfl) (by decide) (c_Hb_isWithin a2 (0 : Int32) (60 : Int32) s (Ok_bind h)) (fun v2 h hnv2 => ?_)
  refine G_if_ne (tgt := 24) d_Hb_boat_19 (by decide) (fun c => ?_) (fun c => ?_)
  · replace h := Ok_f c h
    refine G_iload_n d_Hb_boat_24 rfl 3 rfl ?_
    refine G_iconst d_Hb_boat_25 lt_iconst_1 ?_
    refine G_sipush d_Hb_boat_26 lt_sipush_500 ?_
    refine G_callSp (st := []) (As := [.int a3, .int (1 : Int32), .int (500 : Int32)]) d_Hb_boat_29 mi_Hb_isWithin w_429 w_423 rfl (Nat.le_of_ble_eq_true rfl) (by decide) (c_Hb_isWithin a3 (1 : Int32) (500 : Int32) s (Ok_bind h)) (fun v3 h hnv3 => ?_)
    refine G_if_eq (tgt := 47) d_Hb_boat_32 (by decide) (fun c => ?_) (fun c => ?_)
    · replace h := Ok_t c h
      refine G_iconst d_Hb_boat_47 lt_iconst_m1 ?_
      exact G_iret rfl (vp_nar_int _) d_Hb_boat_48 (hR _ _ (Ok_some h))
    replace h := Ok_f c h
    refine G_aload_n d_Hb_boat_35 rfl 0 rfl ?_
    refine gx_Hb_boats d_Hb_boat_36 w_349 ?_
    refine gx_Boats_count d_Hb_boat_39 w_75 ?_
    refine G_bipush d_Hb_boat_42 lt_bipush_30 ?_
    refine G_icmp_lt (tgt := 49) d_Hb_boat_44 (by decide) (fun c => ?_) (fun c => ?_)
    · replace h := Ok_t c h
      refine G_iload d_Hb_boat_49 4 rfl ?_
      refine G_iconst d_Hb_boat_51 lt_iconst_m1 ?_
      refine G_icmp_ne (tgt := 67) d_Hb_boat_52 (by decide) (fun c => ?_) (fun c => ?_)
      · replace h := Ok_f c h
        refine G_aload_n d_Hb_boat_67 rfl 0 rfl ?_
        refine G_iload d_Hb_boat_68 4 rfl ?_
        refine G_iload_n d_Hb_boat_70 rfl 1 rfl ?_
        refine G_iload_n d_Hb_boat_71 rfl 2 rfl ?_
        refine G_callVp (st := []) (As := [.int a4, .int a1, .int a2]) (b := ad 0) d_Hb_boat_72 mi_Hb_canBeHome w_434 0 rfl rfl mv_Hb_canBeHome rfl (Nat.le_of_ble_eq_true rfl) (by decide) (c_Hb_canBeHome a4 a1 a2 s (Ok_bind h)) (fun v4 h hnv4 => ?_)
        refine G_if_ne (tgt := 80) d_Hb_boat_75 (by decide) (fun c => ?_) (fun c => ?_)
        · replace h := Ok_f c h
          refine G_aload_n d_Hb_boat_80 rfl 0 rfl ?_
          refine gx_Hb_boats d_Hb_boat_81 w_349 ?_
          refine G_iload_n d_Hb_boat_84 rfl 1 rfl ?_
          refine G_iload_n d_Hb_boat_85 rfl 2 rfl ?_
          refine G_iload_n d_Hb_boat_86 rfl 3 rfl ?_
          refine G_iload d_Hb_boat_87 4 rfl ?_
          refine G_callVi (st := []) (As := [.int a1, .int a2, .int a3, .int a4]) (b := ad 3) d_Hb_boat_89 mi_Boats_add w_430 3 rfl rfl mv_Boats_add rfl (Nat.le_of_ble_eq_true rfl) (by decide) (c_Boats_add a1 a2 a3 a4 s (Ok_bd2 h)) (fun v5 s6 h hnv5 => ?_)
          refine G_istore d_Hb_boat_92 (Nat.le_of_ble_eq_true rfl) (fun x => [(5, .int x), (0, .ref (ad 0)), (1, .int a1), (2, .int a2), (3, .int a3), (4, .int a4)]) (fun _ => rfl) (fun x e => ?_)
          subst e
          refine G_aload_n d_Hb_boat_94 rfl 1 rfl ?_
          refine gx_Hb_berths d_Hb_boat_95 w_348 ?_
          refine gx_Berths_holder d_Hb_boat_98 w_48 ?_
          refine G_iload d_Hb_boat_101 5 rfl ?_
          refine G_iload d_Hb_boat_103 0 rfl ?_
          refine sx_6 d_Hb_boat_105 (Ok_ld h).1 (fun s7 e => ?_)
          replace h := (Ok_ld h).2 s7 e
          clear e
          refine G_iload d_Hb_boat_106 0 rfl ?_
          exact G_iret rfl (vp_nar_int _) d_Hb_boat_108 (hR _ _ (Ok_some h))
        replace h := Ok_t c h
        refine G_iconst d_Hb_boat_78 lt_iconst_m1 ?_
        exact G_iret rfl (vp_nar_int _) d_Hb_boat_79 (hR _ _ (Ok_some h))
      replace h := Ok_t c h
      refine G_aload_n d_Hb_boat_55 rfl 0 rfl ?_
      refine gx_Hb_boats d_Hb_boat_56 w_349 ?_
      refine G_iload_n d_Hb_boat_59 rfl 1 rfl ?_
      refine G_iload_n d_Hb_boat_60 rfl 2 rfl ?_
      refine G_iload_n d_Hb_boat_61 rfl 3 rfl ?_
      refine G_iconst d_Hb_boat_62 lt_iconst_m1 ?_
      refine G_callVi (st := []) (As := [.int a1, .int a2, .int a3, .int (-1 : Int32)]) (b := ad 3) d_Hb_boat_63 mi_Boats_add w_430 3 rfl rfl mv_Boats_add rfl (Nat.le_of_ble_eq_true rfl) (by decide) (c_Boats_add a1 a2 a3 (-1 : Int32) s (Ok_bd2 h)) (fun v8 s9 h hnv8 => ?_)
      exact G_iret rfl (vp_nar_int _) d_Hb_boat_66 (hR _ _ (Ok_some h))
    replace h := Ok_f c h
    refine G_iconst d_Hb_boat_47 lt_iconst_m1 ?_
    exact G_iret rfl (vp_nar_int _) d_Hb_boat_48 (hR _ _ (Ok_some h))
  replace h := Ok_t c h
  refine G_iconst d_Hb_boat_22 lt_iconst_m1 ?_
  exact G_iret rfl (vp_nar_int _) d_Hb_boat_23 (hR _ _ (Ok_some h))
theorem c_Hb_boat {l : Launch} {D : va_G} {cI cZ cJ : ClassId} {ad : Nat → Nat} (a1 a2 a3 a4 : Int32) (s : MS) {P : Int32 → MS → Prop} (h : Ok2 (f_Hb_boat a1 a2 a3 a4 s) P) : Ct (XX l D cI cZ cJ ad) y_Hb_boat b_Hb_boat 6 (some .int) 3 [.ref (ad 0), .int a1, .int a2, .int a3, .int a4] s (P) :=
  Ct.of mi_Hb_boat (Nat.le_of_ble_eq_true rfl) (f_Hb_boat_w a1 a2 a3 a4 s (Post := fun q => P q.1 q.2) (fun _ _ h => h) (Ok2_ok h))
-- Hb_boatOf
noncomputable def f_Hb_boatOf (a1 a2 : Int32) (s : MS) : Option Int32 :=
  (f_Boats_has a1 s).bind fun v1 => if v1 = 0 then (some (-1 : Int32)) else (bnd a2 fun v2 => if v2 = (0 : Int32) then (chk (inb a1 30) (bnd (s.2 7 a1.toNatClampNeg) fun v3 => some v3)) else (if v2 = (1 : Int32) then (chk (inb a1 30) (bnd (s.2 8 a1.toNatClampNeg) fun v4 => some v4)) else (if v2 = (2 : Int32) then (chk (inb a1 30) (bnd (s.2 9 a1.toNatClampNeg) fun v5 => some v5)) else (if v2 = (3 : Int32) then (chk (inb a1 30) (bnd (s.2 10 a1.toNatClampNeg) fun v6 => some v6)) else (if (100 : Int32) ≤ a2 then ((f_Hb_berthOf a1 (a2 - (100 : Int32)) s).bind fun v7 => some v7) else (some (-1 : Int32)))))))
theorem f_Hb_boatOf_w {l : Launch} {D : va_G} {cI cZ cJ : ClassId} {ad : Nat → Nat} (a1 a2 : Int32) (s : MS) {Q : Int32 → MS → Prop} {Post : Int32 → Prop} (hR : ∀ (r9 : Int32), Post (r9) → Q r9 s) (h : Ok (f_Hb_boatOf a1 a2 s) Post) : G (XX l D cI cZ cJ ad) "SmallHarbour" b_Hb_boatOf 3 (some .int) 2 0 [(0, .ref (ad 0)), (1, .int a1), (2, .int a2)] [] s Q := by
  unfold f_Hb_boatOf at h
  refine G_aload_n d_Hb_boatOf_0 rfl 0 rfl ?_
  refine gx_Hb_boats d_Hb_boatOf_1 w_349 ?_
  refine G_iload_n d_Hb_boatOf_4 rfl 1 rfl ?_
  refine G_callVp (st := []) (As := [.int a1]) (b := ad 3) d_Hb_boatOf_5 mi_Boats_has w_465 3 rfl rfl mv_Boats_has rfl (Nat.le_of_ble_eq_true rfl) (by decide) (c_Boats_has a1 s (Ok_bind h)) (fun v1 h hnv1 => ?_)
  refine G_if_ne (tgt := 13) d_Hb_boatOf_8 (by decide) (fun c => ?_) (fun c => ?_)
  · replace h := Ok_f c h
    refine G_iload_n d_Hb_boatOf_13 rfl 2 rfl ?_
    refine G_topi (fun v2 e => ?_)
    replace h := Ok_bnd h v2 e
    clear e
    by_cases c0 : v2 = (0 : Int32)
    · replace h := Ok_t c0 h
      refine G_tableIn (tgt := 44) d_Hb_boatOf_14 (by rw [c0]; decide) (by rw [c0]; decide) (by rw [c0]; rfl) (by decide) ?_
      refine G_aload_n d_Hb_boatOf_44 rfl 0 rfl ?_
      refine gx_Hb_boats d_Hb_boatOf_45 w_349 ?_
      refine gx_Boats_length d_Hb_boatOf_48 w_67 ?_
      refine G_iload_n d_Hb_boatOf_51 rfl 1 rfl ?_
      refine lx_7 d_Hb_boatOf_52 (Ok_ld h).1 (fun v3 e => ?_)
      replace h := (Ok_ld h).2 v3 e
      clear e
      exact G_iret rfl (vp_nar_int _) d_Hb_boatOf_53 (hR _ (Ok_some h))
    replace h := Ok_f c0 h
    have n0 := ne_ti (z := 0) (by decide) c0
    by_cases c1 : v2 = (1 : Int32)
    · replace h := Ok_t c1 h
      refine G_tableIn (tgt := 54) d_Hb_boatOf_14 (by rw [c1]; decide) (by rw [c1]; decide) (by rw [c1]; rfl) (by decide) ?_
      refine G_aload_n d_Hb_boatOf_54 rfl 0 rfl ?_
      refine gx_Hb_boats d_Hb_boatOf_55 w_349 ?_
      refine gx_Boats_draught d_Hb_boatOf_58 w_69 ?_
      refine G_iload_n d_Hb_boatOf_61 rfl 1 rfl ?_
      refine lx_8 d_Hb_boatOf_62 (Ok_ld h).1 (fun v4 e => ?_)
      replace h := (Ok_ld h).2 v4 e
      clear e
      exact G_iret rfl (vp_nar_int _) d_Hb_boatOf_63 (hR _ (Ok_some h))
    replace h := Ok_f c1 h
    have n1 := ne_ti (z := 1) (by decide) c1
    by_cases c2 : v2 = (2 : Int32)
    · replace h := Ok_t c2 h
      refine G_tableIn (tgt := 64) d_Hb_boatOf_14 (by rw [c2]; decide) (by rw [c2]; decide) (by rw [c2]; rfl) (by decide) ?_
      refine G_aload_n d_Hb_boatOf_64 rfl 0 rfl ?_
      refine gx_Hb_boats d_Hb_boatOf_65 w_349 ?_
      refine gx_Boats_weight d_Hb_boatOf_68 w_71 ?_
      refine G_iload_n d_Hb_boatOf_71 rfl 1 rfl ?_
      refine lx_9 d_Hb_boatOf_72 (Ok_ld h).1 (fun v5 e => ?_)
      replace h := (Ok_ld h).2 v5 e
      clear e
      exact G_iret rfl (vp_nar_int _) d_Hb_boatOf_73 (hR _ (Ok_some h))
    replace h := Ok_f c2 h
    have n2 := ne_ti (z := 2) (by decide) c2
    by_cases c3 : v2 = (3 : Int32)
    · replace h := Ok_t c3 h
      refine G_tableIn (tgt := 74) d_Hb_boatOf_14 (by rw [c3]; decide) (by rw [c3]; decide) (by rw [c3]; rfl) (by decide) ?_
      refine G_aload_n d_Hb_boatOf_74 rfl 0 rfl ?_
      refine gx_Hb_boats d_Hb_boatOf_75 w_349 ?_
      refine gx_Boats_home d_Hb_boatOf_78 w_73 ?_
      refine G_iload_n d_Hb_boatOf_81 rfl 1 rfl ?_
      refine lx_10 d_Hb_boatOf_82 (Ok_ld h).1 (fun v6 e => ?_)
      replace h := (Ok_ld h).2 v6 e
      clear e
      exact G_iret rfl (vp_nar_int _) d_Hb_boatOf_83 (hR _ (Ok_some h))
    replace h := Ok_f c3 h
    have n3 := ne_ti (z := 3) (by decide) c3
    refine G_tableOut (tgt := 84) d_Hb_boatOf_14 (by omega) (by decide) ?_
    refine G_iload_n d_Hb_boatOf_84 rfl 2 rfl ?_
    refine G_bipush d_Hb_boatOf_85 lt_bipush_100 ?_
    refine G_icmp_ge (tgt := 94) d_Hb_boatOf_87 (by decide) (fun c => ?_) (fun c => ?_)
    · replace h := Ok_t c h
      refine G_aload_n d_Hb_boatOf_94 rfl 0 rfl ?_
      refine G_iload_n d_Hb_boatOf_95 rfl 1 rfl ?_
      refine G_iload_n d_Hb_boatOf_96 rfl 2 rfl ?_
      refine G_bipush d_Hb_boatOf_97 lt_bipush_100 ?_
      refine G_isub d_Hb_boatOf_99 ?_
      refine G_callVp (st := []) (As := [.int a1, .int (a2 - (100 : Int32))]) (b := ad 0) d_Hb_boatOf_100 mi_Hb_berthOf w_469 0 rfl rfl mv_Hb_berthOf rfl (Nat.le_of_ble_eq_true rfl) (by decide) (c_Hb_berthOf a1 (a2 - (100 : Int32)) s (Ok_bind h)) (fun v7 h hnv7 => ?_)
      exact G_iret rfl (vp_nar_int _) d_Hb_boatOf_103 (hR _ (Ok_some h))
    replace h := Ok_f c h
    refine G_iconst d_Hb_boatOf_90 lt_iconst_m1 ?_
    refine G_goto (tgt := 103) d_Hb_boatOf_91 (by decide) ?_
    exact G_iret rfl (vp_nar_int _) d_Hb_boatOf_103 (hR _ (Ok_some h))
  replace h := Ok_t c h
  refine G_iconst d_Hb_boatOf_11 lt_iconst_m1 ?_
  exact G_iret rfl (vp_nar_int _) d_Hb_boatOf_12 (hR _ (Ok_some h))
theorem c_Hb_boatOf {l : Launch} {D : va_G} {cI cZ cJ : ClassId} {ad : Nat → Nat} (a1 a2 : Int32) (s : MS) {P : Int32 → Prop} (h : Ok (f_Hb_boatOf a1 a2 s) P) : Ct (XX l D cI cZ cJ ad) y_Hb_boatOf b_Hb_boatOf 3 (some .int) 2 [.ref (ad 0), .int a1, .int a2] s (fun r9 s9 => s9 = s ∧ P r9) :=
  Ct.of mi_Hb_boatOf (Nat.le_of_ble_eq_true rfl) (f_Hb_boatOf_w a1 a2 s (fun _ h => ⟨rfl, h⟩) h)
-- Hb_broken
noncomputable def f_Hb_broken (a1 a2 : Int32) (s : MS) : Option (Int32 × MS) :=
  (f_Hb_isDay a1).bind fun v1 => if v1 = 0 then (some ((0 : Int32), s)) else (chk (inb a1 400) (bnd (pa s 27 a1.toNatClampNeg (vp_nar .boolean a2)) fun s2 => some ((1 : Int32), s2)))
theorem f_Hb_broken_w {l : Launch} {D : va_G} {cI cZ cJ : ClassId} {ad : Nat → Nat} (a1 a2 : Int32) (s : MS) {Q : Int32 → MS → Prop} {Post : (Int32 × MS) → Prop} (hR : ∀ (r9 : Int32) (s9 : MS), Post ((r9, s9)) → Q r9 s9) (h : Ok (f_Hb_broken a1 a2 s) Post) : G (XX l D cI cZ cJ ad) "SmallHarbour" b_Hb_broken 3 (some .boolean) 1 0 [(0, .ref (ad 0)), (1, .int a1), (2, .int a2)] [] s Q := by
  unfold f_Hb_broken at h
  refine G_iload_n d_Hb_broken_0 rfl 1 rfl ?_
  refine G_callSp (st := []) (As := [.int a1]) d_Hb_broken_1 mi_Hb_isDay w_473 w_474 rfl (Nat.le_of_ble_eq_true rfl) (by decide) (c_Hb_isDay a1 s (Ok_bind h)) (fun v1 h hnv1 => ?_)
  refine G_if_ne (tgt := 9) d_Hb_broken_4 (by decide) (fun c => ?_) (fun c => ?_)
  · replace h := Ok_f c h
    refine G_aload_n d_Hb_broken_9 rfl 0 rfl ?_
    refine gx_Hb_crane d_Hb_broken_10 w_353 ?_
    refine gx_Hoist_isBroken d_Hb_broken_13 w_192 ?_
    refine G_iload_n d_Hb_broken_16 rfl 1 rfl ?_
    refine G_iload_n d_Hb_broken_17 rfl 2 rfl ?_
    refine sx_27 d_Hb_broken_18 (Ok_ld h).1 (fun s2 e => ?_)
    replace h := (Ok_ld h).2 s2 e
    clear e
    refine G_iconst d_Hb_broken_19 lt_iconst_1 ?_
    exact G_iret rfl rfl d_Hb_broken_20 (hR _ _ (Ok_some h))
  replace h := Ok_t c h
  refine G_iconst d_Hb_broken_7 lt_iconst_0 ?_
  exact G_iret rfl rfl d_Hb_broken_8 (hR _ _ (Ok_some h))
theorem c_Hb_broken {l : Launch} {D : va_G} {cI cZ cJ : ClassId} {ad : Nat → Nat} (a1 a2 : Int32) (s : MS) {P : Int32 → MS → Prop} (h : Ok2 (f_Hb_broken a1 a2 s) P) : Ct (XX l D cI cZ cJ ad) y_Hb_broken b_Hb_broken 3 (some .boolean) 1 [.ref (ad 0), .int a1, .int a2] s (P) :=
  Ct.of mi_Hb_broken (Nat.le_of_ble_eq_true rfl) (f_Hb_broken_w a1 a2 s (Post := fun q => P q.1 q.2) (fun _ _ h => h) (Ok2_ok h))
-- Hb_fitsAllNights
noncomputable def f_Hb_fitsAllNights (a1 a2 a3 a4 : Int32) (s : MS) : Option Int32 :=
  chk (inb a1 30) (bnd (s.2 7 a1.toNatClampNeg) fun v1 => chk (inb a1 30) (bnd (s.2 8 a1.toNatClampNeg) fun v2 => (f_Tide_lowest a3 a4 s).bind fun v3 => (f_Berths_takes a2 v1 v2 v3 s).bind fun v4 => some v4))
theorem f_Hb_fitsAllNights_w {l : Launch} {D : va_G} {cI cZ cJ : ClassId} {ad : Nat → Nat} (a1 a2 a3 a4 : Int32) (s : MS) {Q : Int32 → MS → Prop} {Post : Int32 → Prop} (hR : ∀ (r9 : Int32), Post (r9) → Q r9 s) (h : Ok (f_Hb_fitsAllNights a1 a2 a3 a4 s) Post) : G (XX l D cI cZ cJ ad) "SmallHarbour" b_Hb_fitsAllNights 5 (some .boolean) 2 0 [(0, .ref (ad 0)), (1, .int a1), (2, .int a2), (3, .int a3), (4, .int a4)] [] s Q := by
  unfold f_Hb_fitsAllNights at h
  refine G_aload_n d_Hb_fitsAllNights_0 rfl 0 rfl ?_
  refine gx_Hb_berths d_Hb_fitsAllNights_1 w_348 ?_
  refine G_iload_n d_Hb_fitsAllNights_4 rfl 2 rfl ?_
  refine G_aload_n d_Hb_fitsAllNights_5 rfl 0 rfl ?_
  refine gx_Hb_boats d_Hb_fitsAllNights_6 w_349 ?_
  refine gx_Boats_length d_Hb_fitsAllNights_9 w_67 ?_
  refine G_iload_n d_Hb_fitsAllNights_12 rfl 1 rfl ?_
  refine lx_7 d_Hb_fitsAllNights_13 (Ok_ld h).1 (fun v1 e => ?_)
  replace h := (Ok_ld h).2 v1 e
  clear e
  refine G_aload_n d_Hb_fitsAllNights_14 rfl 0 rfl ?_
  refine gx_Hb_boats d_Hb_fitsAllNights_15 w_349 ?_
  refine gx_Boats_draught d_Hb_fitsAllNights_18 w_69 ?_
  refine G_iload_n d_Hb_fitsAllNights_21 rfl 1 rfl ?_
  refine lx_8 d_Hb_fitsAllNights_22 (Ok_ld h).1 (fun v2 e => ?_)
  replace h := (Ok_ld h).2 v2 e
  clear e
  refine G_aload_n d_Hb_fitsAllNights_23 rfl 0 rfl ?_
  refine gx_Hb_tide d_Hb_fitsAllNights_24 w_347 ?_
  refine G_iload_n d_Hb_fitsAllNights_27 rfl 3 rfl ?_
  refine G_iload d_Hb_fitsAllNights_28 4 rfl ?_
  refine G_callVp (st := [.int v2, .int v1, .int a2, .ref (ad 2)]) (As := [.int a3, .int a4]) (b := ad 1) d_Hb_fitsAllNights_30 mi_Tide_lowest w_446 1 rfl rfl mv_Tide_lowest rfl (Nat.le_of_ble_eq_true rfl) (by decide) (c_Tide_lowest a3 a4 s (Ok_bind h)) (fun v3 h hnv3 => ?_)
  refine G_callVp (st := []) (As := [.int a2, .int v1, .int v2, .int v3]) (b := ad 2) d_Hb_fitsAllNights_33 mi_Berths_takes w_457 2 rfl rfl mv_Berths_takes rfl (Nat.le_of_ble_eq_true rfl) (by decide) (c_Berths_takes a2 v1 v2 v3 s (Ok_bind h)) (fun v4 h hnv4 => ?_)
  exact G_iret rfl hnv4 d_Hb_fitsAllNights_36 (hR _ (Ok_some h))
theorem c_Hb_fitsAllNights {l : Launch} {D : va_G} {cI cZ cJ : ClassId} {ad : Nat → Nat} (a1 a2 a3 a4 : Int32) (s : MS) {P : Int32 → Prop} (h : Ok (f_Hb_fitsAllNights a1 a2 a3 a4 s) P) : Ct (XX l D cI cZ cJ ad) y_Hb_fitsAllNights b_Hb_fitsAllNights 5 (some .boolean) 2 [.ref (ad 0), .int a1, .int a2, .int a3, .int a4] s (fun r9 s9 => s9 = s ∧ P r9) :=
  Ct.of mi_Hb_fitsAllNights (Nat.le_of_ble_eq_true rfl) (f_Hb_fitsAllNights_w a1 a2 a3 a4 s (fun _ h => ⟨rfl, h⟩) h)
-- Hb_isOwnerThere
noncomputable def f_Hb_isOwnerThere (a1 a2 a3 : Int32) (s : MS) : Option Int32 :=
  chk (inb a1 10) (bnd (s.2 6 a1.toNatClampNeg) fun v1 => if v1 = (-1 : Int32) then (some (0 : Int32)) else ((f_Spans_nightsAway v1 a2 a3 s).bind fun v2 => if (a3 - a2) ≤ v2 then (some (0 : Int32)) else (some (1 : Int32))))
theorem f_Hb_isOwnerThere_w {l : Launch} {D : va_G} {cI cZ cJ : ClassId} {ad : Nat → Nat} (a1 a2 a3 : Int32) (s : MS) {Q : Int32 → MS → Prop} {Post : Int32 → Prop} (hR : ∀ (r9 : Int32), Post (r9) → Q r9 s) (h : Ok (f_Hb_isOwnerThere a1 a2 a3 s) Post) : G (XX l D cI cZ cJ ad) "SmallHarbour" b_Hb_isOwnerThere 5 (some .boolean) 2 0 [(0, .ref (ad 0)), (1, .int a1), (2, .int a2), (3, .int a3)] [] s Q := by
  unfold f_Hb_isOwnerThere at h
  refine G_aload_n d_Hb_isOwnerThere_0 rfl 0 rfl ?_
  refine gx_Hb_berths d_Hb_isOwnerThere_1 w_348 ?_
  refine gx_Berths_holder d_Hb_isOwnerThere_4 w_48 ?_
  refine G_iload_n d_Hb_isOwnerThere_7 rfl 1 rfl ?_
  refine lx_6 d_Hb_isOwnerThere_8 (Ok_ld h).1 (fun v1 e => ?_)
  replace h := (Ok_ld h).2 v1 e
  clear e
  refine G_istore d_Hb_isOwnerThere_9 (Nat.le_of_ble_eq_true rfl) (fun x => [(4, .int x), (0, .ref (ad 0)), (1, .int a1), (2, .int a2), (3, .int a3)]) (fun _ => rfl) (fun x e => ?_)
  subst e
  refine G_iload d_Hb_isOwnerThere_11 0 rfl ?_
  refine G_iconst d_Hb_isOwnerThere_13 lt_iconst_m1 ?_
  refine G_icmp_eq (tgt := 38) d_Hb_isOwnerThere_14 (by decide) (fun c => ?_) (fun c => ?_)
  · replace h := Ok_t c h
    refine G_iconst d_Hb_isOwnerThere_38 lt_iconst_0 ?_
    exact G_iret rfl rfl d_Hb_isOwnerThere_39 (hR _ (Ok_some h))
  replace h := Ok_f c h
  refine G_aload_n d_Hb_isOwnerThere_17 rfl 1 rfl ?_
  refine gx_Hb_spans d_Hb_isOwnerThere_18 w_350 ?_
  refine G_iload d_Hb_isOwnerThere_21 0 rfl ?_
  refine G_iload_n d_Hb_isOwnerThere_23 rfl 3 rfl ?_
  refine G_iload_n d_Hb_isOwnerThere_24 rfl 4 rfl ?_
  refine G_callVp (st := []) (As := [.int v1, .int a2, .int a3]) (b := ad 4) d_Hb_isOwnerThere_25 mi_Spans_nightsAway w_500 4 rfl rfl mv_Spans_nightsAway rfl (Nat.le_of_ble_eq_true rfl) (by decide) (c_Spans_nightsAway v1 a2 a3 s (Ok_bind h)) (fun v2 h hnv2 => ?_)
  refine G_iload_n d_Hb_isOwnerThere_28 rfl 4 rfl ?_
  refine G_iload_n d_Hb_isOwnerThere_29 rfl 3 rfl ?_
  refine G_isub d_Hb_isOwnerThere_30 ?_
  refine G_icmp_ge (tgt := 38) d_Hb_isOwnerThere_31 (by decide) (fun c => ?_) (fun c => ?_)
  · replace h := Ok_t c h
    refine G_iconst d_Hb_isOwnerThere_38 lt_iconst_0 ?_
    exact G_iret rfl rfl d_Hb_isOwnerThere_39 (hR _ (Ok_some h))
  replace h := Ok_f c h
  refine G_iconst d_Hb_isOwnerThere_34 lt_iconst_1 ?_
  refine G_goto (tgt := 39) d_Hb_isOwnerThere_35 (by decide) ?_
  exact G_iret rfl rfl d_Hb_isOwnerThere_39 (hR _ (Ok_some h))
theorem c_Hb_isOwnerThere {l : Launch} {D : va_G} {cI cZ cJ : ClassId} {ad : Nat → Nat} (a1 a2 a3 : Int32) (s : MS) {P : Int32 → Prop} (h : Ok (f_Hb_isOwnerThere a1 a2 a3 s) P) : Ct (XX l D cI cZ cJ ad) y_Hb_isOwnerThere b_Hb_isOwnerThere 5 (some .boolean) 2 [.ref (ad 0), .int a1, .int a2, .int a3] s (fun r9 s9 => s9 = s ∧ P r9) :=
  Ct.of mi_Hb_isOwnerThere (Nat.le_of_ble_eq_true rfl) (f_Hb_isOwnerThere_w a1 a2 a3 s (fun _ h => ⟨rfl, h⟩) h)
-- Hb_canLie
noncomputable def f_Hb_canLie (a1 a2 a3 a4 : Int32) (s : MS) : Option Int32 :=
  (f_Hb_fitsAllNights a1 a2 a3 a4 s).bind fun v1 => if v1 = 0 then (some (0 : Int32)) else ((f_Hb_isOwnerThere a2 a3 a4 s).bind fun v2 => if v2 = 0 then (some (1 : Int32)) else (some (0 : Int32)))
theorem f_Hb_canLie_w {l : Launch} {D : va_G} {cI cZ cJ : ClassId} {ad : Nat → Nat} (a1 a2 a3 a4 : Int32) (s : MS) {Q : Int32 → MS → Prop} {Post : Int32 → Prop} (hR : ∀ (r9 : Int32), Post (r9) → Q r9 s) (h : Ok (f_Hb_canLie a1 a2 a3 a4 s) Post) : G (XX l D cI cZ cJ ad) "SmallHarbour" b_Hb_canLie 5 (some .boolean) 3 0 [(0, .ref (ad 0)), (1, .int a1), (2, .int a2), (3, .int a3), (4, .int a4)] [] s Q := by
  unfold f_Hb_canLie at h
  refine G_aload_n d_Hb_canLie_0 rfl 0 rfl ?_
  refine G_iload_n d_Hb_canLie_1 rfl 1 rfl ?_
  refine G_iload_n d_Hb_canLie_2 rfl 2 rfl ?_
  refine G_iload_n d_Hb_canLie_3 rfl 3 rfl ?_
  refine G_iload d_Hb_canLie_4 4 rfl ?_
  refine G_callVp (st := []) (As := [.int a1, .int a2, .int a3, .int a4]) (b := ad 0) d_Hb_canLie_6 mi_Hb_fitsAllNights w_488 0 rfl rfl mv_Hb_fitsAllNights rfl (Nat.le_of_ble_eq_true rfl) (by decide) (c_Hb_fitsAllNights a1 a2 a3 a4 s (Ok_bind h)) (fun v1 h hnv1 => ?_)
  refine G_if_eq (tgt := 27) d_Hb_canLie_9 (by decide) (fun c => ?_) (fun c => ?_)
  · replace h := Ok_t c h
    refine G_iconst d_Hb_canLie_27 lt_iconst_0 ?_
    exact G_iret rfl rfl d_Hb_canLie_28 (hR _ (Ok_some h))
  replace h := Ok_f c h
  refine G_aload_n d_Hb_canLie_12 rfl 0 rfl ?_
  refine G_iload_n d_Hb_canLie_13 rfl 2 rfl ?_
  refine G_iload_n d_Hb_canLie_14 rfl 3 rfl ?_
  refine G_iload d_Hb_canLie_15 4 rfl ?_
  refine G_callVp (st := []) (As := [.int a2, .int a3, .int a4]) (b := ad 0) d_Hb_canLie_17 mi_Hb_isOwnerThere w_496 0 rfl rfl mv_Hb_isOwnerThere rfl (Nat.le_of_ble_eq_true rfl) (by decide) (c_Hb_isOwnerThere a2 a3 a4 s (Ok_bind h)) (fun v2 h hnv2 => ?_)
  refine G_if_ne (tgt := 27) d_Hb_canLie_20 (by decide) (fun c => ?_) (fun c => ?_)
  · replace h := Ok_f c h
    refine G_iconst d_Hb_canLie_27 lt_iconst_0 ?_
    exact G_iret rfl rfl d_Hb_canLie_28 (hR _ (Ok_some h))
  replace h := Ok_t c h
  refine G_iconst d_Hb_canLie_23 lt_iconst_1 ?_
  refine G_goto (tgt := 28) d_Hb_canLie_24 (by decide) ?_
  exact G_iret rfl rfl d_Hb_canLie_28 (hR _ (Ok_some h))
theorem c_Hb_canLie {l : Launch} {D : va_G} {cI cZ cJ : ClassId} {ad : Nat → Nat} (a1 a2 a3 a4 : Int32) (s : MS) {P : Int32 → Prop} (h : Ok (f_Hb_canLie a1 a2 a3 a4 s) P) : Ct (XX l D cI cZ cJ ad) y_Hb_canLie b_Hb_canLie 5 (some .boolean) 3 [.ref (ad 0), .int a1, .int a2, .int a3, .int a4] s (fun r9 s9 => s9 = s ∧ P r9) :=
  Ct.of mi_Hb_canLie (Nat.le_of_ble_eq_true rfl) (f_Hb_canLie_w a1 a2 a3 a4 s (fun _ h => ⟨rfl, h⟩) h)
-- Stays_add
noncomputable def f_Stays_add (a1 a2 a3 a4 : Int32) (s : MS) : Option (Int32 × MS) :=
  if (s.1 5) < (40 : Int32) then (chk (inb (s.1 5) 40) (bnd (pa s 14 (s.1 5).toNatClampNeg a1) fun s1 => chk (inb (s1.1 5) 40) (bnd (pa s1 15 (s1.1 5).toNatClampNeg a2) fun s2 => chk (inb (s2.1 5) 40) (bnd (pa s2 16 (s2.1 5).toNatClampNeg a3) fun s3 => chk (inb (s3.1 5) 40) (bnd (pa s3 17 (s3.1 5).toNatClampNeg a4) fun s4 => bnd (pf s4 5 ((s4.1 5) + (1 : Int32))) fun s5 => some ((s4.1 5), s5)))))) else (some ((-1 : Int32), s))
theorem f_Stays_add_w {l : Launch} {D : va_G} {cI cZ cJ : ClassId} {ad : Nat → Nat} (a1 a2 a3 a4 : Int32) (s : MS) {Q : Int32 → MS → Prop} {Post : (Int32 × MS) → Prop} (hR : ∀ (r9 : Int32) (s9 : MS), Post ((r9, s9)) → Q r9 s9) (h : Ok (f_Stays_add a1 a2 a3 a4 s) Post) : G (XX l D cI cZ cJ ad) "SmallHarbour$Stays" b_Stays_add 5 (some .int) 0 0 [(0, .ref (ad 5)), (1, .int a1), (2, .int a2), (3, .int a3), (4, .int a4)] [] s Q := by
  unfold f_Stays_add at h
  refine G_aload_n d_Stays_add_0 rfl 0 rfl ?_
  refine gx_Stays_count d_Stays_add_1 w_123 ?_
  refine G_bipush d_Stays_add_4 lt_bipush_40 ?_
  refine G_icmp_lt (tgt := 11) d_Stays_add_6 (by decide) (fun c => ?_) (fun c => ?_)
  · replace h := Ok_t c h
    refine G_aload_n d_Stays_add_11 rfl 0 rfl ?_
    refine gx_Stays_boat d_Stays_add_12 w_115 ?_
    refine G_aload_n d_Stays_add_15 rfl 0 rfl ?_
    refine gx_Stays_count d_Stays_add_16 w_123 ?_
    refine G_iload_n d_Stays_add_19 rfl 1 rfl ?_
    refine sx_14 d_Stays_add_20 (Ok_ld h).1 (fun s1 e => ?_)
    replace h := (Ok_ld h).2 s1 e
    clear e
    refine G_aload_n d_Stays_add_21 rfl 0 rfl ?_
    refine gx_Stays_berth d_Stays_add_22 w_117 ?_
    refine G_aload_n d_Stays_add_25 rfl 0 rfl ?_
    refine gx_Stays_count d_Stays_add_26 w_123 ?_
    refine G_iload_n d_Stays_add_29 rfl 2 rfl ?_
    refine sx_15 d_Stays_add_30 (Ok_ld h).1 (fun s2 e => ?_)
    replace h := (Ok_ld h).2 s2 e
    clear e
    refine G_aload_n d_Stays_add_31 rfl 0 rfl ?_
    refine gx_Stays_from d_Stays_add_32 w_119 ?_
    refine G_aload_n d_Stays_add_35 rfl 0 rfl ?_
    refine gx_Stays_count d_Stays_add_36 w_123 ?_
    refine G_iload_n d_Stays_add_39 rfl 3 rfl ?_
    refine sx_16 d_Stays_add_40 (Ok_ld h).1 (fun s3 e => ?_)
    replace h := (Ok_ld h).2 s3 e
    clear e
    refine G_aload_n d_Stays_add_41 rfl 0 rfl ?_
    refine gx_Stays_to d_Stays_add_42 w_121 ?_
    refine G_aload_n d_Stays_add_45 rfl 0 rfl ?_
    refine gx_Stays_count d_Stays_add_46 w_123 ?_
    refine G_iload d_Stays_add_49 4 rfl ?_
    refine sx_17 d_Stays_add_51 (Ok_ld h).1 (fun s4 e => ?_)
    replace h := (Ok_ld h).2 s4 e
    clear e
    refine G_aload_n d_Stays_add_52 rfl 0 rfl ?_
    refine G_dup d_Stays_add_53 rfl ?_
    refine gx_Stays_count d_Stays_add_54 w_123 ?_
    refine G_dup_x1 d_Stays_add_57 rfl rfl ?_
    refine G_iconst d_Stays_add_58 lt_iconst_1 ?_
    refine G_iadd d_Stays_add_59 ?_
    refine px_Stays_count d_Stays_add_60 w_123 (fun s5 e => ?_)
    replace h := Ok_bnd h s5 e
    clear e
    exact G_iret rfl (vp_nar_int _) d_Stays_add_63 (hR _ _ (Ok_some h))
  replace h := Ok_f c h
  refine G_iconst d_Stays_add_9 lt_iconst_m1 ?_
  exact G_iret rfl (vp_nar_int _) d_Stays_add_10 (hR _ _ (Ok_some h))
theorem c_Stays_add {l : Launch} {D : va_G} {cI cZ cJ : ClassId} {ad : Nat → Nat} (a1 a2 a3 a4 : Int32) (s : MS) {P : Int32 → MS → Prop} (h : Ok2 (f_Stays_add a1 a2 a3 a4 s) P) : Ct (XX l D cI cZ cJ ad) y_Stays_add b_Stays_add 5 (some .int) 0 [.ref (ad 5), .int a1, .int a2, .int a3, .int a4] s (P) :=
  Ct.of mi_Stays_add (Nat.le_of_ble_eq_true rfl) (f_Stays_add_w a1 a2 a3 a4 s (Post := fun q => P q.1 q.2) (fun _ _ h => h) (Ok2_ok h))
-- Walk_isMoved
noncomputable def f_Walk_isMoved (a1 : Int32) (s : MS) : Option Int32 :=
  chk (inb a1 12) (bnd (s.2 19 a1.toNatClampNeg) fun v1 => chk (inb a1 12) (bnd (s.2 20 a1.toNatClampNeg) fun v2 => if v1 = v2 then (some (0 : Int32)) else (some (1 : Int32))))
theorem f_Walk_isMoved_w {l : Launch} {D : va_G} {cI cZ cJ : ClassId} {ad : Nat → Nat} (a1 : Int32) (s : MS) {Q : Int32 → MS → Prop} {Post : Int32 → Prop} (hR : ∀ (r9 : Int32), Post (r9) → Q r9 s) (h : Ok (f_Walk_isMoved a1 s) Post) : G (XX l D cI cZ cJ ad) "SmallHarbour$Walk" b_Walk_isMoved 2 (some .boolean) 0 0 [(0, .ref (ad 6)), (1, .int a1)] [] s Q := by
  unfold f_Walk_isMoved at h
  refine G_aload_n d_Walk_isMoved_0 rfl 0 rfl ?_
  refine gx_Walk_best d_Walk_isMoved_1 w_144 ?_
  refine G_iload_n d_Walk_isMoved_4 rfl 1 rfl ?_
  refine lx_19 d_Walk_isMoved_5 (Ok_ld h).1 (fun v1 e => ?_)
  replace h := (Ok_ld h).2 v1 e
  clear e
  refine G_aload_n d_Walk_isMoved_6 rfl 0 rfl ?_
  refine gx_Walk_own d_Walk_isMoved_7 w_148 ?_
  refine G_iload_n d_Walk_isMoved_10 rfl 1 rfl ?_
  refine lx_20 d_Walk_isMoved_11 (Ok_ld h).1 (fun v2 e => ?_)
  replace h := (Ok_ld h).2 v2 e
  clear e
  refine G_icmp_eq (tgt := 19) d_Walk_isMoved_12 (by decide) (fun c => ?_) (fun c => ?_)
  · replace h := Ok_t c h
    refine G_iconst d_Walk_isMoved_19 lt_iconst_0 ?_
    exact G_iret rfl rfl d_Walk_isMoved_20 (hR _ (Ok_some h))
  replace h := Ok_f c h
  refine G_iconst d_Walk_isMoved_15 lt_iconst_1 ?_
  refine G_goto (tgt := 20) d_Walk_isMoved_16 (by decide) ?_
  exact G_iret rfl rfl d_Walk_isMoved_20 (hR _ (Ok_some h))
theorem c_Walk_isMoved {l : Launch} {D : va_G} {cI cZ cJ : ClassId} {ad : Nat → Nat} (a1 : Int32) (s : MS) {P : Int32 → Prop} (h : Ok (f_Walk_isMoved a1 s) P) : Ct (XX l D cI cZ cJ ad) y_Walk_isMoved b_Walk_isMoved 2 (some .boolean) 0 [.ref (ad 6), .int a1] s (fun r9 s9 => s9 = s ∧ P r9) :=
  Ct.of mi_Walk_isMoved (Nat.le_of_ble_eq_true rfl) (f_Walk_isMoved_w a1 s (fun _ h => ⟨rfl, h⟩) h)
-- Hb_carryOut
noncomputable def Hb_carryOut_j126 (x1 x2 x3 x4 : Int32) (s : MS) : Option ((Int32 × MS) ⊕ MS) :=
  chk (inb (s.1 0) 12) (bnd (pa s 0 (s.1 0).toNatClampNeg x3) fun s1 => chk (inb x2 12) (bnd (s1.2 19 x2.toNatClampNeg) fun v2 => chk (inb (s1.1 0) 12) (bnd (pa s1 1 (s1.1 0).toNatClampNeg v2) fun s3 => chk (inb (s3.1 0) 12) (bnd (pa s3 2 (s3.1 0).toNatClampNeg x4) fun s4 => bnd (pf s4 0 ((s4.1 0) + (1 : Int32))) fun s5 => bnd (x2 + (1 : Int32)) fun v6 => some (.inl (v6, s5))))))
theorem Hb_carryOut_j126_w {l : Launch} {D : va_G} {cI cZ cJ : ClassId} {ad : Nat → Nat} (x1 x2 x3 x4 : Int32) (s : MS) {Q : Int32 → MS → Prop} {Post : ((Int32 × MS) ⊕ MS) → Prop} (hR : ∀ (s9 : MS), Post (.inr (s9)) → Q 0 s9) (hL7 : ∀ (z2 : Int32) (s9 : MS), Post (.inl (z2, s9)) → G (XX l D cI cZ cJ ad) "SmallHarbour" b_Hb_carryOut 5 none 1 7 [(0, .ref (ad 0)), (1, .int x1), (2, .int z2)] [] s9 Q) (h : Ok (Hb_carryOut_j126 x1 x2 x3 x4 s) Post) : G (XX l D cI cZ cJ ad) "SmallHarbour" b_Hb_carryOut 5 none 1 126 [(0, .ref (ad 0)), (1, .int x1), (2, .int x2), (3, .int x3), (4, .int x4)] [] s Q := by
  unfold Hb_carryOut_j126 at h
  refine G_aload_n d_Hb_carryOut_126 rfl 0 rfl ?_
  refine gx_Hb_kept d_Hb_carryOut_127 w_358 ?_
  refine G_iconst d_Hb_carryOut_130 lt_iconst_0 ?_
  refine G_aald d_Hb_carryOut_131 12 2 rfl rfl (by decide) (b := ad 13) rfl ?_
  refine G_aload_n d_Hb_carryOut_132 rfl 0 rfl ?_
  refine gx_Hb_keptCount d_Hb_carryOut_133 w_359 ?_
  refine G_iload_n d_Hb_carryOut_136 rfl 3 rfl ?_
  refine sx_0 d_Hb_carryOut_137 (Ok_ld h).1 (fun s1 e => ?_)
  replace h := (Ok_ld h).2 s1 e
  clear e
  refine G_aload_n d_Hb_carryOut_138 rfl 0 rfl ?_
  refine gx_Hb_kept d_Hb_carryOut_139 w_358 ?_
  refine G_iconst d_Hb_carryOut_142 lt_iconst_1 ?_
  refine G_aald d_Hb_carryOut_143 12 2 rfl rfl (by decide) (b := ad 14) rfl ?_
  refine G_aload_n d_Hb_carryOut_144 rfl 0 rfl ?_
  refine gx_Hb_keptCount d_Hb_carryOut_145 w_359 ?_
  refine G_aload_n d_Hb_carryOut_148 rfl 0 rfl ?_
  refine gx_Hb_walk d_Hb_carryOut_149 w_352 ?_
  refine gx_Walk_best d_Hb_carryOut_152 w_145 ?_
  refine G_iload_n d_Hb_carryOut_155 rfl 2 rfl ?_
  refine lx_19 d_Hb_carryOut_156 (Ok_ld h).1 (fun v2 e => ?_)
  replace h := (Ok_ld h).2 v2 e
  clear e
  refine sx_1 d_Hb_carryOut_157 (Ok_ld h).1 (fun s3 e => ?_)
  replace h := (Ok_ld h).2 s3 e
  clear e
  refine G_aload_n d_Hb_carryOut_158 rfl 0 rfl ?_
  refine gx_Hb_kept d_Hb_carryOut_159 w_358 ?_
  refine G_iconst d_Hb_carryOut_162 lt_iconst_2 ?_
  refine G_aald d_Hb_carryOut_163 12 2 rfl rfl (by decide) (b := ad 15) rfl ?_
  refine G_aload_n d_Hb_carryOut_164 rfl 0 rfl ?_
  refine gx_Hb_keptCount d_Hb_carryOut_165 w_359 ?_
  refine G_iload d_Hb_carryOut_168 4 rfl ?_
  refine sx_2 d_Hb_carryOut_170 (Ok_ld h).1 (fun s4 e => ?_)
  replace h := (Ok_ld h).2 s4 e
  clear e
  refine G_aload_n d_Hb_carryOut_171 rfl 0 rfl ?_
  refine G_dup d_Hb_carryOut_172 rfl ?_
  refine gx_Hb_keptCount d_Hb_carryOut_173 w_359 ?_
  refine G_iconst d_Hb_carryOut_176 lt_iconst_1 ?_
  refine G_iadd d_Hb_carryOut_177 ?_
  refine px_Hb_keptCount d_Hb_carryOut_178 w_359 (fun s5 e => ?_)
  replace h := Ok_bnd h s5 e
  clear e
  refine G_iinc d_Hb_carryOut_181 2 rfl lt_iconst_1 rfl (Nat.le_of_ble_eq_true rfl) (fun x => [(2, .int x), (0, .ref (ad 0)), (1, .int x1), (3, .int x3), (4, .int x4)]) (fun _ => rfl) (fun v6 e => ?_)
  replace h := Ok_bnd h v6 e
  clear e
  refine G_goto (tgt := 7) d_Hb_carryOut_184 (by decide) ?_
  refine G_lv [1, 2, 0] rfl ?_
  exact hL7 v6 s5 (Ok_some h)
noncomputable def Hb_carryOut_l7 (x1 : Int32) (x2 : Int32) (s : MS) : Option ((Int32 × MS) ⊕ MS) :=
  if (s.1 6) ≤ x2 then (xit (some s)) else ((f_Walk_isMoved x2 s).bind fun v1 => if v1 = 0 then (bnd (x2 + (1 : Int32)) fun v12 => some (.inl (v12, s))) else (chk (inb x2 12) (bnd (s.2 18 x2.toNatClampNeg) fun v2 => chk (inb v2 40) (bnd (s.2 16 v2.toNatClampNeg) fun v3 => if x1 ≤ v3 then (chk (inb x2 12) (bnd (s.2 19 x2.toNatClampNeg) fun v4 => chk (inb v2 40) (bnd (pa s 15 v2.toNatClampNeg v4) fun s5 => Hb_carryOut_j126 x1 x2 v2 v2 s5))) else (chk (inb v2 40) (bnd (s.2 14 v2.toNatClampNeg) fun v6 => chk (inb x2 12) (bnd (s.2 19 x2.toNatClampNeg) fun v7 => chk (inb v2 40) (bnd (s.2 17 v2.toNatClampNeg) fun v8 => bd2 (f_Stays_add v6 v7 x1 v8 s) fun v9 s10 => chk (inb v2 40) (bnd (pa s10 17 v2.toNatClampNeg x1) fun s11 => Hb_carryOut_j126 x1 x2 v2 v9 s11)))))))))
theorem Hb_carryOut_l7_w {l : Launch} {D : va_G} {cI cZ cJ : ClassId} {ad : Nat → Nat} (x1 x2 : Int32) (s : MS) {Q : Int32 → MS → Prop} {Post : ((Int32 × MS) ⊕ MS) → Prop} (hR : ∀ (s9 : MS), Post (.inr (s9)) → Q 0 s9) (hL7 : ∀ (z2 : Int32) (s9 : MS), Post (.inl (z2, s9)) → G (XX l D cI cZ cJ ad) "SmallHarbour" b_Hb_carryOut 5 none 1 7 [(0, .ref (ad 0)), (1, .int x1), (2, .int z2)] [] s9 Q) (h : Ok (Hb_carryOut_l7 x1 x2 s) Post) : G (XX l D cI cZ cJ ad) "SmallHarbour" b_Hb_carryOut 5 none 1 7 [(0, .ref (ad 0)), (1, .int x1), (2, .int x2)] [] s Q := by
  unfold Hb_carryOut_l7 at h
  refine G_iload_n d_Hb_carryOut_7 rfl 2 rfl ?_
  refine G_aload_n d_Hb_carryOut_8 rfl 0 rfl ?_
  refine gx_Hb_walk d_Hb_carryOut_9 w_352 ?_
  refine gx_Walk_size d_Hb_carryOut_12 w_147 ?_
  refine G_icmp_ge (tgt := 187) d_Hb_carryOut_15 (by decide) (fun c => ?_) (fun c => ?_)
  · replace h := Ok_t c h
    replace h := Ok_xit h
    exact G_vret rfl d_Hb_carryOut_187 (hR _ (Ok_some h))
  replace h := Ok_f c h
  refine G_aload_n d_Hb_carryOut_18 rfl 0 rfl ?_
  refine gx_Hb_walk d_Hb_carryOut_19 w_352 ?_
  refine G_iload_n d_Hb_carryOut_22 rfl 2 rfl ?_
  refine G_callVp (st := []) (As := [.int x2]) (b := ad 6) d_Hb_carryOut_23 mi_Walk_isMoved w_599 6 rfl rfl mv_Walk_isMoved rfl (Nat.le_of_ble_eq_true rfl) (by decide) (c_Walk_isMoved x2 s (Ok_bind h)) (fun v1 h hnv1 => ?_)
  refine G_if_ne (tgt := 32) d_Hb_carryOut_26 (by decide) (fun c => ?_) (fun c => ?_)
  · replace h := Ok_f c h
    refine G_aload_n d_Hb_carryOut_32 rfl 0 rfl ?_
    refine gx_Hb_walk d_Hb_carryOut_33 w_352 ?_
    refine gx_Walk_stay d_Hb_carryOut_36 w_143 ?_
    refine G_iload_n d_Hb_carryOut_39 rfl 2 rfl ?_
    refine lx_18 d_Hb_carryOut_40 (Ok_ld h).1 (fun v2 e => ?_)
    replace h := (Ok_ld h).2 v2 e
    clear e
    refine G_istore_n d_Hb_carryOut_41 rfl (Nat.le_of_ble_eq_true rfl) (fun x => [(3, .int x), (0, .ref (ad 0)), (1, .int x1), (2, .int x2)]) (fun _ => rfl) (fun x e => ?_)
    subst e
    refine G_iload_n d_Hb_carryOut_42 rfl 0 rfl ?_
    refine G_istore d_Hb_carryOut_43 (Nat.le_of_ble_eq_true rfl) (fun x => [(4, .int x), (3, .int v2), (0, .ref (ad 0)), (1, .int x1), (2, .int x2)]) (fun _ => rfl) (fun x e => ?_)
    subst e
    refine G_aload_n d_Hb_carryOut_45 rfl 2 rfl ?_
    refine gx_Hb_stays d_Hb_carryOut_46 w_351 ?_
    refine gx_Stays_from d_Hb_carryOut_49 w_120 ?_
    refine G_iload_n d_Hb_carryOut_52 rfl 1 rfl ?_
    refine lx_16 d_Hb_carryOut_53 (Ok_ld h).1 (fun v3 e => ?_)
    replace h := (Ok_ld h).2 v3 e
    clear e
    refine G_iload_n d_Hb_carryOut_54 rfl 3 rfl ?_
    refine G_icmp_ge (tgt := 108) d_Hb_carryOut_55 (by decide) (fun c => ?_) (fun c => ?_)
    · replace h := Ok_t c h
      refine G_aload_n d_Hb_carryOut_108 rfl 2 rfl ?_
      refine gx_Hb_stays d_Hb_carryOut_109 w_351 ?_
      refine gx_Stays_berth d_Hb_carryOut_112 w_118 ?_
      refine G_iload_n d_Hb_carryOut_115 rfl 1 rfl ?_
      refine G_aload_n d_Hb_carryOut_116 rfl 2 rfl ?_
      refine gx_Hb_walk d_Hb_carryOut_117 w_352 ?_
      refine gx_Walk_best d_Hb_carryOut_120 w_145 ?_
      refine G_iload_n d_Hb_carryOut_123 rfl 4 rfl ?_
      refine lx_19 d_Hb_carryOut_124 (Ok_ld h).1 (fun v4 e => ?_)
      replace h := (Ok_ld h).2 v4 e
      clear e
      refine sx_15 d_Hb_carryOut_125 (Ok_ld h).1 (fun s5 e => ?_)
      replace h := (Ok_ld h).2 s5 e
      clear e
      refine G_lv [2, 3, 4, 1, 0] rfl ?_
      exact Hb_carryOut_j126_w x1 x2 v2 v2 s5 hR hL7 h
    replace h := Ok_f c h
    refine G_aload_n d_Hb_carryOut_58 rfl 2 rfl ?_
    refine gx_Hb_stays d_Hb_carryOut_59 w_351 ?_
    refine G_aload_n d_Hb_carryOut_62 rfl 2 rfl ?_
    refine gx_Hb_stays d_Hb_carryOut_63 w_351 ?_
    refine gx_Stays_boat d_Hb_carryOut_66 w_116 ?_
    refine G_iload_n d_Hb_carryOut_69 rfl 1 rfl ?_
    refine lx_14 d_Hb_carryOut_70 (Ok_ld h).1 (fun v6 e => ?_)
    replace h := (Ok_ld h).2 v6 e
    clear e
    refine G_aload_n d_Hb_carryOut_71 rfl 2 rfl ?_
    refine gx_Hb_walk d_Hb_carryOut_72 w_352 ?_
    refine gx_Walk_best d_Hb_carryOut_75 w_145 ?_
    refine G_iload_n d_Hb_carryOut_78 rfl 4 rfl ?_
    refine lx_19 d_Hb_carryOut_79 (Ok_ld h).1 (fun v7 e => ?_)
    replace h := (Ok_ld h).2 v7 e
    clear e
    refine G_iload_n d_Hb_carryOut_80 rfl 3 rfl ?_
    refine G_aload_n d_Hb_carryOut_81 rfl 2 rfl ?_
    refine gx_Hb_stays d_Hb_carryOut_82 w_351 ?_
    refine gx_Stays_to d_Hb_carryOut_85 w_122 ?_
    refine G_iload_n d_Hb_carryOut_88 rfl 1 rfl ?_
    refine lx_17 d_Hb_carryOut_89 (Ok_ld h).1 (fun v8 e => ?_)
    replace h := (Ok_ld h).2 v8 e
    clear e
    refine G_callVi (st := []) (As := [.int v6, .int v7, .int x1, .int v8]) (b := ad 5) d_Hb_carryOut_90 mi_Stays_add w_527 5 rfl rfl mv_Stays_add rfl (Nat.le_of_ble_eq_true rfl) (by decide) (c_Stays_add v6 v7 x1 v8 s (Ok_bd2 h)) (fun v9 s10 h hnv9 => ?_)
    refine G_istore d_Hb_carryOut_93 (Nat.le_of_ble_eq_true rfl) (fun x => [(4, .int x), (3, .int v2), (0, .ref (ad 0)), (1, .int x1), (2, .int x2)]) (fun _ => rfl) (fun x e => ?_)
    subst e
    refine G_aload_n d_Hb_carryOut_95 rfl 2 rfl ?_
    refine gx_Hb_stays d_Hb_carryOut_96 w_351 ?_
    refine gx_Stays_to d_Hb_carryOut_99 w_122 ?_
    refine G_iload_n d_Hb_carryOut_102 rfl 1 rfl ?_
    refine G_iload_n d_Hb_carryOut_103 rfl 3 rfl ?_
    refine sx_17 d_Hb_carryOut_104 (Ok_ld h).1 (fun s11 e => ?_)
    replace h := (Ok_ld h).2 s11 e
    clear e
    refine G_goto (tgt := 126) d_Hb_carryOut_105 (by decide) ?_
    refine G_lv [2, 3, 4, 1, 0] rfl ?_
    exact Hb_carryOut_j126_w x1 x2 v2 v9 s11 hR hL7 h
  replace h := Ok_t c h
  refine G_goto (tgt := 181) d_Hb_carryOut_29 (by decide) ?_
  refine G_iinc d_Hb_carryOut_181 2 rfl lt_iconst_1 rfl (Nat.le_of_ble_eq_true rfl) (fun x => [(2, .int x), (0, .ref (ad 0)), (1, .int x1)]) (fun _ => rfl) (fun v12 e => ?_)
  replace h := Ok_bnd h v12 e
  clear e
  refine G_goto (tgt := 7) d_Hb_carryOut_184 (by decide) ?_
  refine G_lv [1, 2, 0] rfl ?_
  exact hL7 v12 s (Ok_some h)
noncomputable def f_Hb_carryOut (a1 : Int32) (s : MS) : Option MS :=
  bnd (pf s 0 (0 : Int32)) fun s1 => loop (fun z => Hb_carryOut_l7 a1 z.1 z.2) ((0 : Int32), s1)
theorem f_Hb_carryOut_w {l : Launch} {D : va_G} {cI cZ cJ : ClassId} {ad : Nat → Nat} (a1 : Int32) (s : MS) {Q : Int32 → MS → Prop} {Post : MS → Prop} (hR : ∀ (s9 : MS), Post (s9) → Q 0 s9) (h : Ok (f_Hb_carryOut a1 s) Post) : G (XX l D cI cZ cJ ad) "SmallHarbour" b_Hb_carryOut 5 none 1 0 [(0, .ref (ad 0)), (1, .int a1)] [] s Q := by
  unfold f_Hb_carryOut at h
  refine G_aload_n d_Hb_carryOut_0 rfl 0 rfl ?_
  refine G_iconst d_Hb_carryOut_1 lt_iconst_0 ?_
  refine px_Hb_keptCount d_Hb_carryOut_2 w_359 (fun s1 e => ?_)
  replace h := Ok_bnd h s1 e
  clear e
  refine G_iconst d_Hb_carryOut_5 lt_iconst_0 ?_
  refine G_istore_n d_Hb_carryOut_6 rfl (Nat.le_of_ble_eq_true rfl) (fun x => [(2, .int x), (0, .ref (ad 0)), (1, .int a1)]) (fun _ => rfl) (fun x e => ?_)
  subst e
  refine G_lv [1, 2, 0] rfl ?_
  exact G_loop (J := (fun z => G (XX l D cI cZ cJ ad) "SmallHarbour" b_Hb_carryOut 5 none 1 7 [(0, .ref (ad 0)), (1, .int a1), (2, .int (z.1))] [] z.2 Q)) (fun z h => Hb_carryOut_l7_w a1 z.1 z.2 (Post := Sum.elim (fun z => G (XX l D cI cZ cJ ad) "SmallHarbour" b_Hb_carryOut 5 none 1 7 [(0, .ref (ad 0)), (1, .int a1), (2, .int (z.1))] [] z.2 Q) _) hR (fun z2 s9 h => h) h) ((0 : Int32), s1) h
theorem c_Hb_carryOut {l : Launch} {D : va_G} {cI cZ cJ : ClassId} {ad : Nat → Nat} (a1 : Int32) (s : MS) {P : MS → Prop} (h : Ok (f_Hb_carryOut a1 s) P) : Ct (XX l D cI cZ cJ ad) y_Hb_carryOut b_Hb_carryOut 5 none 1 [.ref (ad 0), .int a1] s (fun _ s9 => P s9) :=
  Ct.of mi_Hb_carryOut (Nat.le_of_ble_eq_true rfl) (f_Hb_carryOut_w a1 s (fun _ h => h) h)
-- Hb_end
noncomputable def f_Hb_end (a1 : Int32) (s : MS) : Option (Int32 × MS) :=
  if a1 < 0 then (some ((-1 : Int32), s)) else (if a1 ≤ (s.1 18) then (bnd (pf s 18 a1) fun s1 => some (a1, s1)) else (some ((-1 : Int32), s)))
theorem f_Hb_end_w {l : Launch} {D : va_G} {cI cZ cJ : ClassId} {ad : Nat → Nat} (a1 : Int32) (s : MS) {Q : Int32 → MS → Prop} {Post : (Int32 × MS) → Prop} (hR : ∀ (r9 : Int32) (s9 : MS), Post ((r9, s9)) → Q r9 s9) (h : Ok (f_Hb_end a1 s) Post) : G (XX l D cI cZ cJ ad) "SmallHarbour" b_Hb_end 2 (some .int) 0 0 [(0, .ref (ad 0)), (1, .int a1)] [] s Q := by
  unfold f_Hb_end at h
  refine G_iload_n d_Hb_end_0 rfl 1 rfl ?_
  refine G_if_lt (tgt := 15) d_Hb_end_1 (by decide) (fun c => ?_) (fun c => ?_)
  · replace h := Ok_t c h
    refine G_iconst d_Hb_end_15 lt_iconst_m1 ?_
    exact G_iret rfl (vp_nar_int _) d_Hb_end_16 (hR _ _ (Ok_some h))
  replace h := Ok_f c h
  refine G_iload_n d_Hb_end_4 rfl 1 rfl ?_
  refine G_aload_n d_Hb_end_5 rfl 0 rfl ?_
  refine gx_Hb_tape d_Hb_end_6 w_355 ?_
  refine gx_Tape_count d_Hb_end_9 w_269 ?_
  refine G_icmp_le (tgt := 17) d_Hb_end_12 (by decide) (fun c => ?_) (fun c => ?_)
  · replace h := Ok_t c h
    refine G_aload_n d_Hb_end_17 rfl 0 rfl ?_
    refine gx_Hb_tape d_Hb_end_18 w_355 ?_
    refine G_iload_n d_Hb_end_21 rfl 1 rfl ?_
    refine px_Tape_count d_Hb_end_22 w_269 (fun s1 e => ?_)
    replace h := Ok_bnd h s1 e
    clear e
    refine G_iload_n d_Hb_end_25 rfl 1 rfl ?_
    exact G_iret rfl (vp_nar_int _) d_Hb_end_26 (hR _ _ (Ok_some h))
  replace h := Ok_f c h
  refine G_iconst d_Hb_end_15 lt_iconst_m1 ?_
  exact G_iret rfl (vp_nar_int _) d_Hb_end_16 (hR _ _ (Ok_some h))
theorem c_Hb_end {l : Launch} {D : va_G} {cI cZ cJ : ClassId} {ad : Nat → Nat} (a1 : Int32) (s : MS) {P : Int32 → MS → Prop} (h : Ok2 (f_Hb_end a1 s) P) : Ct (XX l D cI cZ cJ ad) y_Hb_end b_Hb_end 2 (some .int) 0 [.ref (ad 0), .int a1] s (P) :=
  Ct.of mi_Hb_end (Nat.le_of_ble_eq_true rfl) (f_Hb_end_w a1 s (Post := fun q => P q.1 q.2) (fun _ _ h => h) (Ok2_ok h))
-- Hb_fault
noncomputable def f_Hb_fault (a1 : Int32) (s : MS) : Option Int32 :=
  bnd a1 fun v1 => if v1 = (0 : Int32) then (some (s.1 20)) else (if v1 = (1 : Int32) then (some (s.1 21)) else (some (-1 : Int32)))
theorem f_Hb_fault_w {l : Launch} {D : va_G} {cI cZ cJ : ClassId} {ad : Nat → Nat} (a1 : Int32) (s : MS) {Q : Int32 → MS → Prop} {Post : Int32 → Prop} (hR : ∀ (r9 : Int32), Post (r9) → Q r9 s) (h : Ok (f_Hb_fault a1 s) Post) : G (XX l D cI cZ cJ ad) "SmallHarbour" b_Hb_fault 2 (some .int) 0 0 [(0, .ref (ad 0)), (1, .int a1)] [] s Q := by
  unfold f_Hb_fault at h
  refine G_iload_n d_Hb_fault_0 rfl 1 rfl ?_
  refine G_topi (fun v1 e => ?_)
  replace h := Ok_bnd h v1 e
  clear e
  by_cases c0 : v1 = (0 : Int32)
  · replace h := Ok_t c0 h
    refine G_lookup (tgt := 28) d_Hb_fault_1 (by decide) (by rw [c0]; decide) (by decide) ?_
    refine G_aload_n d_Hb_fault_28 rfl 0 rfl ?_
    refine gx_Hb_reader d_Hb_fault_29 w_356 ?_
    refine gx_Reader_flaw d_Hb_fault_32 w_286 ?_
    exact G_iret rfl (vp_nar_int _) d_Hb_fault_35 (hR _ (Ok_some h))
  replace h := Ok_f c0 h
  have n0 := ne_ti (z := 0) (by decide) c0
  by_cases c1 : v1 = (1 : Int32)
  · replace h := Ok_t c1 h
    refine G_lookup (tgt := 36) d_Hb_fault_1 (by decide) (by rw [c1]; decide) (by decide) ?_
    refine G_aload_n d_Hb_fault_36 rfl 0 rfl ?_
    refine gx_Hb_reader d_Hb_fault_37 w_356 ?_
    refine gx_Reader_place d_Hb_fault_40 w_288 ?_
    exact G_iret rfl (vp_nar_int _) d_Hb_fault_43 (hR _ (Ok_some h))
  replace h := Ok_f c1 h
  have n1 := ne_ti (z := 1) (by decide) c1
  refine G_lookup (off := 43) (tgt := 44) d_Hb_fault_1 (by decide) (by simp [Op.lookupswitch.offset, n0, n1]) (by decide) ?_
  refine G_iconst d_Hb_fault_44 lt_iconst_m1 ?_
  exact G_iret rfl (vp_nar_int _) d_Hb_fault_45 (hR _ (Ok_some h))
theorem c_Hb_fault {l : Launch} {D : va_G} {cI cZ cJ : ClassId} {ad : Nat → Nat} (a1 : Int32) (s : MS) {P : Int32 → Prop} (h : Ok (f_Hb_fault a1 s) P) : Ct (XX l D cI cZ cJ ad) y_Hb_fault b_Hb_fault 2 (some .int) 0 [.ref (ad 0), .int a1] s (fun r9 s9 => s9 = s ∧ P r9) :=
  Ct.of mi_Hb_fault (Nat.le_of_ble_eq_true rfl) (f_Hb_fault_w a1 s (fun _ h => ⟨rfl, h⟩) h)
-- Tape_addFour
noncomputable def Tape_addFour_l3 (x1 : Int32) (x2 : Int32) (s : MS) : Option ((Int32 × MS) ⊕ MS) :=
  if x2 < 0 then (xit (some s)) else (if (200 : Int32) ≤ (s.1 18) then (xit (some s)) else (chk (inb (s.1 18) 200) (bnd (pa s 37 (s.1 18).toNatClampNeg (((x1.toUInt32 >>> (x2.toUInt32 &&& Int32.toUInt32 31)).toInt32) &&& (255 : Int32))) fun s1 => bnd (pf s1 18 ((s1.1 18) + (1 : Int32))) fun s2 => bnd (x2 + (-8 : Int32)) fun v3 => some (.inl (v3, s2)))))
theorem Tape_addFour_l3_w {l : Launch} {D : va_G} {cI cZ cJ : ClassId} {ad : Nat → Nat} (x1 x2 : Int32) (s : MS) {Q : Int32 → MS → Prop} {Post : ((Int32 × MS) ⊕ MS) → Prop} (hR : ∀ (s9 : MS), Post (.inr (s9)) → Q 0 s9) (hL3 : ∀ (z2 : Int32) (s9 : MS), Post (.inl (z2, s9)) → G (XX l D cI cZ cJ ad) "SmallHarbour$Tape" b_Tape_addFour 3 none 0 3 [(0, .ref (ad 9)), (1, .int x1), (2, .int z2)] [] s9 Q) (h : Ok (Tape_addFour_l3 x1 x2 s) Post) : G (XX l D cI cZ cJ ad) "SmallHarbour$Tape" b_Tape_addFour 3 none 0 3 [(0, .ref (ad 9)), (1, .int x1), (2, .int x2)] [] s Q := by
  unfold Tape_addFour_l3 at h
  refine G_iload_n d_Tape_addFour_3 rfl 2 rfl ?_
  refine G_if_lt (tgt := 49) d_Tape_addFour_4 (by decide) (fun c => ?_) (fun c => ?_)
  · replace h := Ok_t c h
    replace h := Ok_xit h
    exact G_vret rfl d_Tape_addFour_49 (hR _ (Ok_some h))
  replace h := Ok_f c h
  refine G_aload_n d_Tape_addFour_7 rfl 0 rfl ?_
  refine gx_Tape_count d_Tape_addFour_8 w_267 ?_
  refine G_sipush d_Tape_addFour_11 lt_sipush_200 ?_
  refine G_icmp_ge (tgt := 49) d_Tape_addFour_14 (by decide) (fun c => ?_) (fun c => ?_)
  · replace h := Ok_t c h
    replace h := Ok_xit h
    exact G_vret rfl d_Tape_addFour_49 (hR _ (Ok_some h))
  replace h := Ok_f c h
  refine G_aload_n d_Tape_addFour_17 rfl 0 rfl ?_
  refine gx_Tape_bytes d_Tape_addFour_18 w_265 ?_
  refine G_aload_n d_Tape_addFour_21 rfl 0 rfl ?_
  refine gx_Tape_count d_Tape_addFour_22 w_267 ?_
  refine G_iload_n d_Tape_addFour_25 rfl 1 rfl ?_
  refine G_iload_n d_Tape_addFour_26 rfl 2 rfl ?_
  refine G_iushr d_Tape_addFour_27 ?_
  refine G_sipush d_Tape_addFour_28 lt_sipush_255 ?_
  refine G_iand d_Tape_addFour_31 ?_
  refine sx_37 d_Tape_addFour_32 (Ok_ld h).1 (fun s1 e => ?_)
  replace h := (Ok_ld h).2 s1 e
  clear e
  refine G_aload_n d_Tape_addFour_33 rfl 0 rfl ?_
  refine G_dup d_Tape_addFour_34 rfl ?_
  refine gx_Tape_count d_Tape_addFour_35 w_267 ?_
  refine G_iconst d_Tape_addFour_38 lt_iconst_1 ?_
  refine G_iadd d_Tape_addFour_39 ?_
  refine px_Tape_count d_Tape_addFour_40 w_267 (fun s2 e => ?_)
  replace h := Ok_bnd h s2 e
  clear e
  refine G_iinc d_Tape_addFour_43 2 rfl lt_iconst_m8 rfl (Nat.le_of_ble_eq_true rfl) (fun x => [(2, .int x), (0, .ref (ad 9)), (1, .int x1)]) (fun _ => rfl) (fun v3 e => ?_)
  replace h := Ok_bnd h v3 e
  clear e
  refine G_goto (tgt := 3) d_Tape_addFour_46 (by decide) ?_
  refine G_lv [1, 2, 0] rfl ?_
  exact hL3 v3 s2 (Ok_some h)
noncomputable def f_Tape_addFour (a1 : Int32) (s : MS) : Option MS :=
  loop (fun z => Tape_addFour_l3 a1 z.1 z.2) ((24 : Int32), s)
theorem f_Tape_addFour_w {l : Launch} {D : va_G} {cI cZ cJ : ClassId} {ad : Nat → Nat} (a1 : Int32) (s : MS) {Q : Int32 → MS → Prop} {Post : MS → Prop} (hR : ∀ (s9 : MS), Post (s9) → Q 0 s9) (h : Ok (f_Tape_addFour a1 s) Post) : G (XX l D cI cZ cJ ad) "SmallHarbour$Tape" b_Tape_addFour 3 none 0 0 [(0, .ref (ad 9)), (1, .int a1)] [] s Q := by
  unfold f_Tape_addFour at h
  refine G_bipush d_Tape_addFour_0 lt_bipush_24 ?_
  refine G_istore_n d_Tape_addFour_2 rfl (Nat.le_of_ble_eq_true rfl) (fun x => [(2, .int x), (0, .ref (ad 9)), (1, .int a1)]) (fun _ => rfl) (fun x e => ?_)
  subst e
  refine G_lv [1, 2, 0] rfl ?_
  exact G_loop (J := (fun z => G (XX l D cI cZ cJ ad) "SmallHarbour$Tape" b_Tape_addFour 3 none 0 3 [(0, .ref (ad 9)), (1, .int a1), (2, .int (z.1))] [] z.2 Q)) (fun z h => Tape_addFour_l3_w a1 z.1 z.2 (Post := Sum.elim (fun z => G (XX l D cI cZ cJ ad) "SmallHarbour$Tape" b_Tape_addFour 3 none 0 3 [(0, .ref (ad 9)), (1, .int a1), (2, .int (z.1))] [] z.2 Q) _) hR (fun z2 s9 h => h) h) ((24 : Int32), s) h
theorem c_Tape_addFour {l : Launch} {D : va_G} {cI cZ cJ : ClassId} {ad : Nat → Nat} (a1 : Int32) (s : MS) {P : MS → Prop} (h : Ok (f_Tape_addFour a1 s) P) : Ct (XX l D cI cZ cJ ad) y_Tape_addFour b_Tape_addFour 3 none 0 [.ref (ad 9), .int a1] s (fun _ s9 => P s9) :=
  Ct.of mi_Tape_addFour (Nat.le_of_ble_eq_true rfl) (f_Tape_addFour_w a1 s (fun _ h => h) h)
-- Hb_feed
noncomputable def f_Hb_feed (a1 a2 a3 a4 a5 : Int32) (s : MS) : Option (Int32 × MS) :=
  if ((s.1 18) + (20 : Int32)) ≤ (200 : Int32) then ((f_Tape_addFour a1 s).bind fun s1 => (f_Tape_addFour a2 s1).bind fun s2 => (f_Tape_addFour a3 s2).bind fun s3 => (f_Tape_addFour a4 s3).bind fun s4 => (f_Tape_addFour a5 s4).bind fun s5 => some ((s5.1 18), s5)) else (some ((-1 : Int32), s))
theorem f_Hb_feed_w {l : Launch} {D : va_G} {cI cZ cJ : ClassId} {ad : Nat → Nat} (a1 a2 a3 a4 a5 : Int32) (s : MS) {Q : Int32 → MS → Prop} {Post : (Int32 × MS) → Prop} (hR : ∀ (r9 : Int32) (s9 : MS), Post ((r9, s9)) → Q r9 s9) (h : Ok (f_Hb_feed a1 a2 a3 a4 a5 s) Post) : G (XX l D cI cZ cJ ad) "SmallHarbour" b_Hb_feed 6 (some .int) 1 0 [(0, .ref (ad 0)), (1, .int a1), (2, .int a2), (3, .int a3), (4, .int a4), (5, .int a5)] [] s Q := by
  unfold f_Hb_feed at h
  refine G_aload_n d_Hb_feed_0 rfl 0 rfl ?_
  refine gx_Hb_tape d_Hb_feed_1 w_355 ?_
  refine gx_Tape_count d_Hb_feed_4 w_269 ?_
  refine G_bipush d_Hb_feed_7 lt_bipush_20 ?_
  refine G_iadd d_Hb_feed_9 ?_
  refine G_sipush d_Hb_feed_10 lt_sipush_200 ?_
  refine G_icmp_le (tgt := 18) d_Hb_feed_13 (by decide) (fun c => ?_) (fun c => ?_)
  · replace h := Ok_t c h
    refine G_aload_n d_Hb_feed_18 rfl 0 rfl ?_
    refine gx_Hb_tape d_Hb_feed_19 w_355 ?_
    refine G_iload_n d_Hb_feed_22 rfl 1 rfl ?_
    refine G_callVv (st := []) (As := [.int a1]) (b := ad 9) d_Hb_feed_23 mi_Tape_addFour w_721 9 rfl rfl mv_Tape_addFour rfl (Nat.le_of_ble_eq_true rfl) (by decide) (c_Tape_addFour a1 s (Ok_bind h)) (fun s1 h => ?_)
    refine G_aload_n d_Hb_feed_26 rfl 0 rfl ?_
    refine gx_Hb_tape d_Hb_feed_27 w_355 ?_
    refine G_iload_n d_Hb_feed_30 rfl 2 rfl ?_
    refine G_callVv (st := []) (As := [.int a2]) (b := ad 9) d_Hb_feed_31 mi_Tape_addFour w_721 9 rfl rfl mv_Tape_addFour rfl (Nat.le_of_ble_eq_true rfl) (by decide) (c_Tape_addFour a2 s1 (Ok_bind h)) (fun s2 h => ?_)
    refine G_aload_n d_Hb_feed_34 rfl 0 rfl ?_
    refine gx_Hb_tape d_Hb_feed_35 w_355 ?_
    refine G_iload_n d_Hb_feed_38 rfl 3 rfl ?_
    refine G_callVv (st := []) (As := [.int a3]) (b := ad 9) d_Hb_feed_39 mi_Tape_addFour w_721 9 rfl rfl mv_Tape_addFour rfl (Nat.le_of_ble_eq_true rfl) (by decide) (c_Tape_addFour a3 s2 (Ok_bind h)) (fun s3 h => ?_)
    refine G_aload_n d_Hb_feed_42 rfl 0 rfl ?_
    refine gx_Hb_tape d_Hb_feed_43 w_355 ?_
    refine G_iload d_Hb_feed_46 4 rfl ?_
    refine G_callVv (st := []) (As := [.int a4]) (b := ad 9) d_Hb_feed_48 mi_Tape_addFour w_721 9 rfl rfl mv_Tape_addFour rfl (Nat.le_of_ble_eq_true rfl) (by decide) (c_Tape_addFour a4 s3 (Ok_bind h)) (fun s4 h => ?_)
    refine G_aload_n d_Hb_feed_51 rfl 0 rfl ?_
    refine gx_Hb_tape d_Hb_feed_52 w_355 ?_
    refine G_iload d_Hb_feed_55 5 rfl ?_
    refine G_callVv (st := []) (As := [.int a5]) (b := ad 9) d_Hb_feed_57 mi_Tape_addFour w_721 9 rfl rfl mv_Tape_addFour rfl (Nat.le_of_ble_eq_true rfl) (by decide) (c_Tape_addFour a5 s4 (Ok_bind h)) (fun s5 h => ?_)
    refine G_aload_n d_Hb_feed_60 rfl 0 rfl ?_
    refine gx_Hb_tape d_Hb_feed_61 w_355 ?_
    refine gx_Tape_count d_Hb_feed_64 w_269 ?_
    exact G_iret rfl (vp_nar_int _) d_Hb_feed_67 (hR _ _ (Ok_some h))
  replace h := Ok_f c h
  refine G_iconst d_Hb_feed_16 lt_iconst_m1 ?_
  exact G_iret rfl (vp_nar_int _) d_Hb_feed_17 (hR _ _ (Ok_some h))
theorem c_Hb_feed {l : Launch} {D : va_G} {cI cZ cJ : ClassId} {ad : Nat → Nat} (a1 a2 a3 a4 a5 : Int32) (s : MS) {P : Int32 → MS → Prop} (h : Ok2 (f_Hb_feed a1 a2 a3 a4 a5 s) P) : Ct (XX l D cI cZ cJ ad) y_Hb_feed b_Hb_feed 6 (some .int) 1 [.ref (ad 0), .int a1, .int a2, .int a3, .int a4, .int a5] s (P) :=
  Ct.of mi_Hb_feed (Nat.le_of_ble_eq_true rfl) (f_Hb_feed_w a1 a2 a3 a4 a5 s (Post := fun q => P q.1 q.2) (fun _ _ h => h) (Ok2_ok h))
-- Walk_add
noncomputable def Walk_add_l74 (x3 x4 : Int32) (x5 : Int32) (s : MS) : Option ((Int32 × MS) ⊕ MS) :=
  if (s.1 6) ≤ x5 then (xit (bnd (pf s 6 ((s.1 6) + (1 : Int32))) fun s1 => some s1)) else (chk (inb x5 12) (bnd (s.2 21 x5.toNatClampNeg) fun v2 => if x4 ≤ v2 then (bnd (x5 + (1 : Int32)) fun v3 => some (.inl (v3, s))) else (chk (inb x5 12) (bnd (s.2 22 x5.toNatClampNeg) fun v4 => if v4 ≤ x3 then (bnd (x5 + (1 : Int32)) fun v5 => some (.inl (v5, s))) else (chk (inb (s.1 6) 12) (bnd (s.2 25 (s.1 6).toNatClampNeg) fun v6 => chk (inb (s.1 6) 12) (bnd (pa s 25 (s.1 6).toNatClampNeg (v6 ||| ((1 : Int32) <<< (x5 &&& 31)))) fun s7 => bnd (x5 + (1 : Int32)) fun v8 => some (.inl (v8, s7)))))))))
theorem Walk_add_l74_w {l : Launch} {D : va_G} {cI cZ cJ : ClassId} {ad : Nat → Nat} (x3 x4 x5 : Int32) (s : MS) {Q : Int32 → MS → Prop} {Post : ((Int32 × MS) ⊕ MS) → Prop} (hR : ∀ (s9 : MS), Post (.inr (s9)) → Q 0 s9) (hL74 : ∀ (z5 : Int32) (s9 : MS), Post (.inl (z5, s9)) → G (XX l D cI cZ cJ ad) "SmallHarbour$Walk" b_Walk_add 6 none 0 74 [(0, .ref (ad 6)), (3, .int x3), (4, .int x4), (5, .int z5)] [] s9 Q) (h : Ok (Walk_add_l74 x3 x4 x5 s) Post) : G (XX l D cI cZ cJ ad) "SmallHarbour$Walk" b_Walk_add 6 none 0 74 [(0, .ref (ad 6)), (3, .int x3), (4, .int x4), (5, .int x5)] [] s Q := by
  unfold Walk_add_l74 at h
  refine G_iload d_Walk_add_74 3 rfl ?_
  refine G_aload_n d_Walk_add_76 rfl 0 rfl ?_
  refine gx_Walk_size d_Walk_add_77 w_146 ?_
  refine G_icmp_ge (tgt := 128) d_Walk_add_80 (by decide) (fun c => ?_) (fun c => ?_)
  · replace h := Ok_t c h
    replace h := Ok_xit h
    refine G_aload_n d_Walk_add_128 rfl 0 rfl ?_
    refine G_dup d_Walk_add_129 rfl ?_
    refine gx_Walk_size d_Walk_add_130 w_146 ?_
    refine G_iconst d_Walk_add_133 lt_iconst_1 ?_
    refine G_iadd d_Walk_add_134 ?_
    refine px_Walk_size d_Walk_add_135 w_146 (fun s1 e => ?_)
    replace h := Ok_bnd h s1 e
    clear e
    exact G_vret rfl d_Walk_add_138 (hR _ (Ok_some h))
  replace h := Ok_f c h
  refine G_aload_n d_Walk_add_83 rfl 0 rfl ?_
  refine gx_Walk_from d_Walk_add_84 w_149 ?_
  refine G_iload d_Walk_add_87 3 rfl ?_
  refine lx_21 d_Walk_add_89 (Ok_ld h).1 (fun v2 e => ?_)
  replace h := (Ok_ld h).2 v2 e
  clear e
  refine G_iload d_Walk_add_90 2 rfl ?_
  refine G_icmp_ge (tgt := 122) d_Walk_add_92 (by decide) (fun c => ?_) (fun c => ?_)
  · replace h := Ok_t c h
    refine G_iinc d_Walk_add_122 3 rfl lt_iconst_1 rfl (Nat.le_of_ble_eq_true rfl) (fun x => [(5, .int x), (0, .ref (ad 6)), (3, .int x3), (4, .int x4)]) (fun _ => rfl) (fun v3 e => ?_)
    replace h := Ok_bnd h v3 e
    clear e
    refine G_goto (tgt := 74) d_Walk_add_125 (by decide) ?_
    refine G_lv [1, 2, 3, 0] rfl ?_
    exact hL74 v3 s (Ok_some h)
  replace h := Ok_f c h
  refine G_iload_n d_Walk_add_95 rfl 1 rfl ?_
  refine G_aload_n d_Walk_add_96 rfl 0 rfl ?_
  refine gx_Walk_to d_Walk_add_97 w_150 ?_
  refine G_iload d_Walk_add_100 3 rfl ?_
  refine lx_22 d_Walk_add_102 (Ok_ld h).1 (fun v4 e => ?_)
  replace h := (Ok_ld h).2 v4 e
  clear e
  refine G_icmp_ge (tgt := 122) d_Walk_add_103 (by decide) (fun c => ?_) (fun c => ?_)
  · replace h := Ok_t c h
    refine G_iinc d_Walk_add_122 3 rfl lt_iconst_1 rfl (Nat.le_of_ble_eq_true rfl) (fun x => [(5, .int x), (0, .ref (ad 6)), (3, .int x3), (4, .int x4)]) (fun _ => rfl) (fun v5 e => ?_)
    replace h := Ok_bnd h v5 e
    clear e
    refine G_goto (tgt := 74) d_Walk_add_125 (by decide) ?_
    refine G_lv [1, 2, 3, 0] rfl ?_
    exact hL74 v5 s (Ok_some h)
  replace h := Ok_f c h
  refine G_aload_n d_Walk_add_106 rfl 0 rfl ?_
  refine gx_Walk_shares d_Walk_add_107 w_153 ?_
  refine G_aload_n d_Walk_add_110 rfl 0 rfl ?_
  refine gx_Walk_size d_Walk_add_111 w_146 ?_
  refine G_dup2 d_Walk_add_114 rfl rfl ?_
  refine lx_25 d_Walk_add_115 (Ok_ld h).1 (fun v6 e => ?_)
  replace h := (Ok_ld h).2 v6 e
  clear e
  refine G_iconst d_Walk_add_116 lt_iconst_1 ?_
  refine G_iload d_Walk_add_117 3 rfl ?_
  refine G_ishl d_Walk_add_119 ?_
  refine G_ior d_Walk_add_120 ?_
  refine sx_25 d_Walk_add_121 (Ok_ld h).1 (fun s7 e => ?_)
  replace h := (Ok_ld h).2 s7 e
  clear e
  refine G_iinc d_Walk_add_122 3 rfl lt_iconst_1 rfl (Nat.le_of_ble_eq_true rfl) (fun x => [(5, .int x), (0, .ref (ad 6)), (3, .int x3), (4, .int x4)]) (fun _ => rfl) (fun v8 e => ?_)
  replace h := Ok_bnd h v8 e
  clear e
  refine G_goto (tgt := 74) d_Walk_add_125 (by decide) ?_
  refine G_lv [1, 2, 3, 0] rfl ?_
  exact hL74 v8 s7 (Ok_some h)
noncomputable def f_Walk_add (a1 a2 a3 a4 : Int32) (s : MS) : Option MS :=
  if (s.1 6) < (12 : Int32) then (chk (inb (s.1 6) 12) (bnd (pa s 18 (s.1 6).toNatClampNeg a1) fun s1 => chk (inb (s1.1 6) 12) (bnd (pa s1 20 (s1.1 6).toNatClampNeg a2) fun s2 => chk (inb (s2.1 6) 12) (bnd (pa s2 21 (s2.1 6).toNatClampNeg a3) fun s3 => chk (inb (s3.1 6) 12) (bnd (pa s3 22 (s3.1 6).toNatClampNeg a4) fun s4 => chk (inb (s4.1 6) 12) (bnd (pa s4 24 (s4.1 6).toNatClampNeg (0 : Int32)) fun s5 => chk (inb (s5.1 6) 12) (bnd (pa s5 25 (s5.1 6).toNatClampNeg (0 : Int32)) fun s6 => loop (fun z => Walk_add_l74 a3 a4 z.1 z.2) ((0 : Int32), s6)))))))) else (some s)
theorem f_Walk_add_w {l : Launch} {D : va_G} {cI cZ cJ : ClassId} {ad : Nat → Nat} (a1 a2 a3 a4 : Int32) (s : MS) {Q : Int32 → MS → Prop} {Post : MS → Prop} (hR : ∀ (s9 : MS), Post (s9) → Q 0 s9) (h : Ok (f_Walk_add a1 a2 a3 a4 s) Post) : G (XX l D cI cZ cJ ad) "SmallHarbour$Walk" b_Walk_add 6 none 0 0 [(0, .ref (ad 6)), (1, .int a1), (2, .int a2), (3, .int a3), (4, .int a4)] [] s Q := by
  unfold f_Walk_add at h
  refine G_aload_n d_Walk_add_0 rfl 0 rfl ?_
  refine gx_Walk_size d_Walk_add_1 w_146 ?_
  refine G_bipush d_Walk_add_4 lt_bipush_12 ?_
  refine G_icmp_lt (tgt := 10) d_Walk_add_6 (by decide) (fun c => ?_) (fun c => ?_)
  · replace h := Ok_t c h
    refine G_aload_n d_Walk_add_10 rfl 0 rfl ?_
    refine gx_Walk_stay d_Walk_add_11 w_142 ?_
    refine G_aload_n d_Walk_add_14 rfl 0 rfl ?_
    refine gx_Walk_size d_Walk_add_15 w_146 ?_
    refine G_iload_n d_Walk_add_18 rfl 1 rfl ?_
    refine sx_18 d_Walk_add_19 (Ok_ld h).1 (fun s1 e => ?_)
    replace h := (Ok_ld h).2 s1 e
    clear e
    refine G_aload_n d_Walk_add_20 rfl 0 rfl ?_
    refine gx_Walk_own d_Walk_add_21 w_148 ?_
    refine G_aload_n d_Walk_add_24 rfl 0 rfl ?_
    refine gx_Walk_size d_Walk_add_25 w_146 ?_
    refine G_iload_n d_Walk_add_28 rfl 2 rfl ?_
    refine sx_20 d_Walk_add_29 (Ok_ld h).1 (fun s2 e => ?_)
    replace h := (Ok_ld h).2 s2 e
    clear e
    refine G_aload_n d_Walk_add_30 rfl 0 rfl ?_
    refine gx_Walk_from d_Walk_add_31 w_149 ?_
    refine G_aload_n d_Walk_add_34 rfl 0 rfl ?_
    refine gx_Walk_size d_Walk_add_35 w_146 ?_
    refine G_iload_n d_Walk_add_38 rfl 3 rfl ?_
    refine sx_21 d_Walk_add_39 (Ok_ld h).1 (fun s3 e => ?_)
    replace h := (Ok_ld h).2 s3 e
    clear e
    refine G_aload_n d_Walk_add_40 rfl 0 rfl ?_
    refine gx_Walk_to d_Walk_add_41 w_150 ?_
    refine G_aload_n d_Walk_add_44 rfl 0 rfl ?_
    refine gx_Walk_size d_Walk_add_45 w_146 ?_
    refine G_iload d_Walk_add_48 4 rfl ?_
    refine sx_22 d_Walk_add_50 (Ok_ld h).1 (fun s4 e => ?_)
    replace h := (Ok_ld h).2 s4 e
    clear e
    refine G_aload_n d_Walk_add_51 rfl 0 rfl ?_
    refine gx_Walk_allowed d_Walk_add_52 w_152 ?_
    refine G_aload_n d_Walk_add_55 rfl 0 rfl ?_
    refine gx_Walk_size d_Walk_add_56 w_146 ?_
    refine G_iconst d_Walk_add_59 lt_iconst_0 ?_
    refine sx_24 d_Walk_add_60 (Ok_ld h).1 (fun s5 e => ?_)
    replace h := (Ok_ld h).2 s5 e
    clear e
    refine G_aload_n d_Walk_add_61 rfl 0 rfl ?_
    refine gx_Walk_shares d_Walk_add_62 w_153 ?_
    refine G_aload_n d_Walk_add_65 rfl 0 rfl ?_
    refine gx_Walk_size d_Walk_add_66 w_146 ?_
    refine G_iconst d_Walk_add_69 lt_iconst_0 ?_
    refine sx_25 d_Walk_add_70 (Ok_ld h).1 (fun s6 e => ?_)
    replace h := (Ok_ld h).2 s6 e
    clear e
    refine G_iconst d_Walk_add_71 lt_iconst_0 ?_
    refine G_istore d_Walk_add_72 (Nat.le_of_ble_eq_true rfl) (fun x => [(5, .int x), (0, .ref (ad 6)), (1, .int a1), (2, .int a2), (3, .int a3), (4, .int a4)]) (fun _ => rfl) (fun x e => ?_)
    subst e
    refine G_lv [1, 4, 5, 0] rfl ?_
    exact G_loop (J := (fun z => G (XX l D cI cZ cJ ad) "SmallHarbour$Walk" b_Walk_add 6 none 0 74 [(0, .ref (ad 6)), (3, .int a3), (4, .int a4), (5, .int (z.1))] [] z.2 Q)) (fun z h => Walk_add_l74_w a3 a4 z.1 z.2 (Post := Sum.elim (fun z => G (XX l D cI cZ cJ ad) "SmallHarbour$Walk" b_Walk_add 6 none 0 74 [(0, .ref (ad 6)), (3, .int a3), (4, .int a4), (5, .int (z.1))] [] z.2 Q) _) hR (fun z5 s9 h => h) h) ((0 : Int32), s6) h
  replace h := Ok_f c h
  exact G_vret rfl d_Walk_add_9 (hR _ (Ok_some h))
theorem c_Walk_add {l : Launch} {D : va_G} {cI cZ cJ : ClassId} {ad : Nat → Nat} (a1 a2 a3 a4 : Int32) (s : MS) {P : MS → Prop} (h : Ok (f_Walk_add a1 a2 a3 a4 s) P) : Ct (XX l D cI cZ cJ ad) y_Walk_add b_Walk_add 6 none 0 [.ref (ad 6), .int a1, .int a2, .int a3, .int a4] s (fun _ s9 => P s9) :=
  Ct.of mi_Walk_add (Nat.le_of_ble_eq_true rfl) (f_Walk_add_w a1 a2 a3 a4 s (fun _ h => h) h)
-- Walk_allow
noncomputable def f_Walk_allow (a1 : Int32) (s : MS) : Option MS :=
  if (s.1 6) ≤ 0 then (some s) else (chk (inb ((s.1 6) - (1 : Int32)) 12) (bnd (s.2 24 ((s.1 6) - (1 : Int32)).toNatClampNeg) fun v1 => chk (inb ((s.1 6) - (1 : Int32)) 12) (bnd (pa s 24 ((s.1 6) - (1 : Int32)).toNatClampNeg (v1 ||| ((1 : Int32) <<< (a1 &&& 31)))) fun s2 => some s2)))
theorem f_Walk_allow_w {l : Launch} {D : va_G} {cI cZ cJ : ClassId} {ad : Nat → Nat} (a1 : Int32) (s : MS) {Q : Int32 → MS → Prop} {Post : MS → Prop} (hR : ∀ (s9 : MS), Post (s9) → Q 0 s9) (h : Ok (f_Walk_allow a1 s) Post) : G (XX l D cI cZ cJ ad) "SmallHarbour$Walk" b_Walk_allow 2 none 0 0 [(0, .ref (ad 6)), (1, .int a1)] [] s Q := by
  unfold f_Walk_allow at h
  refine G_aload_n d_Walk_allow_0 rfl 0 rfl ?_
  refine gx_Walk_size d_Walk_allow_1 w_146 ?_
  refine G_if_le (tgt := 24) d_Walk_allow_4 (by decide) (fun c => ?_) (fun c => ?_)
  · replace h := Ok_t c h
    exact G_vret rfl d_Walk_allow_24 (hR _ (Ok_some h))
  replace h := Ok_f c h
  refine G_aload_n d_Walk_allow_7 rfl 0 rfl ?_
  refine gx_Walk_allowed d_Walk_allow_8 w_152 ?_
  refine G_aload_n d_Walk_allow_11 rfl 0 rfl ?_
  refine gx_Walk_size d_Walk_allow_12 w_146 ?_
  refine G_iconst d_Walk_allow_15 lt_iconst_1 ?_
  refine G_isub d_Walk_allow_16 ?_
  refine G_dup2 d_Walk_allow_17 rfl rfl ?_
  refine lx_24 d_Walk_allow_18 (Ok_ld h).1 (fun v1 e => ?_)
  replace h := (Ok_ld h).2 v1 e
  clear e
  refine G_iconst d_Walk_allow_19 lt_iconst_1 ?_
  refine G_iload_n d_Walk_allow_20 rfl 1 rfl ?_
  refine G_ishl d_Walk_allow_21 ?_
  refine G_ior d_Walk_allow_22 ?_
  refine sx_24 d_Walk_allow_23 (Ok_ld h).1 (fun s2 e => ?_)
  replace h := (Ok_ld h).2 s2 e
  clear e
  exact G_vret rfl d_Walk_allow_24 (hR _ (Ok_some h))
theorem c_Walk_allow {l : Launch} {D : va_G} {cI cZ cJ : ClassId} {ad : Nat → Nat} (a1 : Int32) (s : MS) {P : MS → Prop} (h : Ok (f_Walk_allow a1 s) P) : Ct (XX l D cI cZ cJ ad) y_Walk_allow b_Walk_allow 2 none 0 [.ref (ad 6), .int a1] s (fun _ s9 => P s9) :=
  Ct.of mi_Walk_allow (Nat.le_of_ble_eq_true rfl) (f_Walk_allow_w a1 s (fun _ h => h) h)
-- Walk_restart
noncomputable def f_Walk_restart (a1 : Int32) (s : MS) : Option MS :=
  bnd (pf s 6 (0 : Int32)) fun s1 => bnd (if (10 : Int32) < a1 then (10 : Int32) else a1) fun v2 => bnd (pf s1 7 v2) fun s3 => bnd (pf s3 8 (13 : Int32)) fun s4 => bnd (pf s4 9 (0 : Int32)) fun s5 => (f_Ar_fill39 (0 : Int32) s5).bind fun s6 => some s6
theorem f_Walk_restart_w {l : Launch} {D : va_G} {cI cZ cJ : ClassId} {ad : Nat → Nat} (a1 : Int32) (s : MS) {Q : Int32 → MS → Prop} {Post : MS → Prop} (hR : ∀ (s9 : MS), Post (s9) → Q 0 s9) (h : Ok (f_Walk_restart a1 s) Post) : G (XX l D cI cZ cJ ad) "SmallHarbour$Walk" b_Walk_restart 2 none 1 0 [(0, .ref (ad 6)), (1, .int a1)] [] s Q := by
  unfold f_Walk_restart at h
  refine G_aload_n d_Walk_restart_0 rfl 0 rfl ?_
  refine G_iconst d_Walk_restart_1 lt_iconst_0 ?_
  refine px_Walk_size d_Walk_restart_2 w_146 (fun s1 e => ?_)
  replace h := Ok_bnd h s1 e
  clear e
  refine G_aload_n d_Walk_restart_5 rfl 0 rfl ?_
  refine G_iload_n d_Walk_restart_6 rfl 1 rfl ?_
  refine G_bipush d_Walk_restart_7 lt_bipush_10 ?_
  refine G_min d_Walk_restart_9 w_555 w_451 w_15 w_452 (by decide) (Nat.le_of_ble_eq_true rfl) (G_topi (fun v2 e => ?_))
  replace h := Ok_bnd h v2 e
  clear e
  refine px_Walk_berthCount d_Walk_restart_12 w_155 (fun s3 e => ?_)
  replace h := Ok_bnd h s3 e
  clear e
  refine G_aload_n d_Walk_restart_15 rfl 0 rfl ?_
  refine G_bipush d_Walk_restart_16 lt_bipush_13 ?_
  refine px_Walk_fewest d_Walk_restart_18 w_156 (fun s4 e => ?_)
  replace h := Ok_bnd h s4 e
  clear e
  refine G_aload_n d_Walk_restart_21 rfl 0 rfl ?_
  refine G_iconst d_Walk_restart_22 lt_iconst_0 ?_
  refine px_Walk_tries d_Walk_restart_23 w_157 (fun s5 e => ?_)
  replace h := Ok_bnd h s5 e
  clear e
  refine G_aload_n d_Walk_restart_26 rfl 0 rfl ?_
  refine gx_Walk_putAt d_Walk_restart_27 w_154 ?_
  refine G_iconst d_Walk_restart_30 lt_iconst_0 ?_
  refine G_callSv (st := []) (As := [.ref (ad 39), .int (0 : Int32)]) d_Walk_restart_31 mi_Ar_fill w_556 w_404 rfl (Nat.le_of_ble_eq_true rfl) (by decide) (c_Ar_fill39 (0 : Int32) s5 (Ok_bind h)) (fun s6 h => ?_)
  exact G_vret rfl d_Walk_restart_34 (hR _ (Ok_some h))
theorem c_Walk_restart {l : Launch} {D : va_G} {cI cZ cJ : ClassId} {ad : Nat → Nat} (a1 : Int32) (s : MS) {P : MS → Prop} (h : Ok (f_Walk_restart a1 s) P) : Ct (XX l D cI cZ cJ ad) y_Walk_restart b_Walk_restart 2 none 1 [.ref (ad 6), .int a1] s (fun _ s9 => P s9) :=
  Ct.of mi_Walk_restart (Nat.le_of_ble_eq_true rfl) (f_Walk_restart_w a1 s (fun _ h => h) h)
-- Hb_lineUp
noncomputable def Hb_lineUp_l109 (x1 x2 x3 : Int32) (x4 : Int32) (s : MS) : Option ((Int32 × MS) ⊕ ((Int32 × MS) ⊕ (Int32 × MS))) :=
  if (s.1 2) ≤ x4 then (xit (bnd (x2 + (1 : Int32)) fun v1 => some (.inl (v1, s)))) else (chk (inb x2 40) (bnd (s.2 14 x2.toNatClampNeg) fun v2 => chk (inb x2 40) (bnd (s.2 17 x2.toNatClampNeg) fun v3 => (f_Hb_canLie v2 x4 x3 v3 s).bind fun v4 => if v4 = 0 then (bnd (x4 + (1 : Int32)) fun v5 => some (.inl (v5, s))) else ((f_Walk_allow x4 s).bind fun s6 => bnd (x4 + (1 : Int32)) fun v7 => some (.inl (v7, s6))))))
theorem Hb_lineUp_l109_w {l : Launch} {D : va_G} {cI cZ cJ : ClassId} {ad : Nat → Nat} (x1 x2 x3 x4 : Int32) (s : MS) {Q : Int32 → MS → Prop} {Post : ((Int32 × MS) ⊕ ((Int32 × MS) ⊕ (Int32 × MS))) → Prop} (hR : ∀ (r9 : Int32) (s9 : MS), Post (.inr (.inr ((r9, s9)))) → Q r9 s9) (hL16 : ∀ (z2 : Int32) (s9 : MS), Post (.inr (.inl (z2, s9))) → G (XX l D cI cZ cJ ad) "SmallHarbour" b_Hb_lineUp 5 (some .boolean) 4 16 [(0, .ref (ad 0)), (1, .int x1), (2, .int z2)] [] s9 Q) (hL109 : ∀ (z4 : Int32) (s9 : MS), Post (.inl (z4, s9)) → G (XX l D cI cZ cJ ad) "SmallHarbour" b_Hb_lineUp 5 (some .boolean) 4 109 [(0, .ref (ad 0)), (1, .int x1), (2, .int x2), (3, .int x3), (4, .int z4)] [] s9 Q) (h : Ok (Hb_lineUp_l109 x1 x2 x3 x4 s) Post) : G (XX l D cI cZ cJ ad) "SmallHarbour" b_Hb_lineUp 5 (some .boolean) 4 109 [(0, .ref (ad 0)), (1, .int x1), (2, .int x2), (3, .int x3), (4, .int x4)] [] s Q := by
  unfold Hb_lineUp_l109 at h
  refine G_iload d_Hb_lineUp_109 4 rfl ?_
  refine G_aload_n d_Hb_lineUp_111 rfl 0 rfl ?_
  refine gx_Hb_berths d_Hb_lineUp_112 w_348 ?_
  refine gx_Berths_count d_Hb_lineUp_115 w_50 ?_
  refine G_icmp_ge (tgt := 164) d_Hb_lineUp_118 (by decide) (fun c => ?_) (fun c => ?_)
  · replace h := Ok_t c h
    replace h := Ok_xit h
    refine G_iinc d_Hb_lineUp_164 2 rfl lt_iconst_1 rfl (Nat.le_of_ble_eq_true rfl) (fun x => [(2, .int x), (0, .ref (ad 0)), (1, .int x1), (3, .int x3), (4, .int x4)]) (fun _ => rfl) (fun v1 e => ?_)
    replace h := Ok_bnd h v1 e
    clear e
    refine G_goto (tgt := 16) d_Hb_lineUp_167 (by decide) ?_
    refine G_lv [1, 2, 0] rfl ?_
    exact hL16 v1 s (Ok_some h)
  replace h := Ok_f c h
  refine G_aload_n d_Hb_lineUp_121 rfl 0 rfl ?_
  refine G_aload_n d_Hb_lineUp_122 rfl 0 rfl ?_
  refine gx_Hb_stays d_Hb_lineUp_123 w_351 ?_
  refine gx_Stays_boat d_Hb_lineUp_126 w_116 ?_
  refine G_iload_n d_Hb_lineUp_129 rfl 2 rfl ?_
  refine lx_14 d_Hb_lineUp_130 (Ok_ld h).1 (fun v2 e => ?_)
  replace h := (Ok_ld h).2 v2 e
  clear e
  refine G_iload d_Hb_lineUp_131 4 rfl ?_
  refine G_iload_n d_Hb_lineUp_133 rfl 3 rfl ?_
  refine G_aload_n d_Hb_lineUp_134 rfl 0 rfl ?_
  refine gx_Hb_stays d_Hb_lineUp_135 w_351 ?_
  refine gx_Stays_to d_Hb_lineUp_138 w_122 ?_
  refine G_iload_n d_Hb_lineUp_141 rfl 2 rfl ?_
  refine lx_17 d_Hb_lineUp_142 (Ok_ld h).1 (fun v3 e => ?_)
  replace h := (Ok_ld h).2 v3 e
  clear e
  refine G_callVp (st := []) (As := [.int v2, .int x4, .int x3, .int v3]) (b := ad 0) d_Hb_lineUp_143 mi_Hb_canLie w_523 0 rfl rfl mv_Hb_canLie rfl (Nat.le_of_ble_eq_true rfl) (by decide) (c_Hb_canLie v2 x4 x3 v3 s (Ok_bind h)) (fun v4 h hnv4 => ?_)
  refine G_if_eq (tgt := 158) d_Hb_lineUp_146 (by decide) (fun c => ?_) (fun c => ?_)
  · replace h := Ok_t c h
    refine G_iinc d_Hb_lineUp_158 4 rfl lt_iconst_1 rfl (Nat.le_of_ble_eq_true rfl) (fun x => [(4, .int x), (0, .ref (ad 0)), (1, .int x1), (2, .int x2), (3, .int x3)]) (fun _ => rfl) (fun v5 e => ?_)
    replace h := Ok_bnd h v5 e
    clear e
    refine G_goto (tgt := 109) d_Hb_lineUp_161 (by decide) ?_
    refine G_lv [1, 2, 3, 4, 0] rfl ?_
    exact hL109 v5 s (Ok_some h)
  replace h := Ok_f c h
  refine G_aload_n d_Hb_lineUp_149 rfl 0 rfl ?_
  refine gx_Hb_walk d_Hb_lineUp_150 w_352 ?_
  refine G_iload d_Hb_lineUp_153 4 rfl ?_
  refine G_callVv (st := []) (As := [.int x4]) (b := ad 6) d_Hb_lineUp_155 mi_Walk_allow w_562 6 rfl rfl mv_Walk_allow rfl (Nat.le_of_ble_eq_true rfl) (by decide) (c_Walk_allow x4 s (Ok_bind h)) (fun s6 h => ?_)
  refine G_iinc d_Hb_lineUp_158 4 rfl lt_iconst_1 rfl (Nat.le_of_ble_eq_true rfl) (fun x => [(4, .int x), (0, .ref (ad 0)), (1, .int x1), (2, .int x2), (3, .int x3)]) (fun _ => rfl) (fun v7 e => ?_)
  replace h := Ok_bnd h v7 e
  clear e
  refine G_goto (tgt := 109) d_Hb_lineUp_161 (by decide) ?_
  refine G_lv [1, 2, 3, 4, 0] rfl ?_
  exact hL109 v7 s6 (Ok_some h)
noncomputable def Hb_lineUp_l16 (x1 : Int32) (x2 : Int32) (s : MS) : Option ((Int32 × MS) ⊕ (Int32 × MS)) :=
  if (s.1 5) ≤ x2 then (xit (some ((1 : Int32), s))) else (chk (inb x2 40) (bnd (s.2 17 x2.toNatClampNeg) fun v1 => if x1 < v1 then (if (s.1 6) < (12 : Int32) then (chk (inb x2 40) (bnd (s.2 16 x2.toNatClampNeg) fun v2 => bnd (if v2 < x1 then x1 else v2) fun v3 => chk (inb x2 40) (bnd (s.2 15 x2.toNatClampNeg) fun v4 => chk (inb x2 40) (bnd (s.2 16 x2.toNatClampNeg) fun v5 => chk (inb x2 40) (bnd (s.2 17 x2.toNatClampNeg) fun v6 => (f_Walk_add x2 v4 v5 v6 s).bind fun s7 => loop (fun z => Hb_lineUp_l109 x1 x2 v3 z.1 z.2) ((0 : Int32), s7)))))) else (xit (some ((0 : Int32), s)))) else (bnd (x2 + (1 : Int32)) fun v8 => some (.inl (v8, s)))))
theorem Hb_lineUp_l16_w {l : Launch} {D : va_G} {cI cZ cJ : ClassId} {ad : Nat → Nat} (x1 x2 : Int32) (s : MS) {Q : Int32 → MS → Prop} {Post : ((Int32 × MS) ⊕ (Int32 × MS)) → Prop} (hR : ∀ (r9 : Int32) (s9 : MS), Post (.inr ((r9, s9))) → Q r9 s9) (hL16 : ∀ (z2 : Int32) (s9 : MS), Post (.inl (z2, s9)) → G (XX l D cI cZ cJ ad) "SmallHarbour" b_Hb_lineUp 5 (some .boolean) 4 16 [(0, .ref (ad 0)), (1, .int x1), (2, .int z2)] [] s9 Q) (h : Ok (Hb_lineUp_l16 x1 x2 s) Post) : G (XX l D cI cZ cJ ad) "SmallHarbour" b_Hb_lineUp 5 (some .boolean) 4 16 [(0, .ref (ad 0)), (1, .int x1), (2, .int x2)] [] s Q := by
  unfold Hb_lineUp_l16 at h
  refine G_iload_n d_Hb_lineUp_16 rfl 2 rfl ?_
  refine G_aload_n d_Hb_lineUp_17 rfl 0 rfl ?_
  refine gx_Hb_stays d_Hb_lineUp_18 w_351 ?_
  refine gx_Stays_count d_Hb_lineUp_21 w_124 ?_
  refine G_icmp_ge (tgt := 170) d_Hb_lineUp_24 (by decide) (fun c => ?_) (fun c => ?_)
  · replace h := Ok_t c h
    replace h := Ok_xit h
    refine G_iconst d_Hb_lineUp_170 lt_iconst_1 ?_
    exact G_iret rfl rfl d_Hb_lineUp_171 (hR _ _ (Ok_some h))
  replace h := Ok_f c h
  refine G_aload_n d_Hb_lineUp_27 rfl 0 rfl ?_
  refine gx_Hb_stays d_Hb_lineUp_28 w_351 ?_
  refine gx_Stays_to d_Hb_lineUp_31 w_122 ?_
  refine G_iload_n d_Hb_lineUp_34 rfl 2 rfl ?_
  refine lx_17 d_Hb_lineUp_35 (Ok_ld h).1 (fun v1 e => ?_)
  replace h := (Ok_ld h).2 v1 e
  clear e
  refine G_iload_n d_Hb_lineUp_36 rfl 1 rfl ?_
  refine G_icmp_gt (tgt := 43) d_Hb_lineUp_37 (by decide) (fun c => ?_) (fun c => ?_)
  · replace h := Ok_t c h
    refine G_aload_n d_Hb_lineUp_43 rfl 0 rfl ?_
    refine gx_Hb_walk d_Hb_lineUp_44 w_352 ?_
    refine gx_Walk_size d_Hb_lineUp_47 w_147 ?_
    refine G_bipush d_Hb_lineUp_50 lt_bipush_12 ?_
    refine G_icmp_lt (tgt := 57) d_Hb_lineUp_52 (by decide) (fun c => ?_) (fun c => ?_)
    · replace h := Ok_t c h
      refine G_aload_n d_Hb_lineUp_57 rfl 0 rfl ?_
      refine gx_Hb_stays d_Hb_lineUp_58 w_351 ?_
      refine gx_Stays_from d_Hb_lineUp_61 w_120 ?_
      refine G_iload_n d_Hb_lineUp_64 rfl 2 rfl ?_
      refine lx_16 d_Hb_lineUp_65 (Ok_ld h).1 (fun v2 e => ?_)
      replace h := (Ok_ld h).2 v2 e
      clear e
      refine G_iload_n d_Hb_lineUp_66 rfl 1 rfl ?_
      refine G_max d_Hb_lineUp_67 w_557 w_506 w_15 w_507 (by decide) (Nat.le_of_ble_eq_true rfl) (G_topi (fun v3 e => ?_))
      replace h := Ok_bnd h v3 e
      clear e
      refine G_istore_n d_Hb_lineUp_70 rfl (Nat.le_of_ble_eq_true rfl) (fun x => [(3, .int x), (0, .ref (ad 0)), (1, .int x1), (2, .int x2)]) (fun _ => rfl) (fun x e => ?_)
      subst e
      refine G_aload_n d_Hb_lineUp_71 rfl 1 rfl ?_
      refine gx_Hb_walk d_Hb_lineUp_72 w_352 ?_
      refine G_iload_n d_Hb_lineUp_75 rfl 3 rfl ?_
      refine G_aload_n d_Hb_lineUp_76 rfl 1 rfl ?_
      refine gx_Hb_stays d_Hb_lineUp_77 w_351 ?_
      refine gx_Stays_berth d_Hb_lineUp_80 w_118 ?_
      refine G_iload_n d_Hb_lineUp_83 rfl 3 rfl ?_
      refine lx_15 d_Hb_lineUp_84 (Ok_ld h).1 (fun v4 e => ?_)
      replace h := (Ok_ld h).2 v4 e
      clear e
      refine G_aload_n d_Hb_lineUp_85 rfl 1 rfl ?_
      refine gx_Hb_stays d_Hb_lineUp_86 w_351 ?_
      refine gx_Stays_from d_Hb_lineUp_89 w_120 ?_
      refine G_iload_n d_Hb_lineUp_92 rfl 3 rfl ?_
      refine lx_16 d_Hb_lineUp_93 (Ok_ld h).1 (fun v5 e => ?_)
      replace h := (Ok_ld h).2 v5 e
      clear e
      refine G_aload_n d_Hb_lineUp_94 rfl 1 rfl ?_
      refine gx_Hb_stays d_Hb_lineUp_95 w_351 ?_
      refine gx_Stays_to d_Hb_lineUp_98 w_122 ?_
      refine G_iload_n d_Hb_lineUp_101 rfl 3 rfl ?_
      refine lx_17 d_Hb_lineUp_102 (Ok_ld h).1 (fun v6 e => ?_)
      replace h := (Ok_ld h).2 v6 e
      clear e
      refine G_callVv (st := []) (As := [.int x2, .int v4, .int v5, .int v6]) (b := ad 6) d_Hb_lineUp_103 mi_Walk_add w_558 6 rfl rfl mv_Walk_add rfl (Nat.le_of_ble_eq_true rfl) (by decide) (c_Walk_add x2 v4 v5 v6 s (Ok_bind h)) (fun s7 h => ?_)
      refine G_iconst d_Hb_lineUp_106 lt_iconst_0 ?_
      refine G_istore d_Hb_lineUp_107 (Nat.le_of_ble_eq_true rfl) (fun x => [(4, .int x), (3, .int v3), (0, .ref (ad 0)), (1, .int x1), (2, .int x2)]) (fun _ => rfl) (fun x e => ?_)
      subst e
      refine G_lv [2, 3, 4, 1, 0] rfl ?_
      exact G_loop (J := (fun z => G (XX l D cI cZ cJ ad) "SmallHarbour" b_Hb_lineUp 5 (some .boolean) 4 109 [(0, .ref (ad 0)), (1, .int x1), (2, .int x2), (3, .int v3), (4, .int (z.1))] [] z.2 Q)) (fun z h => Hb_lineUp_l109_w x1 x2 v3 z.1 z.2 (Post := Sum.elim (fun z => G (XX l D cI cZ cJ ad) "SmallHarbour" b_Hb_lineUp 5 (some .boolean) 4 109 [(0, .ref (ad 0)), (1, .int x1), (2, .int x2), (3, .int v3), (4, .int (z.1))] [] z.2 Q) _) hR hL16 (fun z4 s9 h => h) h) ((0 : Int32), s7) h
    replace h := Ok_f c h
    replace h := Ok_xit h
    refine G_iconst d_Hb_lineUp_55 lt_iconst_0 ?_
    exact G_iret rfl rfl d_Hb_lineUp_56 (hR _ _ (Ok_some h))
  replace h := Ok_f c h
  refine G_goto (tgt := 164) d_Hb_lineUp_40 (by decide) ?_
  refine G_iinc d_Hb_lineUp_164 2 rfl lt_iconst_1 rfl (Nat.le_of_ble_eq_true rfl) (fun x => [(2, .int x), (0, .ref (ad 0)), (1, .int x1)]) (fun _ => rfl) (fun v8 e => ?_)
  replace h := Ok_bnd h v8 e
  clear e
  refine G_goto (tgt := 16) d_Hb_lineUp_167 (by decide) ?_
  refine G_lv [1, 2, 0] rfl ?_
  exact hL16 v8 s (Ok_some h)
noncomputable def f_Hb_lineUp (a1 : Int32) (s : MS) : Option (Int32 × MS) :=
  (f_Walk_restart (s.1 2) s).bind fun s1 => loop (fun z => Hb_lineUp_l16 a1 z.1 z.2) ((0 : Int32), s1)
theorem f_Hb_lineUp_w {l : Launch} {D : va_G} {cI cZ cJ : ClassId} {ad : Nat → Nat} (a1 : Int32) (s : MS) {Q : Int32 → MS → Prop} {Post : (Int32 × MS) → Prop} (hR : ∀ (r9 : Int32) (s9 : MS), Post ((r9, s9)) → Q r9 s9) (h : Ok (f_Hb_lineUp a1 s) Post) : G (XX l D cI cZ cJ ad) "SmallHarbour" b_Hb_lineUp 5 (some .boolean) 4 0 [(0, .ref (ad 0)), (1, .int a1)] [] s Q := by
  unfold f_Hb_lineUp at h
  refine G_aload_n d_Hb_lineUp_0 rfl 0 rfl ?_
  refine gx_Hb_walk d_Hb_lineUp_1 w_352 ?_
  refine G_aload_n d_Hb_lineUp_4 rfl 0 rfl ?_
  refine gx_Hb_berths d_Hb_lineUp_5 w_348 ?_
  refine gx_Berths_count d_Hb_lineUp_8 w_50 ?_
  refine G_callVv (st := []) (As := [.int (s.1 2)]) (b := ad 6) d_Hb_lineUp_11 mi_Walk_restart w_551 6 rfl rfl mv_Walk_restart rfl (Nat.le_of_ble_eq_true rfl) (by decide) (c_Walk_restart (s.1 2) s (Ok_bind h)) (fun s1 h => ?_)
  refine G_iconst d_Hb_lineUp_14 lt_iconst_0 ?_
  refine G_istore_n d_Hb_lineUp_15 rfl (Nat.le_of_ble_eq_true rfl) (fun x => [(2, .int x), (0, .ref (ad 0)), (1, .int a1)]) (fun _ => rfl) (fun x e => ?_)
  subst e
  refine G_lv [1, 2, 0] rfl ?_
  exact G_loop (J := (fun z => G (XX l D cI cZ cJ ad) "SmallHarbour" b_Hb_lineUp 5 (some .boolean) 4 16 [(0, .ref (ad 0)), (1, .int a1), (2, .int (z.1))] [] z.2 Q)) (fun z h => Hb_lineUp_l16_w a1 z.1 z.2 (Post := Sum.elim (fun z => G (XX l D cI cZ cJ ad) "SmallHarbour" b_Hb_lineUp 5 (some .boolean) 4 16 [(0, .ref (ad 0)), (1, .int a1), (2, .int (z.1))] [] z.2 Q) _) hR (fun z2 s9 h => h) h) ((0 : Int32), s1) h
theorem c_Hb_lineUp {l : Launch} {D : va_G} {cI cZ cJ : ClassId} {ad : Nat → Nat} (a1 : Int32) (s : MS) {P : Int32 → MS → Prop} (h : Ok2 (f_Hb_lineUp a1 s) P) : Ct (XX l D cI cZ cJ ad) y_Hb_lineUp b_Hb_lineUp 5 (some .boolean) 4 [.ref (ad 0), .int a1] s (P) :=
  Ct.of mi_Hb_lineUp (Nat.le_of_ble_eq_true rfl) (f_Hb_lineUp_w a1 s (Post := fun q => P q.1 q.2) (fun _ _ h => h) (Ok2_ok h))
-- Walk_isFound
noncomputable def f_Walk_isFound (s : MS) : Option Int32 :=
  if (s.1 8) = (13 : Int32) then (some (0 : Int32)) else (some (1 : Int32))
theorem f_Walk_isFound_w {l : Launch} {D : va_G} {cI cZ cJ : ClassId} {ad : Nat → Nat} (s : MS) {Q : Int32 → MS → Prop} {Post : Int32 → Prop} (hR : ∀ (r9 : Int32), Post (r9) → Q r9 s) (h : Ok (f_Walk_isFound s) Post) : G (XX l D cI cZ cJ ad) "SmallHarbour$Walk" b_Walk_isFound 1 (some .boolean) 0 0 [(0, .ref (ad 6))] [] s Q := by
  unfold f_Walk_isFound at h
  refine G_aload_n d_Walk_isFound_0 rfl 0 rfl ?_
  refine gx_Walk_fewest d_Walk_isFound_1 w_156 ?_
  refine G_bipush d_Walk_isFound_4 lt_bipush_13 ?_
  refine G_icmp_eq (tgt := 13) d_Walk_isFound_6 (by decide) (fun c => ?_) (fun c => ?_)
  · replace h := Ok_t c h
    refine G_iconst d_Walk_isFound_13 lt_iconst_0 ?_
    exact G_iret rfl rfl d_Walk_isFound_14 (hR _ (Ok_some h))
  replace h := Ok_f c h
  refine G_iconst d_Walk_isFound_9 lt_iconst_1 ?_
  refine G_goto (tgt := 14) d_Walk_isFound_10 (by decide) ?_
  exact G_iret rfl rfl d_Walk_isFound_14 (hR _ (Ok_some h))
theorem c_Walk_isFound {l : Launch} {D : va_G} {cI cZ cJ : ClassId} {ad : Nat → Nat} (s : MS) {P : Int32 → Prop} (h : Ok (f_Walk_isFound  s) P) : Ct (XX l D cI cZ cJ ad) y_Walk_isFound b_Walk_isFound 1 (some .boolean) 0 [.ref (ad 6)] s (fun r9 s9 => s9 = s ∧ P r9) :=
  Ct.of mi_Walk_isFound (Nat.le_of_ble_eq_true rfl) (f_Walk_isFound_w  s (fun _ h => ⟨rfl, h⟩) h)
-- Walk_isSpent
noncomputable def f_Walk_isSpent (s : MS) : Option Int32 :=
  if (s.1 9) ≤ (50000 : Int32) then (some (0 : Int32)) else (some (1 : Int32))
theorem f_Walk_isSpent_w {l : Launch} {D : va_G} {cI cZ cJ : ClassId} {ad : Nat → Nat} (s : MS) {Q : Int32 → MS → Prop} {Post : Int32 → Prop} (hR : ∀ (r9 : Int32), Post (r9) → Q r9 s) (h : Ok (f_Walk_isSpent s) Post) : G (XX l D cI cZ cJ ad) "SmallHarbour$Walk" b_Walk_isSpent 1 (some .boolean) 0 0 [(0, .ref (ad 6))] [] s Q := by
  unfold f_Walk_isSpent at h
  refine G_aload_n d_Walk_isSpent_0 rfl 0 rfl ?_
  refine gx_Walk_tries d_Walk_isSpent_1 w_157 ?_
  refine G_ldc d_Walk_isSpent_4 w_581 ?_
  refine G_icmp_le (tgt := 13) d_Walk_isSpent_6 (by decide) (fun c => ?_) (fun c => ?_)
  · replace h := Ok_t c h
    refine G_iconst d_Walk_isSpent_13 lt_iconst_0 ?_
    exact G_iret rfl rfl d_Walk_isSpent_14 (hR _ (Ok_some h))
  replace h := Ok_f c h
  refine G_iconst d_Walk_isSpent_9 lt_iconst_1 ?_
  refine G_goto (tgt := 14) d_Walk_isSpent_10 (by decide) ?_
  exact G_iret rfl rfl d_Walk_isSpent_14 (hR _ (Ok_some h))
theorem c_Walk_isSpent {l : Launch} {D : va_G} {cI cZ cJ : ClassId} {ad : Nat → Nat} (s : MS) {P : Int32 → Prop} (h : Ok (f_Walk_isSpent  s) P) : Ct (XX l D cI cZ cJ ad) y_Walk_isSpent b_Walk_isSpent 1 (some .boolean) 0 [.ref (ad 6)] s (fun r9 s9 => s9 = s ∧ P r9) :=
  Ct.of mi_Walk_isSpent (Nat.le_of_ble_eq_true rfl) (f_Walk_isSpent_w  s (fun _ h => ⟨rfl, h⟩) h)
-- Walk_movedFromAhead
noncomputable def Walk_movedFromAhead_l4 (x1 : Int32) (s : MS) (x2 x3 : Int32) : Option ((Int32 × Int32) ⊕ Int32) :=
  if (s.1 6) ≤ x3 then (xit (some x2)) else ((f_Walk_isMoved x3 s).bind fun v1 => if v1 = 0 then (bnd (x3 + (1 : Int32)) fun v2 => some (.inl (x2, v2))) else (chk (inb x3 12) (bnd (s.2 21 x3.toNatClampNeg) fun v3 => if x1 ≤ v3 then (bnd (x3 + (1 : Int32)) fun v4 => some (.inl (x2, v4))) else (bnd (x2 + (1 : Int32)) fun v5 => bnd (x3 + (1 : Int32)) fun v6 => some (.inl (v5, v6))))))
theorem Walk_movedFromAhead_l4_w {l : Launch} {D : va_G} {cI cZ cJ : ClassId} {ad : Nat → Nat} (x1 x2 x3 : Int32) (s : MS) {Q : Int32 → MS → Prop} {Post : ((Int32 × Int32) ⊕ Int32) → Prop} (hR : ∀ (r9 : Int32), Post (.inr (r9)) → Q r9 s) (hL4 : ∀ (z2 z3 : Int32) , Post (.inl (z2, z3)) → G (XX l D cI cZ cJ ad) "SmallHarbour$Walk" b_Walk_movedFromAhead 4 (some .int) 1 4 [(0, .ref (ad 6)), (1, .int x1), (2, .int z2), (3, .int z3)] [] s Q) (h : Ok (Walk_movedFromAhead_l4 x1 s x2 x3) Post) : G (XX l D cI cZ cJ ad) "SmallHarbour$Walk" b_Walk_movedFromAhead 4 (some .int) 1 4 [(0, .ref (ad 6)), (1, .int x1), (2, .int x2), (3, .int x3)] [] s Q := by
  unfold Walk_movedFromAhead_l4 at h
  refine G_iload_n d_Walk_movedFromAhead_4 rfl 3 rfl ?_
  refine G_aload_n d_Walk_movedFromAhead_5 rfl 0 rfl ?_
  refine gx_Walk_size d_Walk_movedFromAhead_6 w_146 ?_
  refine G_icmp_ge (tgt := 39) d_Walk_movedFromAhead_9 (by decide) (fun c => ?_) (fun c => ?_)
  · replace h := Ok_t c h
    replace h := Ok_xit h
    refine G_iload_n d_Walk_movedFromAhead_39 rfl 2 rfl ?_
    exact G_iret rfl (vp_nar_int _) d_Walk_movedFromAhead_40 (hR _ (Ok_some h))
  replace h := Ok_f c h
  refine G_aload_n d_Walk_movedFromAhead_12 rfl 0 rfl ?_
  refine G_iload_n d_Walk_movedFromAhead_13 rfl 3 rfl ?_
  refine G_callVp (st := []) (As := [.int x3]) (b := ad 6) d_Walk_movedFromAhead_14 mi_Walk_isMoved w_591 6 rfl rfl mv_Walk_isMoved rfl (Nat.le_of_ble_eq_true rfl) (by decide) (c_Walk_isMoved x3 s (Ok_bind h)) (fun v1 h hnv1 => ?_)
  refine G_if_eq (tgt := 33) d_Walk_movedFromAhead_17 (by decide) (fun c => ?_) (fun c => ?_)
  · replace h := Ok_t c h
    refine G_iinc d_Walk_movedFromAhead_33 3 rfl lt_iconst_1 rfl (Nat.le_of_ble_eq_true rfl) (fun x => [(3, .int x), (0, .ref (ad 6)), (1, .int x1), (2, .int x2)]) (fun _ => rfl) (fun v2 e => ?_)
    replace h := Ok_bnd h v2 e
    clear e
    refine G_goto (tgt := 4) d_Walk_movedFromAhead_36 (by decide) ?_
    refine G_lv [1, 2, 3, 0] rfl ?_
    exact hL4 x2 v2 (Ok_some h)
  replace h := Ok_f c h
  refine G_aload_n d_Walk_movedFromAhead_20 rfl 0 rfl ?_
  refine gx_Walk_from d_Walk_movedFromAhead_21 w_149 ?_
  refine G_iload_n d_Walk_movedFromAhead_24 rfl 3 rfl ?_
  refine lx_21 d_Walk_movedFromAhead_25 (Ok_ld h).1 (fun v3 e => ?_)
  replace h := (Ok_ld h).2 v3 e
  clear e
  refine G_iload_n d_Walk_movedFromAhead_26 rfl 1 rfl ?_
  refine G_icmp_ge (tgt := 33) d_Walk_movedFromAhead_27 (by decide) (fun c => ?_) (fun c => ?_)
  · replace h := Ok_t c h
    refine G_iinc d_Walk_movedFromAhead_33 3 rfl lt_iconst_1 rfl (Nat.le_of_ble_eq_true rfl) (fun x => [(3, .int x), (0, .ref (ad 6)), (1, .int x1), (2, .int x2)]) (fun _ => rfl) (fun v4 e => ?_)
    replace h := Ok_bnd h v4 e
    clear e
    refine G_goto (tgt := 4) d_Walk_movedFromAhead_36 (by decide) ?_
    refine G_lv [1, 2, 3, 0] rfl ?_
    exact hL4 x2 v4 (Ok_some h)
  replace h := Ok_f c h
  refine G_iinc d_Walk_movedFromAhead_30 2 rfl lt_iconst_1 rfl (Nat.le_of_ble_eq_true rfl) (fun x => [(2, .int x), (0, .ref (ad 6)), (1, .int x1), (3, .int x3)]) (fun _ => rfl) (fun v5 e => ?_)
  replace h := Ok_bnd h v5 e
  clear e
  refine G_iinc d_Walk_movedFromAhead_33 3 rfl lt_iconst_1 rfl (Nat.le_of_ble_eq_true rfl) (fun x => [(3, .int x), (2, .int v5), (0, .ref (ad 6)), (1, .int x1)]) (fun _ => rfl) (fun v6 e => ?_)
  replace h := Ok_bnd h v6 e
  clear e
  refine G_goto (tgt := 4) d_Walk_movedFromAhead_36 (by decide) ?_
  refine G_lv [2, 3, 1, 0] rfl ?_
  exact hL4 v5 v6 (Ok_some h)
noncomputable def f_Walk_movedFromAhead (a1 : Int32) (s : MS) : Option Int32 :=
  loop (fun z => Walk_movedFromAhead_l4 a1 s z.1 z.2) ((0 : Int32), (0 : Int32))
theorem f_Walk_movedFromAhead_w {l : Launch} {D : va_G} {cI cZ cJ : ClassId} {ad : Nat → Nat} (a1 : Int32) (s : MS) {Q : Int32 → MS → Prop} {Post : Int32 → Prop} (hR : ∀ (r9 : Int32), Post (r9) → Q r9 s) (h : Ok (f_Walk_movedFromAhead a1 s) Post) : G (XX l D cI cZ cJ ad) "SmallHarbour$Walk" b_Walk_movedFromAhead 4 (some .int) 1 0 [(0, .ref (ad 6)), (1, .int a1)] [] s Q := by
  unfold f_Walk_movedFromAhead at h
  refine G_iconst d_Walk_movedFromAhead_0 lt_iconst_0 ?_
  refine G_istore_n d_Walk_movedFromAhead_1 rfl (Nat.le_of_ble_eq_true rfl) (fun x => [(2, .int x), (0, .ref (ad 6)), (1, .int a1)]) (fun _ => rfl) (fun x e => ?_)
  subst e
  refine G_iconst d_Walk_movedFromAhead_2 lt_iconst_0 ?_
  refine G_istore_n d_Walk_movedFromAhead_3 rfl (Nat.le_of_ble_eq_true rfl) (fun x => [(3, .int x), (2, .int (0 : Int32)), (0, .ref (ad 6)), (1, .int a1)]) (fun _ => rfl) (fun x e => ?_)
  subst e
  refine G_lv [2, 3, 1, 0] rfl ?_
  exact G_loop (J := (fun z => G (XX l D cI cZ cJ ad) "SmallHarbour$Walk" b_Walk_movedFromAhead 4 (some .int) 1 4 [(0, .ref (ad 6)), (1, .int a1), (2, .int (z.1)), (3, .int (z.2))] [] s Q)) (fun z h => Walk_movedFromAhead_l4_w a1 z.1 z.2 s (Post := Sum.elim (fun z => G (XX l D cI cZ cJ ad) "SmallHarbour$Walk" b_Walk_movedFromAhead 4 (some .int) 1 4 [(0, .ref (ad 6)), (1, .int a1), (2, .int (z.1)), (3, .int (z.2))] [] s Q) _) hR (fun z2 z3 h => h) h) ((0 : Int32), (0 : Int32)) h
theorem c_Walk_movedFromAhead {l : Launch} {D : va_G} {cI cZ cJ : ClassId} {ad : Nat → Nat} (a1 : Int32) (s : MS) {P : Int32 → Prop} (h : Ok (f_Walk_movedFromAhead a1 s) P) : Ct (XX l D cI cZ cJ ad) y_Walk_movedFromAhead b_Walk_movedFromAhead 4 (some .int) 1 [.ref (ad 6), .int a1] s (fun r9 s9 => s9 = s ∧ P r9) :=
  Ct.of mi_Walk_movedFromAhead (Nat.le_of_ble_eq_true rfl) (f_Walk_movedFromAhead_w a1 s (fun _ h => ⟨rfl, h⟩) h)
