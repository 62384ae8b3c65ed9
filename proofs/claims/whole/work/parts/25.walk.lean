-- Stays_ofBoat
noncomputable def Stays_ofBoat_l3 (x1 x2 x3 : Int32) (s : MS) (x4 : Int32) : Option ((Int32) ⊕ Int32) :=
  if (s.1 5) ≤ x4 then (xit (some (-1 : Int32))) else (chk (inb x4 40) (bnd (s.2 14 x4.toNatClampNeg) fun v1 => if v1 = x1 then (chk (inb x4 40) (bnd (s.2 16 x4.toNatClampNeg) fun v3 => if x3 ≤ v3 then (bnd (x4 + (1 : Int32)) fun v4 => some (.inl v4)) else (chk (inb x4 40) (bnd (s.2 17 x4.toNatClampNeg) fun v5 => if v5 ≤ x2 then (bnd (x4 + (1 : Int32)) fun v6 => some (.inl v6)) else (xit (some x4)))))) else (bnd (x4 + (1 : Int32)) fun v2 => some (.inl v2))))
theorem Stays_ofBoat_l3_w {l : Launch} {D : va_G} {cI cZ cJ : ClassId} {ad : Nat → Nat} (x1 x2 x3 x4 : Int32) (s : MS) {Q : Int32 → MS → Prop} {Post : ((Int32) ⊕ Int32) → Prop} (hR : ∀ (r9 : Int32), Post (.inr (r9)) → Q r9 s) (hL3 : ∀ (z4 : Int32) , Post (.inl z4) → G (XX l D cI cZ cJ ad) "SmallHarbour$Stays" b_Stays_ofBoat 5 (some .int) 0 3 [(0, .ref (ad 5)), (1, .int x1), (2, .int x2), (3, .int x3), (4, .int z4)] [] s Q) (h : Ok (Stays_ofBoat_l3 x1 x2 x3 s x4) Post) : G (XX l D cI cZ cJ ad) "SmallHarbour$Stays" b_Stays_ofBoat 5 (some .int) 0 3 [(0, .ref (ad 5)), (1, .int x1), (2, .int x2), (3, .int x3), (4, .int x4)] [] s Q := by
  unfold Stays_ofBoat_l3 at h
  refine G_iload d_Stays_ofBoat_3 4 rfl ?_
  refine G_aload_n d_Stays_ofBoat_5 rfl 0 rfl ?_
  refine gx_Stays_count d_Stays_ofBoat_6 w_123 ?_
  refine G_icmp_ge (tgt := 54) d_Stays_ofBoat_9 (by decide) (fun c => ?_) (fun c => ?_)
  · replace h := Ok_t c h
    replace h := Ok_xit h
    refine G_iconst d_Stays_ofBoat_54 lt_iconst_m1 ?_
    replace h := Ok_some h
    exact G_iret rfl (vp_nar_int _) d_Stays_ofBoat_55 (hR _ h)
  replace h := Ok_f c h
  refine G_aload_n d_Stays_ofBoat_12 rfl 0 rfl ?_
  refine gx_Stays_boat d_Stays_ofBoat_13 w_115 ?_
  refine G_iload d_Stays_ofBoat_16 4 rfl ?_
  refine lx_14 d_Stays_ofBoat_18 (Ok_ld h).1 (fun v1 e => ?_)
  replace h := (Ok_ld h).2 v1 e
  clear e
  refine G_iload_n d_Stays_ofBoat_19 rfl 1 rfl ?_
  refine G_icmp_ne (tgt := 48) d_Stays_ofBoat_20 (by decide) (fun c => ?_) (fun c => ?_)
  · replace h := Ok_f c h
    refine G_iinc d_Stays_ofBoat_48 4 rfl lt_iconst_1 rfl (Nat.le_of_ble_eq_true rfl) (fun x => [(4, .int x), (0, .ref (ad 5)), (1, .int x1), (2, .int x2), (3, .int x3)]) (fun _ => rfl) (fun v2 e => ?_)
    replace h := Ok_bnd h v2 e
    clear e
    refine G_goto (tgt := 3) d_Stays_ofBoat_51 (by decide) ?_
    refine G_lv [1, 2, 3, 4, 0] rfl ?_
    replace h := Ok_some h
    exact hL3 v2 h
  replace h := Ok_t c h
  refine G_aload_n d_Stays_ofBoat_23 rfl 0 rfl ?_
  refine gx_Stays_from d_Stays_ofBoat_24 w_119 ?_
  refine G_iload d_Stays_ofBoat_27 4 rfl ?_
  refine lx_16 d_Stays_ofBoat_29 (Ok_ld h).1 (fun v3 e => ?_)
  replace h := (Ok_ld h).2 v3 e
  clear e
  refine G_iload_n d_Stays_ofBoat_30 rfl 3 rfl ?_
  refine G_icmp_ge (tgt := 48) d_Stays_ofBoat_31 (by decide) (fun c => ?_) (fun c => ?_)
  · replace h := Ok_t c h
    refine G_iinc d_Stays_ofBoat_48 4 rfl lt_iconst_1 rfl (Nat.le_of_ble_eq_true rfl) (fun x => [(4, .int x), (0, .ref (ad 5)), (1, .int x1), (2, .int x2), (3, .int x3)]) (fun _ => rfl) (fun v4 e => ?_)
    replace h := Ok_bnd h v4 e
    clear e
    refine G_goto (tgt := 3) d_Stays_ofBoat_51 (by decide) ?_
    refine G_lv [1, 2, 3, 4, 0] rfl ?_
    replace h := Ok_some h
    exact hL3 v4 h
  replace h := Ok_f c h
  refine G_iload_n d_Stays_ofBoat_34 rfl 2 rfl ?_
  refine G_aload_n d_Stays_ofBoat_35 rfl 0 rfl ?_
  refine gx_Stays_to d_Stays_ofBoat_36 w_121 ?_
  refine G_iload d_Stays_ofBoat_39 4 rfl ?_
  refine lx_17 d_Stays_ofBoat_41 (Ok_ld h).1 (fun v5 e => ?_)
  replace h := (Ok_ld h).2 v5 e
  clear e
  refine G_icmp_ge (tgt := 48) d_Stays_ofBoat_42 (by decide) (fun c => ?_) (fun c => ?_)
  · replace h := Ok_t c h
    refine G_iinc d_Stays_ofBoat_48 4 rfl lt_iconst_1 rfl (Nat.le_of_ble_eq_true rfl) (fun x => [(4, .int x), (0, .ref (ad 5)), (1, .int x1), (2, .int x2), (3, .int x3)]) (fun _ => rfl) (fun v6 e => ?_)
    replace h := Ok_bnd h v6 e
    clear e
    refine G_goto (tgt := 3) d_Stays_ofBoat_51 (by decide) ?_
    refine G_lv [1, 2, 3, 4, 0] rfl ?_
    replace h := Ok_some h
    exact hL3 v6 h
  replace h := Ok_f c h
  replace h := Ok_xit h
  refine G_iload d_Stays_ofBoat_45 4 rfl ?_
  replace h := Ok_some h
  exact G_iret rfl (vp_nar_int _) d_Stays_ofBoat_47 (hR _ h)
noncomputable def f_Stays_ofBoat (a1 a2 a3 : Int32) (s : MS) : Option Int32 :=
  loop (fun z => Stays_ofBoat_l3 a1 a2 a3 s z) (0 : Int32)
theorem f_Stays_ofBoat_w {l : Launch} {D : va_G} {cI cZ cJ : ClassId} {ad : Nat → Nat} (a1 a2 a3 : Int32) (s : MS) {Q : Int32 → MS → Prop} {Post : Int32 → Prop} (hR : ∀ (r9 : Int32), Post (r9) → Q r9 s) (h : Ok (f_Stays_ofBoat a1 a2 a3 s) Post) : G (XX l D cI cZ cJ ad) "SmallHarbour$Stays" b_Stays_ofBoat 5 (some .int) 0 0 [(0, .ref (ad 5)), (1, .int a1), (2, .int a2), (3, .int a3)] [] s Q := by
  unfold f_Stays_ofBoat at h
  refine G_iconst d_Stays_ofBoat_0 lt_iconst_0 ?_
  refine G_istore d_Stays_ofBoat_1 (Nat.le_of_ble_eq_true rfl) (fun x => [(4, .int x), (0, .ref (ad 5)), (1, .int a1), (2, .int a2), (3, .int a3)]) (fun _ => rfl) (fun x e => ?_)
  subst e
  refine G_lv [1, 2, 3, 4, 0] rfl ?_
  refine G_loop (J := (fun z => G (XX l D cI cZ cJ ad) "SmallHarbour$Stays" b_Stays_ofBoat 5 (some .int) 0 3 [(0, .ref (ad 5)), (1, .int a1), (2, .int a2), (3, .int a3), (4, .int z)] [] s Q)) (fun z h => ?_) (0 : Int32) h
  refine Stays_ofBoat_l3_w a1 a2 a3 z s ?_ ?_ h
  · exact hR
  · exact (fun z4 h => h)
theorem c_Stays_ofBoat {l : Launch} {D : va_G} {cI cZ cJ : ClassId} {ad : Nat → Nat} (a1 a2 a3 : Int32) (s : MS) {P : Int32 → Prop} (h : Ok (f_Stays_ofBoat a1 a2 a3 s) P) : Ct (XX l D cI cZ cJ ad) y_Stays_ofBoat b_Stays_ofBoat 5 (some .int) 0 [.ref (ad 5), .int a1, .int a2, .int a3] s (fun r9 s9 => s9 = s ∧ P r9) :=
  Ct.of mi_Stays_ofBoat (Nat.le_of_ble_eq_true rfl) (f_Stays_ofBoat_w a1 a2 a3 s (fun _ h => ⟨rfl, h⟩) h)
-- Hb_berthOf
noncomputable def f_Hb_berthOf (a1 a2 : Int32) (s : MS) : Option Int32 :=
  (f_Hb_isDay a2).bind fun v1 => if v1 = 0 then (some (-1 : Int32)) else (chk (inb a1 30) (bnd (s.2 10 a1.toNatClampNeg) fun v2 => if v2 = (-1 : Int32) then ((f_Stays_ofBoat a1 a2 (a2 + (1 : Int32)) s).bind fun v3 => if v3 = (-1 : Int32) then (some (-1 : Int32)) else (chk (inb v3 40) (bnd (s.2 15 v3.toNatClampNeg) fun v4 => some v4))) else ((f_Spans_find a1 a2 s).bind fun v5 => if v5 = (-1 : Int32) then (some v2) else (some (-1 : Int32)))))
theorem f_Hb_berthOf_w {l : Launch} {D : va_G} {cI cZ cJ : ClassId} {ad : Nat → Nat} (a1 a2 : Int32) (s : MS) {Q : Int32 → MS → Prop} {Post : Int32 → Prop} (hR : ∀ (r9 : Int32), Post (r9) → Q r9 s) (h : Ok (f_Hb_berthOf a1 a2 s) Post) : G (XX l D cI cZ cJ ad) "SmallHarbour" b_Hb_berthOf 5 (some .int) 1 0 [(0, .ref (ad 0)), (1, .int a1), (2, .int a2)] [] s Q := by
  unfold f_Hb_berthOf at h
  refine G_iload_n d_Hb_berthOf_0 rfl 2 rfl ?_
  refine G_callSp (st := []) (As := [.int a2]) d_Hb_berthOf_1 mi_Hb_isDay w_473 w_474 rfl (Nat.le_of_ble_eq_true rfl) (by decide) (c_Hb_isDay a2 s (Ok_bind h)) (fun v1 h hnv1 => ?_)
  refine G_if_ne (tgt := 9) d_Hb_berthOf_4 (by decide) (fun c => ?_) (fun c => ?_)
  · replace h := Ok_f c h
    refine G_aload_n d_Hb_berthOf_9 rfl 0 rfl ?_
    refine gx_Hb_boats d_Hb_berthOf_10 w_349 ?_
    refine gx_Boats_home d_Hb_berthOf_13 w_73 ?_
    refine G_iload_n d_Hb_berthOf_16 rfl 1 rfl ?_
    refine lx_10 d_Hb_berthOf_17 (Ok_ld h).1 (fun v2 e => ?_)
    replace h := (Ok_ld h).2 v2 e
    clear e
    refine G_istore_n d_Hb_berthOf_18 rfl (Nat.le_of_ble_eq_true rfl) (fun x => [(3, .int x), (0, .ref (ad 0)), (1, .int a1), (2, .int a2)]) (fun _ => rfl) (fun x e => ?_)
    subst e
    refine G_iload_n d_Hb_berthOf_19 rfl 0 rfl ?_
    refine G_iconst d_Hb_berthOf_20 lt_iconst_m1 ?_
    refine G_icmp_eq (tgt := 43) d_Hb_berthOf_21 (by decide) (fun c => ?_) (fun c => ?_)
    · replace h := Ok_t c h
      refine G_aload_n d_Hb_berthOf_43 rfl 1 rfl ?_
      refine gx_Hb_stays d_Hb_berthOf_44 w_351 ?_
      refine G_iload_n d_Hb_berthOf_47 rfl 2 rfl ?_
      refine G_iload_n d_Hb_berthOf_48 rfl 3 rfl ?_
      refine G_iload_n d_Hb_berthOf_49 rfl 3 rfl ?_
      refine G_iconst d_Hb_berthOf_50 lt_iconst_1 ?_
      refine G_iadd d_Hb_berthOf_51 ?_
      refine G_callVp (st := []) (As := [.int a1, .int a2, .int (a2 + (1 : Int32))]) (b := ad 5) d_Hb_berthOf_52 mi_Stays_ofBoat w_480 5 rfl rfl mv_Stays_ofBoat rfl (Nat.le_of_ble_eq_true rfl) (by decide) (c_Stays_ofBoat a1 a2 (a2 + (1 : Int32)) s (Ok_bind h)) (fun v3 h hnv3 => ?_)
      refine G_istore d_Hb_berthOf_55 (Nat.le_of_ble_eq_true rfl) (fun x => [(4, .int x), (3, .int v2), (0, .ref (ad 0)), (1, .int a1), (2, .int a2)]) (fun _ => rfl) (fun x e => ?_)
      subst e
      refine G_iload d_Hb_berthOf_57 0 rfl ?_
      refine G_iconst d_Hb_berthOf_59 lt_iconst_m1 ?_
      refine G_icmp_ne (tgt := 67) d_Hb_berthOf_60 (by decide) (fun c => ?_) (fun c => ?_)
      · replace h := Ok_f c h
        refine G_aload_n d_Hb_berthOf_67 rfl 2 rfl ?_
        refine gx_Hb_stays d_Hb_berthOf_68 w_351 ?_
        refine gx_Stays_berth d_Hb_berthOf_71 w_118 ?_
        refine G_iload d_Hb_berthOf_74 0 rfl ?_
        refine lx_15 d_Hb_berthOf_76 (Ok_ld h).1 (fun v4 e => ?_)
        replace h := (Ok_ld h).2 v4 e
        clear e
        replace h := Ok_some h
        exact G_iret rfl (vp_nar_int _) d_Hb_berthOf_77 (hR _ h)
      replace h := Ok_t c h
      refine G_iconst d_Hb_berthOf_63 lt_iconst_m1 ?_
      refine G_goto (tgt := 77) d_Hb_berthOf_64 (by decide) ?_
      replace h := Ok_some h
      exact G_iret rfl (vp_nar_int _) d_Hb_berthOf_77 (hR _ h)
    replace h := Ok_f c h
    refine G_aload_n d_Hb_berthOf_24 rfl 1 rfl ?_
    refine gx_Hb_spans d_Hb_berthOf_25 w_350 ?_
    refine G_iload_n d_Hb_berthOf_28 rfl 2 rfl ?_
    refine G_iload_n d_Hb_berthOf_29 rfl 3 rfl ?_
    refine G_callVp (st := []) (As := [.int a1, .int a2]) (b := ad 4) d_Hb_berthOf_30 mi_Spans_find w_476 4 rfl rfl mv_Spans_find rfl (Nat.le_of_ble_eq_true rfl) (by decide) (c_Spans_find a1 a2 s (Ok_bind h)) (fun v5 h hnv5 => ?_)
    refine G_iconst d_Hb_berthOf_33 lt_iconst_m1 ?_
    refine G_icmp_ne (tgt := 41) d_Hb_berthOf_34 (by decide) (fun c => ?_) (fun c => ?_)
    · replace h := Ok_f c h
      refine G_iconst d_Hb_berthOf_41 lt_iconst_m1 ?_
      replace h := Ok_some h
      exact G_iret rfl (vp_nar_int _) d_Hb_berthOf_42 (hR _ h)
    replace h := Ok_t c h
    refine G_iload_n d_Hb_berthOf_37 rfl 0 rfl ?_
    refine G_goto (tgt := 42) d_Hb_berthOf_38 (by decide) ?_
    replace h := Ok_some h
    exact G_iret rfl (vp_nar_int _) d_Hb_berthOf_42 (hR _ h)
  replace h := Ok_t c h
  refine G_iconst d_Hb_berthOf_7 lt_iconst_m1 ?_
  replace h := Ok_some h
  exact G_iret rfl (vp_nar_int _) d_Hb_berthOf_8 (hR _ h)
theorem c_Hb_berthOf {l : Launch} {D : va_G} {cI cZ cJ : ClassId} {ad : Nat → Nat} (a1 a2 : Int32) (s : MS) {P : Int32 → Prop} (h : Ok (f_Hb_berthOf a1 a2 s) P) : Ct (XX l D cI cZ cJ ad) y_Hb_berthOf b_Hb_berthOf 5 (some .int) 1 [.ref (ad 0), .int a1, .int a2] s (fun r9 s9 => s9 = s ∧ P r9) :=
  Ct.of mi_Hb_berthOf (Nat.le_of_ble_eq_true rfl) (f_Hb_berthOf_w a1 a2 s (fun _ h => ⟨rfl, h⟩) h)
-- Rules_inForce
noncomputable def Rules_inForce_l4 (x1 : Int32) (s : MS) (x2 x3 : Int32) : Option ((Int32 × Int32) ⊕ Int32) :=
  if (s.1 28) ≤ x3 then (xit (some x2)) else (chk (inb x3 8) (bnd (s.2 39 x3.toNatClampNeg) fun v1 => if x1 < v1 then (bnd (x3 + (1 : Int32)) fun v2 => some (.inl (x2, v2))) else (if x2 = (-1 : Int32) then (bnd (x3 + (1 : Int32)) fun v3 => some (.inl (x3, v3))) else (chk (inb x3 8) (bnd (s.2 39 x3.toNatClampNeg) fun v4 => chk (inb x2 8) (bnd (s.2 39 x2.toNatClampNeg) fun v5 => if v4 < v5 then (bnd (x3 + (1 : Int32)) fun v6 => some (.inl (x2, v6))) else (bnd (x3 + (1 : Int32)) fun v7 => some (.inl (x3, v7)))))))))
theorem Rules_inForce_l4_w {l : Launch} {D : va_G} {cI cZ cJ : ClassId} {ad : Nat → Nat} (x1 x2 x3 : Int32) (s : MS) {Q : Int32 → MS → Prop} {Post : ((Int32 × Int32) ⊕ Int32) → Prop} (hR : ∀ (r9 : Int32), Post (.inr (r9)) → Q r9 s) (hL4 : ∀ (z2 z3 : Int32) , Post (.inl (z2, z3)) → G (XX l D cI cZ cJ ad) "SmallHarbour$Rules" b_Rules_inForce 4 (some .int) 0 4 [(0, .ref (ad 11)), (1, .int x1), (2, .int z2), (3, .int z3)] [] s Q) (h : Ok (Rules_inForce_l4 x1 s x2 x3) Post) : G (XX l D cI cZ cJ ad) "SmallHarbour$Rules" b_Rules_inForce 4 (some .int) 0 4 [(0, .ref (ad 11)), (1, .int x1), (2, .int x2), (3, .int x3)] [] s Q := by
  unfold Rules_inForce_l4 at h
  refine G_iload_n d_Rules_inForce_4 rfl 3 rfl ?_
  refine G_aload_n d_Rules_inForce_5 rfl 0 rfl ?_
  refine gx_Rules_count d_Rules_inForce_6 w_325 ?_
  refine G_icmp_ge (tgt := 50) d_Rules_inForce_9 (by decide) (fun c => ?_) (fun c => ?_)
  · replace h := Ok_t c h
    replace h := Ok_xit h
    refine G_iload_n d_Rules_inForce_50 rfl 2 rfl ?_
    replace h := Ok_some h
    exact G_iret rfl (vp_nar_int _) d_Rules_inForce_51 (hR _ h)
  replace h := Ok_f c h
  refine G_aload_n d_Rules_inForce_12 rfl 0 rfl ?_
  refine gx_Rules_from d_Rules_inForce_13 w_327 ?_
  refine G_iload_n d_Rules_inForce_16 rfl 3 rfl ?_
  refine lx_39 d_Rules_inForce_17 (Ok_ld h).1 (fun v1 e => ?_)
  replace h := (Ok_ld h).2 v1 e
  clear e
  refine G_iload_n d_Rules_inForce_18 rfl 1 rfl ?_
  refine G_icmp_gt (tgt := 44) d_Rules_inForce_19 (by decide) (fun c => ?_) (fun c => ?_)
  · replace h := Ok_t c h
    refine G_iinc d_Rules_inForce_44 3 rfl lt_iconst_1 rfl (Nat.le_of_ble_eq_true rfl) (fun x => [(3, .int x), (0, .ref (ad 11)), (1, .int x1), (2, .int x2)]) (fun _ => rfl) (fun v2 e => ?_)
    replace h := Ok_bnd h v2 e
    clear e
    refine G_goto (tgt := 4) d_Rules_inForce_47 (by decide) ?_
    refine G_lv [1, 2, 3, 0] rfl ?_
    replace h := Ok_some h
    exact hL4 x2 v2 h
  replace h := Ok_f c h
  refine G_iload_n d_Rules_inForce_22 rfl 2 rfl ?_
  refine G_iconst d_Rules_inForce_23 lt_iconst_m1 ?_
  refine G_icmp_eq (tgt := 42) d_Rules_inForce_24 (by decide) (fun c => ?_) (fun c => ?_)
  · replace h := Ok_t c h
    refine G_iload_n d_Rules_inForce_42 rfl 3 rfl ?_
    refine G_istore_n d_Rules_inForce_43 rfl (Nat.le_of_ble_eq_true rfl) (fun x => [(2, .int x), (0, .ref (ad 11)), (1, .int x1), (3, .int x3)]) (fun _ => rfl) (fun x e => ?_)
    subst e
    refine G_iinc d_Rules_inForce_44 3 rfl lt_iconst_1 rfl (Nat.le_of_ble_eq_true rfl) (fun x => [(3, .int x), (2, .int x3), (0, .ref (ad 11)), (1, .int x1)]) (fun _ => rfl) (fun v3 e => ?_)
    replace h := Ok_bnd h v3 e
    clear e
    refine G_goto (tgt := 4) d_Rules_inForce_47 (by decide) ?_
    refine G_lv [2, 3, 1, 0] rfl ?_
    replace h := Ok_some h
    exact hL4 x3 v3 h
  replace h := Ok_f c h
  refine G_aload_n d_Rules_inForce_27 rfl 0 rfl ?_
  refine gx_Rules_from d_Rules_inForce_28 w_327 ?_
  refine G_iload_n d_Rules_inForce_31 rfl 3 rfl ?_
  refine lx_39 d_Rules_inForce_32 (Ok_ld h).1 (fun v4 e => ?_)
  replace h := (Ok_ld h).2 v4 e
  clear e
  refine G_aload_n d_Rules_inForce_33 rfl 0 rfl ?_
  refine gx_Rules_from d_Rules_inForce_34 w_327 ?_
  refine G_iload_n d_Rules_inForce_37 rfl 2 rfl ?_
  refine lx_39 d_Rules_inForce_38 (Ok_ld h).1 (fun v5 e => ?_)
  replace h := (Ok_ld h).2 v5 e
  clear e
  refine G_icmp_lt (tgt := 44) d_Rules_inForce_39 (by decide) (fun c => ?_) (fun c => ?_)
  · replace h := Ok_t c h
    refine G_iinc d_Rules_inForce_44 3 rfl lt_iconst_1 rfl (Nat.le_of_ble_eq_true rfl) (fun x => [(3, .int x), (0, .ref (ad 11)), (1, .int x1), (2, .int x2)]) (fun _ => rfl) (fun v6 e => ?_)
    replace h := Ok_bnd h v6 e
    clear e
    refine G_goto (tgt := 4) d_Rules_inForce_47 (by decide) ?_
    refine G_lv [1, 2, 3, 0] rfl ?_
    replace h := Ok_some h
    exact hL4 x2 v6 h
  replace h := Ok_f c h
  refine G_iload_n d_Rules_inForce_42 rfl 3 rfl ?_
  refine G_istore_n d_Rules_inForce_43 rfl (Nat.le_of_ble_eq_true rfl) (fun x => [(2, .int x), (0, .ref (ad 11)), (1, .int x1), (3, .int x3)]) (fun _ => rfl) (fun x e => ?_)
  subst e
  refine G_iinc d_Rules_inForce_44 3 rfl lt_iconst_1 rfl (Nat.le_of_ble_eq_true rfl) (fun x => [(3, .int x), (2, .int x3), (0, .ref (ad 11)), (1, .int x1)]) (fun _ => rfl) (fun v7 e => ?_)
  replace h := Ok_bnd h v7 e
  clear e
  refine G_goto (tgt := 4) d_Rules_inForce_47 (by decide) ?_
  refine G_lv [2, 3, 1, 0] rfl ?_
  replace h := Ok_some h
  exact hL4 x3 v7 h
noncomputable def f_Rules_inForce (a1 : Int32) (s : MS) : Option Int32 :=
  loop (fun z => Rules_inForce_l4 a1 s z.1 z.2) ((-1 : Int32), (0 : Int32))
theorem f_Rules_inForce_w {l : Launch} {D : va_G} {cI cZ cJ : ClassId} {ad : Nat → Nat} (a1 : Int32) (s : MS) {Q : Int32 → MS → Prop} {Post : Int32 → Prop} (hR : ∀ (r9 : Int32), Post (r9) → Q r9 s) (h : Ok (f_Rules_inForce a1 s) Post) : G (XX l D cI cZ cJ ad) "SmallHarbour$Rules" b_Rules_inForce 4 (some .int) 0 0 [(0, .ref (ad 11)), (1, .int a1)] [] s Q := by
  unfold f_Rules_inForce at h
  refine G_iconst d_Rules_inForce_0 lt_iconst_m1 ?_
  refine G_istore_n d_Rules_inForce_1 rfl (Nat.le_of_ble_eq_true rfl) (fun x => [(2, .int x), (0, .ref (ad 11)), (1, .int a1)]) (fun _ => rfl) (fun x e => ?_)
  subst e
  refine G_iconst d_Rules_inForce_2 lt_iconst_0 ?_
  refine G_istore_n d_Rules_inForce_3 rfl (Nat.le_of_ble_eq_true rfl) (fun x => [(3, .int x), (2, .int (-1 : Int32)), (0, .ref (ad 11)), (1, .int a1)]) (fun _ => rfl) (fun x e => ?_)
  subst e
  refine G_lv [2, 3, 1, 0] rfl ?_
  refine G_loop (J := (fun z => G (XX l D cI cZ cJ ad) "SmallHarbour$Rules" b_Rules_inForce 4 (some .int) 0 4 [(0, .ref (ad 11)), (1, .int a1), (2, .int (z.1)), (3, .int (z.2))] [] s Q)) (fun z h => ?_) ((-1 : Int32), (0 : Int32)) h
  refine Rules_inForce_l4_w a1 z.1 z.2 s ?_ ?_ h
  · exact hR
  · exact (fun z2 z3 h => h)
theorem c_Rules_inForce {l : Launch} {D : va_G} {cI cZ cJ : ClassId} {ad : Nat → Nat} (a1 : Int32) (s : MS) {P : Int32 → Prop} (h : Ok (f_Rules_inForce a1 s) P) : Ct (XX l D cI cZ cJ ad) y_Rules_inForce b_Rules_inForce 4 (some .int) 0 [.ref (ad 11), .int a1] s (fun r9 s9 => s9 = s ∧ P r9) :=
  Ct.of mi_Rules_inForce (Nat.le_of_ble_eq_true rfl) (f_Rules_inForce_w a1 s (fun _ h => ⟨rfl, h⟩) h)
-- Rules_pop
noncomputable def f_Rules_pop (s : MS) : Option (Int32 × MS) :=
  if 0 < (s.1 29) then (bnd (pf s 29 ((s.1 29) - (1 : Int32))) fun s1 => chk (inb (s1.1 29) 60) (bnd (s1.2 42 (s1.1 29).toNatClampNeg) fun v2 => some (v2, s1))) else (some ((0 : Int32), s))
theorem f_Rules_pop_w {l : Launch} {D : va_G} {cI cZ cJ : ClassId} {ad : Nat → Nat} (s : MS) {Q : Int32 → MS → Prop} {Post : (Int32 × MS) → Prop} (hR : ∀ (r9 : Int32) (s9 : MS), Post ((r9, s9)) → Q r9 s9) (h : Ok (f_Rules_pop s) Post) : G (XX l D cI cZ cJ ad) "SmallHarbour$Rules" b_Rules_pop 1 (some .int) 0 0 [(0, .ref (ad 11))] [] s Q := by
  unfold f_Rules_pop at h
  refine G_aload_n d_Rules_pop_0 rfl 0 rfl ?_
  refine gx_Rules_top d_Rules_pop_1 w_331 ?_
  refine G_if_gt (tgt := 9) d_Rules_pop_4 (by decide) (fun c => ?_) (fun c => ?_)
  · replace h := Ok_t c h
    refine G_aload_n d_Rules_pop_9 rfl 0 rfl ?_
    refine G_dup d_Rules_pop_10 rfl ?_
    refine gx_Rules_top d_Rules_pop_11 w_331 ?_
    refine G_iconst d_Rules_pop_14 lt_iconst_1 ?_
    refine G_isub d_Rules_pop_15 ?_
    refine px_Rules_top d_Rules_pop_16 w_331 (fun s1 e => ?_)
    replace h := Ok_bnd h s1 e
    clear e
    refine G_aload_n d_Rules_pop_19 rfl 0 rfl ?_
    refine gx_Rules_stack d_Rules_pop_20 w_330 ?_
    refine G_aload_n d_Rules_pop_23 rfl 0 rfl ?_
    refine gx_Rules_top d_Rules_pop_24 w_331 ?_
    refine lx_42 d_Rules_pop_27 (Ok_ld h).1 (fun v2 e => ?_)
    replace h := (Ok_ld h).2 v2 e
    clear e
    replace h := Ok_some h
    exact G_iret rfl (vp_nar_int _) d_Rules_pop_28 (hR _ _ h)
  replace h := Ok_f c h
  refine G_iconst d_Rules_pop_7 lt_iconst_0 ?_
  replace h := Ok_some h
  exact G_iret rfl (vp_nar_int _) d_Rules_pop_8 (hR _ _ h)
theorem c_Rules_pop {l : Launch} {D : va_G} {cI cZ cJ : ClassId} {ad : Nat → Nat} (s : MS) {P : Int32 → MS → Prop} (h : Ok2 (f_Rules_pop  s) P) : Ct (XX l D cI cZ cJ ad) y_Rules_pop b_Rules_pop 1 (some .int) 0 [.ref (ad 11)] s (P) :=
  Ct.of mi_Rules_pop (Nat.le_of_ble_eq_true rfl) (f_Rules_pop_w  s (Post := fun q => P q.1 q.2) (fun _ _ h => h) (Ok2_ok h))
-- Rules_push
noncomputable def f_Rules_push (a1 : Int32) (s : MS) : Option MS :=
  if (60 : Int32) ≤ (s.1 29) then (some s) else (chk (inb (s.1 29) 60) (bnd (pa s 42 (s.1 29).toNatClampNeg a1) fun s1 => bnd (pf s1 29 ((s1.1 29) + (1 : Int32))) fun s2 => some s2))
theorem f_Rules_push_w {l : Launch} {D : va_G} {cI cZ cJ : ClassId} {ad : Nat → Nat} (a1 : Int32) (s : MS) {Q : Int32 → MS → Prop} {Post : MS → Prop} (hR : ∀ (s9 : MS), Post (s9) → Q 0 s9) (h : Ok (f_Rules_push a1 s) Post) : G (XX l D cI cZ cJ ad) "SmallHarbour$Rules" b_Rules_push 2 none 0 0 [(0, .ref (ad 11)), (1, .int a1)] [] s Q := by
  unfold f_Rules_push at h
  refine G_aload_n d_Rules_push_0 rfl 0 rfl ?_
  refine gx_Rules_top d_Rules_push_1 w_331 ?_
  refine G_bipush d_Rules_push_4 lt_bipush_60 ?_
  refine G_icmp_ge (tgt := 29) d_Rules_push_6 (by decide) (fun c => ?_) (fun c => ?_)
  · replace h := Ok_t c h
    replace h := Ok_some h
    exact G_vret rfl d_Rules_push_29 (hR _ h)
  replace h := Ok_f c h
  refine G_aload_n d_Rules_push_9 rfl 0 rfl ?_
  refine gx_Rules_stack d_Rules_push_10 w_330 ?_
  refine G_aload_n d_Rules_push_13 rfl 0 rfl ?_
  refine gx_Rules_top d_Rules_push_14 w_331 ?_
  refine G_iload_n d_Rules_push_17 rfl 1 rfl ?_
  refine sx_42 d_Rules_push_18 (Ok_ld h).1 (fun s1 e => ?_)
  replace h := (Ok_ld h).2 s1 e
  clear e
  refine G_aload_n d_Rules_push_19 rfl 0 rfl ?_
  refine G_dup d_Rules_push_20 rfl ?_
  refine gx_Rules_top d_Rules_push_21 w_331 ?_
  refine G_iconst d_Rules_push_24 lt_iconst_1 ?_
  refine G_iadd d_Rules_push_25 ?_
  refine px_Rules_top d_Rules_push_26 w_331 (fun s2 e => ?_)
  replace h := Ok_bnd h s2 e
  clear e
  replace h := Ok_some h
  exact G_vret rfl d_Rules_push_29 (hR _ h)
theorem c_Rules_push {l : Launch} {D : va_G} {cI cZ cJ : ClassId} {ad : Nat → Nat} (a1 : Int32) (s : MS) {P : MS → Prop} (h : Ok (f_Rules_push a1 s) P) : Ct (XX l D cI cZ cJ ad) y_Rules_push b_Rules_push 2 none 0 [.ref (ad 11), .int a1] s (fun _ s9 => P s9) :=
  Ct.of mi_Rules_push (Nat.le_of_ble_eq_true rfl) (f_Rules_push_w a1 s (fun _ h => h) h)
-- Rules_join
noncomputable def f_Rules_join (a1 a2 a3 : Int32) : Option Int32 :=
  bnd a1 fun v1 => if v1 = (37 : Int32) then (if a3 = 0 then (some (0 : Int32)) else (chk (decide (¬ a3 = 0)) (some (a2 - a2 / a3 * a3)))) else (if v1 = (42 : Int32) then (some (a2 * a3)) else (if v1 = (43 : Int32) then (some (a2 + a3)) else (if v1 = (45 : Int32) then (some (a2 - a3)) else (if v1 = (47 : Int32) then (if a3 = 0 then (some (0 : Int32)) else (chk (decide (¬ a3 = 0)) (some (a2 / a3)))) else (if v1 = (60 : Int32) then (if a3 ≤ a2 then (some (0 : Int32)) else (some (1 : Int32))) else (if a2 = a3 then (some (1 : Int32)) else (some (0 : Int32))))))))
theorem f_Rules_join_w {l : Launch} {D : va_G} {cI cZ cJ : ClassId} {ad : Nat → Nat} (a1 a2 a3 : Int32) (s : MS) {Q : Int32 → MS → Prop} {Post : Int32 → Prop} (hR : ∀ (r9 : Int32), Post (r9) → Q r9 s) (h : Ok (f_Rules_join a1 a2 a3) Post) : G (XX l D cI cZ cJ ad) "SmallHarbour$Rules" b_Rules_join 3 (some .int) 0 0 [(0, .int a1), (1, .int a2), (2, .int a3)] [] s Q := by
  unfold f_Rules_join at h
  refine G_iload_n d_Rules_join_0 rfl 0 rfl ?_
  refine G_topi (fun v1 e => ?_)
  replace h := Ok_bnd h v1 e
  clear e
  by_cases c0 : v1 = (37 : Int32)
  · replace h := Ok_t c0 h
    refine G_lookup (tgt := 84) d_Rules_join_1 (by decide) (by rw [c0]; try decide) (by decide) ?_
    refine G_iload_n d_Rules_join_84 rfl 2 rfl ?_
    refine G_if_ne (tgt := 92) d_Rules_join_85 (by decide) (fun c => ?_) (fun c => ?_)
    · replace h := Ok_f c h
      refine G_iload_n d_Rules_join_92 rfl 1 rfl ?_
      refine G_iload_n d_Rules_join_93 rfl 2 rfl ?_
      refine G_irem d_Rules_join_94 (of_decide_eq_true (Ok_chk h).1) ?_
      replace h := (Ok_chk h).2
      replace h := Ok_some h
      exact G_iret rfl (vp_nar_int _) d_Rules_join_95 (hR _ h)
    replace h := Ok_t c h
    refine G_iconst d_Rules_join_88 lt_iconst_0 ?_
    refine G_goto (tgt := 95) d_Rules_join_89 (by decide) ?_
    replace h := Ok_some h
    exact G_iret rfl (vp_nar_int _) d_Rules_join_95 (hR _ h)
  replace h := Ok_f c0 h
  have n0 := ne_ti (z := 37) (by decide) c0
  by_cases c1 : v1 = (42 : Int32)
  · replace h := Ok_t c1 h
    refine G_lookup (tgt := 68) d_Rules_join_1 (by decide) (by rw [c1]; try decide) (by decide) ?_
    refine G_iload_n d_Rules_join_68 rfl 1 rfl ?_
    refine G_iload_n d_Rules_join_69 rfl 2 rfl ?_
    refine G_imul d_Rules_join_70 ?_
    replace h := Ok_some h
    exact G_iret rfl (vp_nar_int _) d_Rules_join_71 (hR _ h)
  replace h := Ok_f c1 h
  have n1 := ne_ti (z := 42) (by decide) c1
  by_cases c2 : v1 = (43 : Int32)
  · replace h := Ok_t c2 h
    refine G_lookup (tgt := 60) d_Rules_join_1 (by decide) (by rw [c2]; try decide) (by decide) ?_
    refine G_iload_n d_Rules_join_60 rfl 1 rfl ?_
    refine G_iload_n d_Rules_join_61 rfl 2 rfl ?_
    refine G_iadd d_Rules_join_62 ?_
    replace h := Ok_some h
    exact G_iret rfl (vp_nar_int _) d_Rules_join_63 (hR _ h)
  replace h := Ok_f c2 h
  have n2 := ne_ti (z := 43) (by decide) c2
  by_cases c3 : v1 = (45 : Int32)
  · replace h := Ok_t c3 h
    refine G_lookup (tgt := 64) d_Rules_join_1 (by decide) (by rw [c3]; try decide) (by decide) ?_
    refine G_iload_n d_Rules_join_64 rfl 1 rfl ?_
    refine G_iload_n d_Rules_join_65 rfl 2 rfl ?_
    refine G_isub d_Rules_join_66 ?_
    replace h := Ok_some h
    exact G_iret rfl (vp_nar_int _) d_Rules_join_67 (hR _ h)
  replace h := Ok_f c3 h
  have n3 := ne_ti (z := 45) (by decide) c3
  by_cases c4 : v1 = (47 : Int32)
  · replace h := Ok_t c4 h
    refine G_lookup (tgt := 72) d_Rules_join_1 (by decide) (by rw [c4]; try decide) (by decide) ?_
    refine G_iload_n d_Rules_join_72 rfl 2 rfl ?_
    refine G_if_ne (tgt := 80) d_Rules_join_73 (by decide) (fun c => ?_) (fun c => ?_)
    · replace h := Ok_f c h
      refine G_iload_n d_Rules_join_80 rfl 1 rfl ?_
      refine G_iload_n d_Rules_join_81 rfl 2 rfl ?_
      refine G_idiv d_Rules_join_82 (of_decide_eq_true (Ok_chk h).1) ?_
      replace h := (Ok_chk h).2
      replace h := Ok_some h
      exact G_iret rfl (vp_nar_int _) d_Rules_join_83 (hR _ h)
    replace h := Ok_t c h
    refine G_iconst d_Rules_join_76 lt_iconst_0 ?_
    refine G_goto (tgt := 83) d_Rules_join_77 (by decide) ?_
    replace h := Ok_some h
    exact G_iret rfl (vp_nar_int _) d_Rules_join_83 (hR _ h)
  replace h := Ok_f c4 h
  have n4 := ne_ti (z := 47) (by decide) c4
  by_cases c5 : v1 = (60 : Int32)
  · replace h := Ok_t c5 h
    refine G_lookup (tgt := 96) d_Rules_join_1 (by decide) (by rw [c5]; try decide) (by decide) ?_
    refine G_iload_n d_Rules_join_96 rfl 1 rfl ?_
    refine G_iload_n d_Rules_join_97 rfl 2 rfl ?_
    refine G_icmp_ge (tgt := 105) d_Rules_join_98 (by decide) (fun c => ?_) (fun c => ?_)
    · replace h := Ok_t c h
      refine G_iconst d_Rules_join_105 lt_iconst_0 ?_
      replace h := Ok_some h
      exact G_iret rfl (vp_nar_int _) d_Rules_join_106 (hR _ h)
    replace h := Ok_f c h
    refine G_iconst d_Rules_join_101 lt_iconst_1 ?_
    refine G_goto (tgt := 106) d_Rules_join_102 (by decide) ?_
    replace h := Ok_some h
    exact G_iret rfl (vp_nar_int _) d_Rules_join_106 (hR _ h)
  replace h := Ok_f c5 h
  have n5 := ne_ti (z := 60) (by decide) c5
  refine G_lookup (off := 106) (tgt := 107) d_Rules_join_1 (by decide) (by simp [Op.lookupswitch.offset, n0, n1, n2, n3, n4, n5]) (by decide) ?_
  refine G_iload_n d_Rules_join_107 rfl 1 rfl ?_
  refine G_iload_n d_Rules_join_108 rfl 2 rfl ?_
  refine G_icmp_ne (tgt := 116) d_Rules_join_109 (by decide) (fun c => ?_) (fun c => ?_)
  · replace h := Ok_f c h
    refine G_iconst d_Rules_join_116 lt_iconst_0 ?_
    replace h := Ok_some h
    exact G_iret rfl (vp_nar_int _) d_Rules_join_117 (hR _ h)
  replace h := Ok_t c h
  refine G_iconst d_Rules_join_112 lt_iconst_1 ?_
  refine G_goto (tgt := 117) d_Rules_join_113 (by decide) ?_
  replace h := Ok_some h
  exact G_iret rfl (vp_nar_int _) d_Rules_join_117 (hR _ h)
theorem c_Rules_join {l : Launch} {D : va_G} {cI cZ cJ : ClassId} {ad : Nat → Nat} (a1 a2 a3 : Int32) (s : MS) {P : Int32 → Prop} (h : Ok (f_Rules_join a1 a2 a3) P) : Ct (XX l D cI cZ cJ ad) y_Rules_join b_Rules_join 3 (some .int) 0 [.int a1, .int a2, .int a3] s (fun r9 s9 => s9 = s ∧ P r9) :=
  Ct.of mi_Rules_join (Nat.le_of_ble_eq_true rfl) (f_Rules_join_w a1 a2 a3 s (fun _ h => ⟨rfl, h⟩) h)
-- Rules_workOn
noncomputable def f_Rules_workOn (a1 : Int32) (s : MS) : Option MS :=
  if a1 < 0 then (if a1 = (-126 : Int32) then (bd2 (f_Rules_pop s) fun v15 s16 => (f_Rules_push (-v15) s16).bind fun s17 => some s17) else (if a1 = (-63 : Int32) then (bd2 (f_Rules_pop s) fun v7 s8 => bd2 (f_Rules_pop s8) fun v9 s10 => bd2 (f_Rules_pop s10) fun v11 s12 => if v11 = 0 then ((f_Rules_push v7 s12).bind fun s13 => some s13) else ((f_Rules_push v9 s12).bind fun s14 => some s14)) else (bd2 (f_Rules_pop s) fun v1 s2 => bd2 (f_Rules_pop s2) fun v3 s4 => (f_Rules_join (-a1) v3 v1).bind fun v5 => (f_Rules_push v5 s4).bind fun s6 => some s6))) else ((f_Rules_push a1 s).bind fun s18 => some s18)
theorem f_Rules_workOn_w {l : Launch} {D : va_G} {cI cZ cJ : ClassId} {ad : Nat → Nat} (a1 : Int32) (s : MS) {Q : Int32 → MS → Prop} {Post : MS → Prop} (hR : ∀ (s9 : MS), Post (s9) → Q 0 s9) (h : Ok (f_Rules_workOn a1 s) Post) : G (XX l D cI cZ cJ ad) "SmallHarbour$Rules" b_Rules_workOn 4 none 1 0 [(0, .ref (ad 11)), (1, .int a1)] [] s Q := by
  unfold f_Rules_workOn at h
  refine G_iload_n d_Rules_workOn_0 rfl 1 rfl ?_
  refine G_if_lt (tgt := 12) d_Rules_workOn_1 (by decide) (fun c => ?_) (fun c => ?_)
  · replace h := Ok_t c h
    refine G_iload_n d_Rules_workOn_12 rfl 1 rfl ?_
    refine G_bipush d_Rules_workOn_13 lt_bipush_m126 ?_
    refine G_icmp_ne (tgt := 30) d_Rules_workOn_15 (by decide) (fun c => ?_) (fun c => ?_)
    · replace h := Ok_f c h
      refine G_iload_n d_Rules_workOn_30 rfl 1 rfl ?_
      refine G_bipush d_Rules_workOn_31 lt_bipush_m63 ?_
      refine G_icmp_ne (tgt := 65) d_Rules_workOn_33 (by decide) (fun c => ?_) (fun c => ?_)
      · replace h := Ok_f c h
        refine G_aload_n d_Rules_workOn_65 rfl 0 rfl ?_
        refine G_callVi (st := []) (As := []) (b := ad 11) d_Rules_workOn_66 mi_Rules_pop w_632 11 rfl rfl mv_Rules_pop rfl (Nat.le_of_ble_eq_true rfl) (by decide) (c_Rules_pop  s (Ok_bd2 h)) (fun v1 s2 h hnv1 => ?_)
        refine G_istore_n d_Rules_workOn_69 rfl (Nat.le_of_ble_eq_true rfl) (fun x => [(2, .int x), (0, .ref (ad 11)), (1, .int a1)]) (fun _ => rfl) (fun x e => ?_)
        subst e
        refine G_aload_n d_Rules_workOn_70 rfl 1 rfl ?_
        refine G_iload_n d_Rules_workOn_71 rfl 2 rfl ?_
        refine G_ineg d_Rules_workOn_72 ?_
        refine G_aload_n d_Rules_workOn_73 rfl 1 rfl ?_
        refine G_callVi (st := [.int (-a1), .ref (ad 11)]) (As := []) (b := ad 11) d_Rules_workOn_74 mi_Rules_pop w_632 11 rfl rfl mv_Rules_pop rfl (Nat.le_of_ble_eq_true rfl) (by decide) (c_Rules_pop  s2 (Ok_bd2 h)) (fun v3 s4 h hnv3 => ?_)
        refine G_iload_n d_Rules_workOn_77 rfl 0 rfl ?_
        refine G_callSp (st := [.ref (ad 11)]) (As := [.int (-a1), .int v3, .int v1]) d_Rules_workOn_78 mi_Rules_join w_636 w_637 rfl (Nat.le_of_ble_eq_true rfl) (by decide) (c_Rules_join (-a1) v3 v1 s4 (Ok_bind h)) (fun v5 h hnv5 => ?_)
        refine G_callVv (st := []) (As := [.int v5]) (b := ad 11) d_Rules_workOn_81 mi_Rules_push w_624 11 rfl rfl mv_Rules_push rfl (Nat.le_of_ble_eq_true rfl) (by decide) (c_Rules_push v5 s4 (Ok_bind h)) (fun s6 h => ?_)
        replace h := Ok_some h
        exact G_vret rfl d_Rules_workOn_84 (hR _ h)
      replace h := Ok_t c h
      refine G_aload_n d_Rules_workOn_36 rfl 0 rfl ?_
      refine G_callVi (st := []) (As := []) (b := ad 11) d_Rules_workOn_37 mi_Rules_pop w_632 11 rfl rfl mv_Rules_pop rfl (Nat.le_of_ble_eq_true rfl) (by decide) (c_Rules_pop  s (Ok_bd2 h)) (fun v7 s8 h hnv7 => ?_)
      refine G_istore_n d_Rules_workOn_40 rfl (Nat.le_of_ble_eq_true rfl) (fun x => [(2, .int x), (0, .ref (ad 11)), (1, .int a1)]) (fun _ => rfl) (fun x e => ?_)
      subst e
      refine G_aload_n d_Rules_workOn_41 rfl 1 rfl ?_
      refine G_callVi (st := []) (As := []) (b := ad 11) d_Rules_workOn_42 mi_Rules_pop w_632 11 rfl rfl mv_Rules_pop rfl (Nat.le_of_ble_eq_true rfl) (by decide) (c_Rules_pop  s8 (Ok_bd2 h)) (fun v9 s10 h hnv9 => ?_)
      refine G_istore_n d_Rules_workOn_45 rfl (Nat.le_of_ble_eq_true rfl) (fun x => [(3, .int x), (2, .int v7), (0, .ref (ad 11)), (1, .int a1)]) (fun _ => rfl) (fun x e => ?_)
      subst e
      refine G_aload_n d_Rules_workOn_46 rfl 2 rfl ?_
      refine G_aload_n d_Rules_workOn_47 rfl 2 rfl ?_
      refine G_callVi (st := [.ref (ad 11)]) (As := []) (b := ad 11) d_Rules_workOn_48 mi_Rules_pop w_632 11 rfl rfl mv_Rules_pop rfl (Nat.le_of_ble_eq_true rfl) (by decide) (c_Rules_pop  s10 (Ok_bd2 h)) (fun v11 s12 h hnv11 => ?_)
      refine G_if_eq (tgt := 58) d_Rules_workOn_51 (by decide) (fun c => ?_) (fun c => ?_)
      · replace h := Ok_t c h
        refine G_iload_n d_Rules_workOn_58 rfl 1 rfl ?_
        refine G_callVv (st := []) (As := [.int v7]) (b := ad 11) d_Rules_workOn_59 mi_Rules_push w_624 11 rfl rfl mv_Rules_push rfl (Nat.le_of_ble_eq_true rfl) (by decide) (c_Rules_push v7 s12 (Ok_bind h)) (fun s13 h => ?_)
        refine G_goto (tgt := 84) d_Rules_workOn_62 (by decide) ?_
        replace h := Ok_some h
        exact G_vret rfl d_Rules_workOn_84 (hR _ h)
      replace h := Ok_f c h
      refine G_iload_n d_Rules_workOn_54 rfl 0 rfl ?_
      refine G_goto (tgt := 59) d_Rules_workOn_55 (by decide) ?_
      refine G_callVv (st := []) (As := [.int v9]) (b := ad 11) d_Rules_workOn_59 mi_Rules_push w_624 11 rfl rfl mv_Rules_push rfl (Nat.le_of_ble_eq_true rfl) (by decide) (c_Rules_push v9 s12 (Ok_bind h)) (fun s14 h => ?_)
      refine G_goto (tgt := 84) d_Rules_workOn_62 (by decide) ?_
      replace h := Ok_some h
      exact G_vret rfl d_Rules_workOn_84 (hR _ h)
    replace h := Ok_t c h
    refine G_aload_n d_Rules_workOn_18 rfl 0 rfl ?_
    refine G_aload_n d_Rules_workOn_19 rfl 0 rfl ?_
    refine G_callVi (st := [.ref (ad 11)]) (As := []) (b := ad 11) d_Rules_workOn_20 mi_Rules_pop w_632 11 rfl rfl mv_Rules_pop rfl (Nat.le_of_ble_eq_true rfl) (by decide) (c_Rules_pop  s (Ok_bd2 h)) (fun v15 s16 h hnv15 => ?_)
    refine G_ineg d_Rules_workOn_23 ?_
    refine G_callVv (st := []) (As := [.int (-v15)]) (b := ad 11) d_Rules_workOn_24 mi_Rules_push w_624 11 rfl rfl mv_Rules_push rfl (Nat.le_of_ble_eq_true rfl) (by decide) (c_Rules_push (-v15) s16 (Ok_bind h)) (fun s17 h => ?_)
    refine G_goto (tgt := 84) d_Rules_workOn_27 (by decide) ?_
    replace h := Ok_some h
    exact G_vret rfl d_Rules_workOn_84 (hR _ h)
  replace h := Ok_f c h
  refine G_aload_n d_Rules_workOn_4 rfl 0 rfl ?_
  refine G_iload_n d_Rules_workOn_5 rfl 1 rfl ?_
  refine G_callVv (st := []) (As := [.int a1]) (b := ad 11) d_Rules_workOn_6 mi_Rules_push w_624 11 rfl rfl mv_Rules_push rfl (Nat.le_of_ble_eq_true rfl) (by decide) (c_Rules_push a1 s (Ok_bind h)) (fun s18 h => ?_)
  refine G_goto (tgt := 84) d_Rules_workOn_9 (by decide) ?_
  replace h := Ok_some h
  exact G_vret rfl d_Rules_workOn_84 (hR _ h)
theorem c_Rules_workOn {l : Launch} {D : va_G} {cI cZ cJ : ClassId} {ad : Nat → Nat} (a1 : Int32) (s : MS) {P : MS → Prop} (h : Ok (f_Rules_workOn a1 s) P) : Ct (XX l D cI cZ cJ ad) y_Rules_workOn b_Rules_workOn 4 none 1 [.ref (ad 11), .int a1] s (fun _ s9 => P s9) :=
  Ct.of mi_Rules_workOn (Nat.le_of_ble_eq_true rfl) (f_Rules_workOn_w a1 s (fun _ h => h) h)
-- Rules_reckon
noncomputable def Rules_reckon_l29 (x1 x2 x3 x4 x5 : Int32) (x6 : Int32) (s : MS) : Option ((Int32 × MS) ⊕ (Int32 × MS)) :=
  chk (inb x1 8) (bnd (s.2 40 x1.toNatClampNeg) fun v1 => if (x5 + v1) ≤ x6 then (xit (bd2 (f_Rules_pop s) fun v2 s3 => some (v2, s3))) else (chk (inb x6 480) (bnd (s.2 41 x6.toNatClampNeg) fun v4 => bnd v4 fun v5 => if v5 = (-110 : Int32) then ((f_Rules_push x3 s).bind fun s6 => bnd (x6 + (1 : Int32)) fun v7 => some (.inl (v7, s6))) else (if v5 = (-102 : Int32) then ((f_Rules_push x2 s).bind fun s8 => bnd (x6 + (1 : Int32)) fun v9 => some (.inl (v9, s8))) else (if v5 = (-100 : Int32) then ((f_Rules_push x4 s).bind fun s10 => bnd (x6 + (1 : Int32)) fun v11 => some (.inl (v11, s10))) else ((f_Rules_workOn v4 s).bind fun s12 => bnd (x6 + (1 : Int32)) fun v13 => some (.inl (v13, s12))))))))
theorem Rules_reckon_l29_w {l : Launch} {D : va_G} {cI cZ cJ : ClassId} {ad : Nat → Nat} (x1 x2 x3 x4 x5 x6 : Int32) (s : MS) {Q : Int32 → MS → Prop} {Post : ((Int32 × MS) ⊕ (Int32 × MS)) → Prop} (hR : ∀ (r9 : Int32) (s9 : MS), Post (.inr ((r9, s9))) → Q r9 s9) (hL29 : ∀ (z6 : Int32) (s9 : MS), Post (.inl (z6, s9)) → G (XX l D cI cZ cJ ad) "SmallHarbour$Rules" b_Rules_reckon 8 (some .int) 2 29 [(0, .ref (ad 11)), (1, .int x1), (2, .int x2), (3, .int x3), (4, .int x4), (5, .int x5), (6, .int z6)] [] s9 Q) (h : Ok (Rules_reckon_l29 x1 x2 x3 x4 x5 x6 s) Post) : G (XX l D cI cZ cJ ad) "SmallHarbour$Rules" b_Rules_reckon 8 (some .int) 2 29 [(0, .ref (ad 11)), (1, .int x1), (2, .int x2), (3, .int x3), (4, .int x4), (5, .int x5), (6, .int x6)] [] s Q := by
  unfold Rules_reckon_l29 at h
  refine G_iload d_Rules_reckon_29 6 rfl ?_
  refine G_iload d_Rules_reckon_31 5 rfl ?_
  refine G_aload_n d_Rules_reckon_33 rfl 0 rfl ?_
  refine gx_Rules_sizes d_Rules_reckon_34 w_328 ?_
  refine G_iload_n d_Rules_reckon_37 rfl 1 rfl ?_
  refine lx_40 d_Rules_reckon_38 (Ok_ld h).1 (fun v1 e => ?_)
  replace h := (Ok_ld h).2 v1 e
  clear e
  refine G_iadd d_Rules_reckon_39 ?_
  refine G_icmp_ge (tgt := 125) d_Rules_reckon_40 (by decide) (fun c => ?_) (fun c => ?_)
  · replace h := Ok_t c h
    replace h := Ok_xit h
    refine G_aload_n d_Rules_reckon_125 rfl 0 rfl ?_
    refine G_callVi (st := []) (As := []) (b := ad 11) d_Rules_reckon_126 mi_Rules_pop w_632 11 rfl rfl mv_Rules_pop rfl (Nat.le_of_ble_eq_true rfl) (by decide) (c_Rules_pop  s (Ok_bd2 h)) (fun v2 s3 h hnv2 => ?_)
    replace h := Ok_some h
    exact G_iret rfl (vp_nar_int _) d_Rules_reckon_129 (hR _ _ h)
  replace h := Ok_f c h
  refine G_aload_n d_Rules_reckon_43 rfl 0 rfl ?_
  refine gx_Rules_codes d_Rules_reckon_44 w_329 ?_
  refine G_iload d_Rules_reckon_47 6 rfl ?_
  refine lx_41 d_Rules_reckon_49 (Ok_ld h).1 (fun v4 e => ?_)
  replace h := (Ok_ld h).2 v4 e
  clear e
  refine G_istore d_Rules_reckon_50 (Nat.le_of_ble_eq_true rfl) (fun x => [(7, .int x), (0, .ref (ad 11)), (1, .int x1), (2, .int x2), (3, .int x3), (4, .int x4), (5, .int x5), (6, .int x6)]) (fun _ => rfl) (fun x e => ?_)
  subst e
  refine G_iload d_Rules_reckon_52 0 rfl ?_
  refine G_topi (fun v5 e => ?_)
  replace h := Ok_bnd h v5 e
  clear e
  by_cases c0 : v5 = (-110 : Int32)
  · replace h := Ok_t c0 h
    refine G_lookup (tgt := 96) d_Rules_reckon_54 (by decide) (by rw [c0]; try decide) (by decide) ?_
    refine G_aload_n d_Rules_reckon_96 rfl 1 rfl ?_
    refine G_iload_n d_Rules_reckon_97 rfl 4 rfl ?_
    refine G_callVv (st := []) (As := [.int x3]) (b := ad 11) d_Rules_reckon_98 mi_Rules_push w_624 11 rfl rfl mv_Rules_push rfl (Nat.le_of_ble_eq_true rfl) (by decide) (c_Rules_push x3 s (Ok_bind h)) (fun s6 h => ?_)
    refine G_goto (tgt := 119) d_Rules_reckon_101 (by decide) ?_
    refine G_iinc d_Rules_reckon_119 7 rfl lt_iconst_1 rfl (Nat.le_of_ble_eq_true rfl) (fun x => [(6, .int x), (7, .int v4), (0, .ref (ad 11)), (1, .int x1), (2, .int x2), (3, .int x3), (4, .int x4), (5, .int x5)]) (fun _ => rfl) (fun v7 e => ?_)
    replace h := Ok_bnd h v7 e
    clear e
    refine G_goto (tgt := 29) d_Rules_reckon_122 (by decide) ?_
    refine G_lv [2, 3, 4, 5, 6, 7, 0] rfl ?_
    replace h := Ok_some h
    exact hL29 v7 s6 h
  replace h := Ok_f c0 h
  have n0 := ne_ti (z := -110) (by decide) c0
  by_cases c1 : v5 = (-102 : Int32)
  · replace h := Ok_t c1 h
    refine G_lookup (tgt := 88) d_Rules_reckon_54 (by decide) (by rw [c1]; try decide) (by decide) ?_
    refine G_aload_n d_Rules_reckon_88 rfl 1 rfl ?_
    refine G_iload_n d_Rules_reckon_89 rfl 3 rfl ?_
    refine G_callVv (st := []) (As := [.int x2]) (b := ad 11) d_Rules_reckon_90 mi_Rules_push w_624 11 rfl rfl mv_Rules_push rfl (Nat.le_of_ble_eq_true rfl) (by decide) (c_Rules_push x2 s (Ok_bind h)) (fun s8 h => ?_)
    refine G_goto (tgt := 119) d_Rules_reckon_93 (by decide) ?_
    refine G_iinc d_Rules_reckon_119 7 rfl lt_iconst_1 rfl (Nat.le_of_ble_eq_true rfl) (fun x => [(6, .int x), (7, .int v4), (0, .ref (ad 11)), (1, .int x1), (2, .int x2), (3, .int x3), (4, .int x4), (5, .int x5)]) (fun _ => rfl) (fun v9 e => ?_)
    replace h := Ok_bnd h v9 e
    clear e
    refine G_goto (tgt := 29) d_Rules_reckon_122 (by decide) ?_
    refine G_lv [2, 3, 4, 5, 6, 7, 0] rfl ?_
    replace h := Ok_some h
    exact hL29 v9 s8 h
  replace h := Ok_f c1 h
  have n1 := ne_ti (z := -102) (by decide) c1
  by_cases c2 : v5 = (-100 : Int32)
  · replace h := Ok_t c2 h
    refine G_lookup (tgt := 104) d_Rules_reckon_54 (by decide) (by rw [c2]; try decide) (by decide) ?_
    refine G_aload_n d_Rules_reckon_104 rfl 1 rfl ?_
    refine G_iload d_Rules_reckon_105 5 rfl ?_
    refine G_callVv (st := []) (As := [.int x4]) (b := ad 11) d_Rules_reckon_107 mi_Rules_push w_624 11 rfl rfl mv_Rules_push rfl (Nat.le_of_ble_eq_true rfl) (by decide) (c_Rules_push x4 s (Ok_bind h)) (fun s10 h => ?_)
    refine G_goto (tgt := 119) d_Rules_reckon_110 (by decide) ?_
    refine G_iinc d_Rules_reckon_119 7 rfl lt_iconst_1 rfl (Nat.le_of_ble_eq_true rfl) (fun x => [(6, .int x), (7, .int v4), (0, .ref (ad 11)), (1, .int x1), (2, .int x2), (3, .int x3), (4, .int x4), (5, .int x5)]) (fun _ => rfl) (fun v11 e => ?_)
    replace h := Ok_bnd h v11 e
    clear e
    refine G_goto (tgt := 29) d_Rules_reckon_122 (by decide) ?_
    refine G_lv [2, 3, 4, 5, 6, 7, 0] rfl ?_
    replace h := Ok_some h
    exact hL29 v11 s10 h
  replace h := Ok_f c2 h
  have n2 := ne_ti (z := -100) (by decide) c2
  refine G_lookup (off := 59) (tgt := 113) d_Rules_reckon_54 (by decide) (by simp [Op.lookupswitch.offset, n0, n1, n2]) (by decide) ?_
  refine G_aload_n d_Rules_reckon_113 rfl 1 rfl ?_
  refine G_iload d_Rules_reckon_114 0 rfl ?_
  refine G_callVv (st := []) (As := [.int v4]) (b := ad 11) d_Rules_reckon_116 mi_Rules_workOn w_628 11 rfl rfl mv_Rules_workOn rfl (Nat.le_of_ble_eq_true rfl) (by decide) (c_Rules_workOn v4 s (Ok_bind h)) (fun s12 h => ?_)
  refine G_iinc d_Rules_reckon_119 7 rfl lt_iconst_1 rfl (Nat.le_of_ble_eq_true rfl) (fun x => [(6, .int x), (7, .int v4), (0, .ref (ad 11)), (1, .int x1), (2, .int x2), (3, .int x3), (4, .int x4), (5, .int x5)]) (fun _ => rfl) (fun v13 e => ?_)
  replace h := Ok_bnd h v13 e
  clear e
  refine G_goto (tgt := 29) d_Rules_reckon_122 (by decide) ?_
  refine G_lv [2, 3, 4, 5, 6, 7, 0] rfl ?_
  replace h := Ok_some h
  exact hL29 v13 s12 h
noncomputable def f_Rules_reckon (a1 a2 a3 a4 : Int32) (s : MS) : Option (Int32 × MS) :=
  if a1 < 0 then (some ((0 : Int32), s)) else (if a1 < (s.1 28) then (bnd (pf s 29 (0 : Int32)) fun s1 => bnd (a1 * (60 : Int32)) fun v2 => loop (fun z => Rules_reckon_l29 a1 a2 a3 a4 v2 z.1 z.2) (v2, s1)) else (some ((0 : Int32), s)))
theorem f_Rules_reckon_w {l : Launch} {D : va_G} {cI cZ cJ : ClassId} {ad : Nat → Nat} (a1 a2 a3 a4 : Int32) (s : MS) {Q : Int32 → MS → Prop} {Post : (Int32 × MS) → Prop} (hR : ∀ (r9 : Int32) (s9 : MS), Post ((r9, s9)) → Q r9 s9) (h : Ok (f_Rules_reckon a1 a2 a3 a4 s) Post) : G (XX l D cI cZ cJ ad) "SmallHarbour$Rules" b_Rules_reckon 8 (some .int) 2 0 [(0, .ref (ad 11)), (1, .int a1), (2, .int a2), (3, .int a3), (4, .int a4)] [] s Q := by
  unfold f_Rules_reckon at h
  refine G_iload_n d_Rules_reckon_0 rfl 1 rfl ?_
  refine G_if_lt (tgt := 12) d_Rules_reckon_1 (by decide) (fun c => ?_) (fun c => ?_)
  · replace h := Ok_t c h
    refine G_iconst d_Rules_reckon_12 lt_iconst_0 ?_
    replace h := Ok_some h
    exact G_iret rfl (vp_nar_int _) d_Rules_reckon_13 (hR _ _ h)
  replace h := Ok_f c h
  refine G_iload_n d_Rules_reckon_4 rfl 1 rfl ?_
  refine G_aload_n d_Rules_reckon_5 rfl 0 rfl ?_
  refine gx_Rules_count d_Rules_reckon_6 w_325 ?_
  refine G_icmp_lt (tgt := 14) d_Rules_reckon_9 (by decide) (fun c => ?_) (fun c => ?_)
  · replace h := Ok_t c h
    refine G_aload_n d_Rules_reckon_14 rfl 0 rfl ?_
    refine G_iconst d_Rules_reckon_15 lt_iconst_0 ?_
    refine px_Rules_top d_Rules_reckon_16 w_331 (fun s1 e => ?_)
    replace h := Ok_bnd h s1 e
    clear e
    refine G_iload_n d_Rules_reckon_19 rfl 1 rfl ?_
    refine G_bipush d_Rules_reckon_20 lt_bipush_60 ?_
    refine G_imul d_Rules_reckon_22 ?_
    refine G_istore d_Rules_reckon_23 (Nat.le_of_ble_eq_true rfl) (fun x => [(5, .int x), (0, .ref (ad 11)), (1, .int a1), (2, .int a2), (3, .int a3), (4, .int a4)]) (fun _ => rfl) (fun v2 e => ?_)
    replace h := Ok_bnd h v2 e.symm
    clear e
    refine G_iload d_Rules_reckon_25 0 rfl ?_
    refine G_istore d_Rules_reckon_27 (Nat.le_of_ble_eq_true rfl) (fun x => [(6, .int x), (5, .int v2), (0, .ref (ad 11)), (1, .int a1), (2, .int a2), (3, .int a3), (4, .int a4)]) (fun _ => rfl) (fun x e => ?_)
    subst e
    refine G_lv [2, 3, 4, 5, 6, 1, 0] rfl ?_
    refine G_loop (J := (fun z => G (XX l D cI cZ cJ ad) "SmallHarbour$Rules" b_Rules_reckon 8 (some .int) 2 29 [(0, .ref (ad 11)), (1, .int a1), (2, .int a2), (3, .int a3), (4, .int a4), (5, .int v2), (6, .int (z.1))] [] z.2 Q)) (fun z h => ?_) (v2, s1) h
    refine Rules_reckon_l29_w a1 a2 a3 a4 v2 z.1 z.2 ?_ ?_ h
    · exact hR
    · exact (fun z6 s9 h => h)
  replace h := Ok_f c h
  refine G_iconst d_Rules_reckon_12 lt_iconst_0 ?_
  replace h := Ok_some h
  exact G_iret rfl (vp_nar_int _) d_Rules_reckon_13 (hR _ _ h)
theorem c_Rules_reckon {l : Launch} {D : va_G} {cI cZ cJ : ClassId} {ad : Nat → Nat} (a1 a2 a3 a4 : Int32) (s : MS) {P : Int32 → MS → Prop} (h : Ok2 (f_Rules_reckon a1 a2 a3 a4 s) P) : Ct (XX l D cI cZ cJ ad) y_Rules_reckon b_Rules_reckon 8 (some .int) 2 [.ref (ad 11), .int a1, .int a2, .int a3, .int a4] s (P) :=
  Ct.of mi_Rules_reckon (Nat.le_of_ble_eq_true rfl) (f_Rules_reckon_w a1 a2 a3 a4 s (Post := fun q => P q.1 q.2) (fun _ _ h => h) (Ok2_ok h))
-- Hb_billOf
noncomputable def f_Hb_billOf (a1 : Int32) (s : MS) : Option (Int32 × MS) :=
  chk (inb a1 40) (bnd (s.2 16 a1.toNatClampNeg) fun v1 => chk (inb a1 40) (bnd (s.2 17 a1.toNatClampNeg) fun v2 => bnd (v2 - v1) fun v3 => (f_Rules_inForce v1 s).bind fun v4 => chk (inb a1 40) (bnd (s.2 14 a1.toNatClampNeg) fun v5 => chk (inb v5 30) (bnd (s.2 7 v5.toNatClampNeg) fun v6 => bd2 (f_Rules_reckon v4 v6 v3 v1 s) fun v7 s8 => some (v7, s8)))))
theorem f_Hb_billOf_w {l : Launch} {D : va_G} {cI cZ cJ : ClassId} {ad : Nat → Nat} (a1 : Int32) (s : MS) {Q : Int32 → MS → Prop} {Post : (Int32 × MS) → Prop} (hR : ∀ (r9 : Int32) (s9 : MS), Post ((r9, s9)) → Q r9 s9) (h : Ok (f_Hb_billOf a1 s) Post) : G (XX l D cI cZ cJ ad) "SmallHarbour" b_Hb_billOf 4 (some .int) 3 0 [(0, .ref (ad 0)), (1, .int a1)] [] s Q := by
  unfold f_Hb_billOf at h
  refine G_aload_n d_Hb_billOf_0 rfl 0 rfl ?_
  refine gx_Hb_stays d_Hb_billOf_1 w_351 ?_
  refine gx_Stays_from d_Hb_billOf_4 w_120 ?_
  refine G_iload_n d_Hb_billOf_7 rfl 1 rfl ?_
  refine lx_16 d_Hb_billOf_8 (Ok_ld h).1 (fun v1 e => ?_)
  replace h := (Ok_ld h).2 v1 e
  clear e
  refine G_istore_n d_Hb_billOf_9 rfl (Nat.le_of_ble_eq_true rfl) (fun x => [(2, .int x), (0, .ref (ad 0)), (1, .int a1)]) (fun _ => rfl) (fun x e => ?_)
  subst e
  refine G_aload_n d_Hb_billOf_10 rfl 1 rfl ?_
  refine gx_Hb_stays d_Hb_billOf_11 w_351 ?_
  refine gx_Stays_to d_Hb_billOf_14 w_122 ?_
  refine G_iload_n d_Hb_billOf_17 rfl 2 rfl ?_
  refine lx_17 d_Hb_billOf_18 (Ok_ld h).1 (fun v2 e => ?_)
  replace h := (Ok_ld h).2 v2 e
  clear e
  refine G_iload_n d_Hb_billOf_19 rfl 0 rfl ?_
  refine G_isub d_Hb_billOf_20 ?_
  refine G_istore_n d_Hb_billOf_21 rfl (Nat.le_of_ble_eq_true rfl) (fun x => [(3, .int x), (2, .int v1), (0, .ref (ad 0)), (1, .int a1)]) (fun _ => rfl) (fun v3 e => ?_)
  replace h := Ok_bnd h v3 e.symm
  clear e
  refine G_aload_n d_Hb_billOf_22 rfl 2 rfl ?_
  refine gx_Hb_rules d_Hb_billOf_23 w_357 ?_
  refine G_aload_n d_Hb_billOf_26 rfl 2 rfl ?_
  refine gx_Hb_rules d_Hb_billOf_27 w_357 ?_
  refine G_iload_n d_Hb_billOf_30 rfl 1 rfl ?_
  refine G_callVp (st := [.ref (ad 11)]) (As := [.int v1]) (b := ad 11) d_Hb_billOf_31 mi_Rules_inForce w_616 11 rfl rfl mv_Rules_inForce rfl (Nat.le_of_ble_eq_true rfl) (by decide) (c_Rules_inForce v1 s (Ok_bind h)) (fun v4 h hnv4 => ?_)
  refine G_aload_n d_Hb_billOf_34 rfl 2 rfl ?_
  refine gx_Hb_boats d_Hb_billOf_35 w_349 ?_
  refine gx_Boats_length d_Hb_billOf_38 w_67 ?_
  refine G_aload_n d_Hb_billOf_41 rfl 2 rfl ?_
  refine gx_Hb_stays d_Hb_billOf_42 w_351 ?_
  refine gx_Stays_boat d_Hb_billOf_45 w_116 ?_
  refine G_iload_n d_Hb_billOf_48 rfl 3 rfl ?_
  refine lx_14 d_Hb_billOf_49 (Ok_ld h).1 (fun v5 e => ?_)
  replace h := (Ok_ld h).2 v5 e
  clear e
  refine lx_7 d_Hb_billOf_50 (Ok_ld h).1 (fun v6 e => ?_)
  replace h := (Ok_ld h).2 v6 e
  clear e
  refine G_iload_n d_Hb_billOf_51 rfl 0 rfl ?_
  refine G_iload_n d_Hb_billOf_52 rfl 1 rfl ?_
  refine G_callVi (st := []) (As := [.int v4, .int v6, .int v3, .int v1]) (b := ad 11) d_Hb_billOf_53 mi_Rules_reckon w_620 11 rfl rfl mv_Rules_reckon rfl (Nat.le_of_ble_eq_true rfl) (by decide) (c_Rules_reckon v4 v6 v3 v1 s (Ok_bd2 h)) (fun v7 s8 h hnv7 => ?_)
  replace h := Ok_some h
  exact G_iret rfl (vp_nar_int _) d_Hb_billOf_56 (hR _ _ h)
theorem c_Hb_billOf {l : Launch} {D : va_G} {cI cZ cJ : ClassId} {ad : Nat → Nat} (a1 : Int32) (s : MS) {P : Int32 → MS → Prop} (h : Ok2 (f_Hb_billOf a1 s) P) : Ct (XX l D cI cZ cJ ad) y_Hb_billOf b_Hb_billOf 4 (some .int) 3 [.ref (ad 0), .int a1] s (P) :=
  Ct.of mi_Hb_billOf (Nat.le_of_ble_eq_true rfl) (f_Hb_billOf_w a1 s (Post := fun q => P q.1 q.2) (fun _ _ h => h) (Ok2_ok h))
-- Stays_atBerth
noncomputable def Stays_atBerth_l3 (x1 x2 x3 : Int32) (s : MS) (x4 : Int32) : Option ((Int32) ⊕ Int32) :=
  if (s.1 5) ≤ x4 then (xit (some (-1 : Int32))) else (chk (inb x4 40) (bnd (s.2 15 x4.toNatClampNeg) fun v1 => if v1 = x1 then (chk (inb x4 40) (bnd (s.2 16 x4.toNatClampNeg) fun v3 => if x3 ≤ v3 then (bnd (x4 + (1 : Int32)) fun v4 => some (.inl v4)) else (chk (inb x4 40) (bnd (s.2 17 x4.toNatClampNeg) fun v5 => if v5 ≤ x2 then (bnd (x4 + (1 : Int32)) fun v6 => some (.inl v6)) else (xit (some x4)))))) else (bnd (x4 + (1 : Int32)) fun v2 => some (.inl v2))))
theorem Stays_atBerth_l3_w {l : Launch} {D : va_G} {cI cZ cJ : ClassId} {ad : Nat → Nat} (x1 x2 x3 x4 : Int32) (s : MS) {Q : Int32 → MS → Prop} {Post : ((Int32) ⊕ Int32) → Prop} (hR : ∀ (r9 : Int32), Post (.inr (r9)) → Q r9 s) (hL3 : ∀ (z4 : Int32) , Post (.inl z4) → G (XX l D cI cZ cJ ad) "SmallHarbour$Stays" b_Stays_atBerth 5 (some .int) 0 3 [(0, .ref (ad 5)), (1, .int x1), (2, .int x2), (3, .int x3), (4, .int z4)] [] s Q) (h : Ok (Stays_atBerth_l3 x1 x2 x3 s x4) Post) : G (XX l D cI cZ cJ ad) "SmallHarbour$Stays" b_Stays_atBerth 5 (some .int) 0 3 [(0, .ref (ad 5)), (1, .int x1), (2, .int x2), (3, .int x3), (4, .int x4)] [] s Q := by
  unfold Stays_atBerth_l3 at h
  refine G_iload d_Stays_atBerth_3 4 rfl ?_
  refine G_aload_n d_Stays_atBerth_5 rfl 0 rfl ?_
  refine gx_Stays_count d_Stays_atBerth_6 w_123 ?_
  refine G_icmp_ge (tgt := 54) d_Stays_atBerth_9 (by decide) (fun c => ?_) (fun c => ?_)
  · replace h := Ok_t c h
    replace h := Ok_xit h
    refine G_iconst d_Stays_atBerth_54 lt_iconst_m1 ?_
    replace h := Ok_some h
    exact G_iret rfl (vp_nar_int _) d_Stays_atBerth_55 (hR _ h)
  replace h := Ok_f c h
  refine G_aload_n d_Stays_atBerth_12 rfl 0 rfl ?_
  refine gx_Stays_berth d_Stays_atBerth_13 w_117 ?_
  refine G_iload d_Stays_atBerth_16 4 rfl ?_
  refine lx_15 d_Stays_atBerth_18 (Ok_ld h).1 (fun v1 e => ?_)
  replace h := (Ok_ld h).2 v1 e
  clear e
  refine G_iload_n d_Stays_atBerth_19 rfl 1 rfl ?_
  refine G_icmp_ne (tgt := 48) d_Stays_atBerth_20 (by decide) (fun c => ?_) (fun c => ?_)
  · replace h := Ok_f c h
    refine G_iinc d_Stays_atBerth_48 4 rfl lt_iconst_1 rfl (Nat.le_of_ble_eq_true rfl) (fun x => [(4, .int x), (0, .ref (ad 5)), (1, .int x1), (2, .int x2), (3, .int x3)]) (fun _ => rfl) (fun v2 e => ?_)
    replace h := Ok_bnd h v2 e
    clear e
    refine G_goto (tgt := 3) d_Stays_atBerth_51 (by decide) ?_
    refine G_lv [1, 2, 3, 4, 0] rfl ?_
    replace h := Ok_some h
    exact hL3 v2 h
  replace h := Ok_t c h
  refine G_aload_n d_Stays_atBerth_23 rfl 0 rfl ?_
  refine gx_Stays_from d_Stays_atBerth_24 w_119 ?_
  refine G_iload d_Stays_atBerth_27 4 rfl ?_
  refine lx_16 d_Stays_atBerth_29 (Ok_ld h).1 (fun v3 e => ?_)
  replace h := (Ok_ld h).2 v3 e
  clear e
  refine G_iload_n d_Stays_atBerth_30 rfl 3 rfl ?_
  refine G_icmp_ge (tgt := 48) d_Stays_atBerth_31 (by decide) (fun c => ?_) (fun c => ?_)
  · replace h := Ok_t c h
    refine G_iinc d_Stays_atBerth_48 4 rfl lt_iconst_1 rfl (Nat.le_of_ble_eq_true rfl) (fun x => [(4, .int x), (0, .ref (ad 5)), (1, .int x1), (2, .int x2), (3, .int x3)]) (fun _ => rfl) (fun v4 e => ?_)
    replace h := Ok_bnd h v4 e
    clear e
    refine G_goto (tgt := 3) d_Stays_atBerth_51 (by decide) ?_
    refine G_lv [1, 2, 3, 4, 0] rfl ?_
    replace h := Ok_some h
    exact hL3 v4 h
  replace h := Ok_f c h
  refine G_iload_n d_Stays_atBerth_34 rfl 2 rfl ?_
  refine G_aload_n d_Stays_atBerth_35 rfl 0 rfl ?_
  refine gx_Stays_to d_Stays_atBerth_36 w_121 ?_
  refine G_iload d_Stays_atBerth_39 4 rfl ?_
  refine lx_17 d_Stays_atBerth_41 (Ok_ld h).1 (fun v5 e => ?_)
  replace h := (Ok_ld h).2 v5 e
  clear e
  refine G_icmp_ge (tgt := 48) d_Stays_atBerth_42 (by decide) (fun c => ?_) (fun c => ?_)
  · replace h := Ok_t c h
    refine G_iinc d_Stays_atBerth_48 4 rfl lt_iconst_1 rfl (Nat.le_of_ble_eq_true rfl) (fun x => [(4, .int x), (0, .ref (ad 5)), (1, .int x1), (2, .int x2), (3, .int x3)]) (fun _ => rfl) (fun v6 e => ?_)
    replace h := Ok_bnd h v6 e
    clear e
    refine G_goto (tgt := 3) d_Stays_atBerth_51 (by decide) ?_
    refine G_lv [1, 2, 3, 4, 0] rfl ?_
    replace h := Ok_some h
    exact hL3 v6 h
  replace h := Ok_f c h
  replace h := Ok_xit h
  refine G_iload d_Stays_atBerth_45 4 rfl ?_
  replace h := Ok_some h
  exact G_iret rfl (vp_nar_int _) d_Stays_atBerth_47 (hR _ h)
noncomputable def f_Stays_atBerth (a1 a2 a3 : Int32) (s : MS) : Option Int32 :=
  loop (fun z => Stays_atBerth_l3 a1 a2 a3 s z) (0 : Int32)
theorem f_Stays_atBerth_w {l : Launch} {D : va_G} {cI cZ cJ : ClassId} {ad : Nat → Nat} (a1 a2 a3 : Int32) (s : MS) {Q : Int32 → MS → Prop} {Post : Int32 → Prop} (hR : ∀ (r9 : Int32), Post (r9) → Q r9 s) (h : Ok (f_Stays_atBerth a1 a2 a3 s) Post) : G (XX l D cI cZ cJ ad) "SmallHarbour$Stays" b_Stays_atBerth 5 (some .int) 0 0 [(0, .ref (ad 5)), (1, .int a1), (2, .int a2), (3, .int a3)] [] s Q := by
  unfold f_Stays_atBerth at h
  refine G_iconst d_Stays_atBerth_0 lt_iconst_0 ?_
  refine G_istore d_Stays_atBerth_1 (Nat.le_of_ble_eq_true rfl) (fun x => [(4, .int x), (0, .ref (ad 5)), (1, .int a1), (2, .int a2), (3, .int a3)]) (fun _ => rfl) (fun x e => ?_)
  subst e
  refine G_lv [1, 2, 3, 4, 0] rfl ?_
  refine G_loop (J := (fun z => G (XX l D cI cZ cJ ad) "SmallHarbour$Stays" b_Stays_atBerth 5 (some .int) 0 3 [(0, .ref (ad 5)), (1, .int a1), (2, .int a2), (3, .int a3), (4, .int z)] [] s Q)) (fun z h => ?_) (0 : Int32) h
  refine Stays_atBerth_l3_w a1 a2 a3 z s ?_ ?_ h
  · exact hR
  · exact (fun z4 h => h)
theorem c_Stays_atBerth {l : Launch} {D : va_G} {cI cZ cJ : ClassId} {ad : Nat → Nat} (a1 a2 a3 : Int32) (s : MS) {P : Int32 → Prop} (h : Ok (f_Stays_atBerth a1 a2 a3 s) P) : Ct (XX l D cI cZ cJ ad) y_Stays_atBerth b_Stays_atBerth 5 (some .int) 0 [.ref (ad 5), .int a1, .int a2, .int a3] s (fun r9 s9 => s9 = s ∧ P r9) :=
  Ct.of mi_Stays_atBerth (Nat.le_of_ble_eq_true rfl) (f_Stays_atBerth_w a1 a2 a3 s (fun _ h => ⟨rfl, h⟩) h)
-- Tide_on
noncomputable def f_Tide_on (a1 : Int32) (s : MS) : Option Int32 :=
  if a1 < 0 then (some (0 : Int32)) else (if (1 : Int32) ≤ (s.1 1) then (chk (decide (¬ (s.1 1) = 0)) (chk (inb (a1 - a1 / (s.1 1) * (s.1 1)) 30) (bnd (s.2 3 (a1 - a1 / (s.1 1) * (s.1 1)).toNatClampNeg) fun v1 => some v1))) else (some (0 : Int32)))
theorem f_Tide_on_w {l : Launch} {D : va_G} {cI cZ cJ : ClassId} {ad : Nat → Nat} (a1 : Int32) (s : MS) {Q : Int32 → MS → Prop} {Post : Int32 → Prop} (hR : ∀ (r9 : Int32), Post (r9) → Q r9 s) (h : Ok (f_Tide_on a1 s) Post) : G (XX l D cI cZ cJ ad) "SmallHarbour$Tide" b_Tide_on 2 (some .int) 0 0 [(0, .ref (ad 1)), (1, .int a1)] [] s Q := by
  unfold f_Tide_on at h
  refine G_iload_n d_Tide_on_0 rfl 1 rfl ?_
  refine G_if_lt (tgt := 12) d_Tide_on_1 (by decide) (fun c => ?_) (fun c => ?_)
  · replace h := Ok_t c h
    refine G_iconst d_Tide_on_12 lt_iconst_0 ?_
    refine G_goto (tgt := 27) d_Tide_on_13 (by decide) ?_
    replace h := Ok_some h
    exact G_iret rfl (vp_nar_int _) d_Tide_on_27 (hR _ h)
  replace h := Ok_f c h
  refine G_aload_n d_Tide_on_4 rfl 0 rfl ?_
  refine gx_Tide_count d_Tide_on_5 w_32 ?_
  refine G_iconst d_Tide_on_8 lt_iconst_1 ?_
  refine G_icmp_ge (tgt := 16) d_Tide_on_9 (by decide) (fun c => ?_) (fun c => ?_)
  · replace h := Ok_t c h
    refine G_aload_n d_Tide_on_16 rfl 0 rfl ?_
    refine gx_Tide_row d_Tide_on_17 w_31 ?_
    refine G_iload_n d_Tide_on_20 rfl 1 rfl ?_
    refine G_aload_n d_Tide_on_21 rfl 0 rfl ?_
    refine gx_Tide_count d_Tide_on_22 w_32 ?_
    refine G_irem d_Tide_on_25 (of_decide_eq_true (Ok_chk h).1) ?_
    replace h := (Ok_chk h).2
    refine lx_3 d_Tide_on_26 (Ok_ld h).1 (fun v1 e => ?_)
    replace h := (Ok_ld h).2 v1 e
    clear e
    replace h := Ok_some h
    exact G_iret rfl (vp_nar_int _) d_Tide_on_27 (hR _ h)
  replace h := Ok_f c h
  refine G_iconst d_Tide_on_12 lt_iconst_0 ?_
  refine G_goto (tgt := 27) d_Tide_on_13 (by decide) ?_
  replace h := Ok_some h
  exact G_iret rfl (vp_nar_int _) d_Tide_on_27 (hR _ h)
theorem c_Tide_on {l : Launch} {D : va_G} {cI cZ cJ : ClassId} {ad : Nat → Nat} (a1 : Int32) (s : MS) {P : Int32 → Prop} (h : Ok (f_Tide_on a1 s) P) : Ct (XX l D cI cZ cJ ad) y_Tide_on b_Tide_on 2 (some .int) 0 [.ref (ad 1), .int a1] s (fun r9 s9 => s9 = s ∧ P r9) :=
  Ct.of mi_Tide_on (Nat.le_of_ble_eq_true rfl) (f_Tide_on_w a1 s (fun _ h => ⟨rfl, h⟩) h)
-- Tide_lowest
noncomputable def Tide_lowest_l18 (x3 : Int32) (s : MS) (x4 x5 : Int32) : Option ((Int32 × Int32) ⊕ Int32) :=
  if x3 ≤ x5 then (xit (some x4)) else ((f_Tide_on x5 s).bind fun v1 => bnd (if v1 < x4 then v1 else x4) fun v2 => bnd (x5 + (1 : Int32)) fun v3 => some (.inl (v2, v3)))
theorem Tide_lowest_l18_w {l : Launch} {D : va_G} {cI cZ cJ : ClassId} {ad : Nat → Nat} (x3 x4 x5 : Int32) (s : MS) {Q : Int32 → MS → Prop} {Post : ((Int32 × Int32) ⊕ Int32) → Prop} (hR : ∀ (r9 : Int32), Post (.inr (r9)) → Q r9 s) (hL18 : ∀ (z4 z5 : Int32) , Post (.inl (z4, z5)) → G (XX l D cI cZ cJ ad) "SmallHarbour$Tide" b_Tide_lowest 6 (some .int) 1 18 [(0, .ref (ad 1)), (3, .int x3), (4, .int z4), (5, .int z5)] [] s Q) (h : Ok (Tide_lowest_l18 x3 s x4 x5) Post) : G (XX l D cI cZ cJ ad) "SmallHarbour$Tide" b_Tide_lowest 6 (some .int) 1 18 [(0, .ref (ad 1)), (3, .int x3), (4, .int x4), (5, .int x5)] [] s Q := by
  unfold Tide_lowest_l18 at h
  refine G_iload d_Tide_lowest_18 3 rfl ?_
  refine G_iload_n d_Tide_lowest_20 rfl 1 rfl ?_
  refine G_icmp_ge (tgt := 43) d_Tide_lowest_21 (by decide) (fun c => ?_) (fun c => ?_)
  · replace h := Ok_t c h
    replace h := Ok_xit h
    refine G_iload d_Tide_lowest_43 2 rfl ?_
    replace h := Ok_some h
    exact G_iret rfl (vp_nar_int _) d_Tide_lowest_45 (hR _ h)
  replace h := Ok_f c h
  refine G_iload d_Tide_lowest_24 2 rfl ?_
  refine G_aload_n d_Tide_lowest_26 rfl 0 rfl ?_
  refine G_iload d_Tide_lowest_27 3 rfl ?_
  refine G_callVp (st := [.int x4]) (As := [.int x5]) (b := ad 1) d_Tide_lowest_29 mi_Tide_on w_453 1 rfl rfl mv_Tide_on rfl (Nat.le_of_ble_eq_true rfl) (by decide) (c_Tide_on x5 s (Ok_bind h)) (fun v1 h hnv1 => ?_)
  refine G_min d_Tide_lowest_32 w_450 w_451 w_15 w_452 (by decide) (Nat.le_of_ble_eq_true rfl) (G_topi (fun v2 e => ?_))
  replace h := Ok_bnd h v2 e
  clear e
  refine G_istore d_Tide_lowest_35 (Nat.le_of_ble_eq_true rfl) (fun x => [(4, .int x), (0, .ref (ad 1)), (3, .int x3), (5, .int x5)]) (fun _ => rfl) (fun x e => ?_)
  subst e
  refine G_iinc d_Tide_lowest_37 3 rfl lt_iconst_1 rfl (Nat.le_of_ble_eq_true rfl) (fun x => [(5, .int x), (4, .int v2), (0, .ref (ad 1)), (3, .int x3)]) (fun _ => rfl) (fun v3 e => ?_)
  replace h := Ok_bnd h v3 e
  clear e
  refine G_goto (tgt := 18) d_Tide_lowest_40 (by decide) ?_
  refine G_lv [2, 3, 1, 0] rfl ?_
  replace h := Ok_some h
  exact hL18 v2 v3 h
noncomputable def f_Tide_lowest (a1 a2 : Int32) (s : MS) : Option Int32 :=
  bnd (if (a1 + (s.1 1)) < a2 then (a1 + (s.1 1)) else a2) fun v1 => loop (fun z => Tide_lowest_l18 v1 s z.1 z.2) ((40 : Int32), a1)
theorem f_Tide_lowest_w {l : Launch} {D : va_G} {cI cZ cJ : ClassId} {ad : Nat → Nat} (a1 a2 : Int32) (s : MS) {Q : Int32 → MS → Prop} {Post : Int32 → Prop} (hR : ∀ (r9 : Int32), Post (r9) → Q r9 s) (h : Ok (f_Tide_lowest a1 a2 s) Post) : G (XX l D cI cZ cJ ad) "SmallHarbour$Tide" b_Tide_lowest 6 (some .int) 1 0 [(0, .ref (ad 1)), (1, .int a1), (2, .int a2)] [] s Q := by
  unfold f_Tide_lowest at h
  refine G_iload_n d_Tide_lowest_0 rfl 2 rfl ?_
  refine G_iload_n d_Tide_lowest_1 rfl 1 rfl ?_
  refine G_aload_n d_Tide_lowest_2 rfl 0 rfl ?_
  refine gx_Tide_count d_Tide_lowest_3 w_32 ?_
  refine G_iadd d_Tide_lowest_6 ?_
  refine G_min d_Tide_lowest_7 w_450 w_451 w_15 w_452 (by decide) (Nat.le_of_ble_eq_true rfl) (G_topi (fun v1 e => ?_))
  replace h := Ok_bnd h v1 e
  clear e
  refine G_istore_n d_Tide_lowest_10 rfl (Nat.le_of_ble_eq_true rfl) (fun x => [(3, .int x), (0, .ref (ad 1)), (1, .int a1), (2, .int a2)]) (fun _ => rfl) (fun x e => ?_)
  subst e
  refine G_bipush d_Tide_lowest_11 lt_bipush_40 ?_
  refine G_istore d_Tide_lowest_13 (Nat.le_of_ble_eq_true rfl) (fun x => [(4, .int x), (3, .int v1), (0, .ref (ad 1)), (1, .int a1), (2, .int a2)]) (fun _ => rfl) (fun x e => ?_)
  subst e
  refine G_iload_n d_Tide_lowest_15 rfl 3 rfl ?_
  refine G_istore d_Tide_lowest_16 (Nat.le_of_ble_eq_true rfl) (fun x => [(5, .int x), (4, .int (40 : Int32)), (3, .int v1), (0, .ref (ad 1)), (1, .int a1), (2, .int a2)]) (fun _ => rfl) (fun x e => ?_)
  subst e
  refine G_lv [3, 2, 1, 0] rfl ?_
  refine G_loop (J := (fun z => G (XX l D cI cZ cJ ad) "SmallHarbour$Tide" b_Tide_lowest 6 (some .int) 1 18 [(0, .ref (ad 1)), (3, .int v1), (4, .int (z.1)), (5, .int (z.2))] [] s Q)) (fun z h => ?_) ((40 : Int32), a1) h
  refine Tide_lowest_l18_w v1 z.1 z.2 s ?_ ?_ h
  · exact hR
  · exact (fun z4 z5 h => h)
theorem c_Tide_lowest {l : Launch} {D : va_G} {cI cZ cJ : ClassId} {ad : Nat → Nat} (a1 a2 : Int32) (s : MS) {P : Int32 → Prop} (h : Ok (f_Tide_lowest a1 a2 s) P) : Ct (XX l D cI cZ cJ ad) y_Tide_lowest b_Tide_lowest 6 (some .int) 1 [.ref (ad 1), .int a1, .int a2] s (fun r9 s9 => s9 = s ∧ P r9) :=
  Ct.of mi_Tide_lowest (Nat.le_of_ble_eq_true rfl) (f_Tide_lowest_w a1 a2 s (fun _ h => ⟨rfl, h⟩) h)
-- Hb_canBeHome
noncomputable def f_Hb_canBeHome (a1 a2 a3 : Int32) (s : MS) : Option Int32 :=
  (f_Berths_has a1 s).bind fun v1 => if v1 = 0 then (some (0 : Int32)) else (chk (inb a1 10) (bnd (s.2 6 a1.toNatClampNeg) fun v2 => if v2 = (-1 : Int32) then ((f_Stays_atBerth a1 (0 : Int32) (400 : Int32) s).bind fun v3 => if v3 = (-1 : Int32) then ((f_Tide_lowest (0 : Int32) (400 : Int32) s).bind fun v4 => (f_Berths_takes a1 a2 a3 v4 s).bind fun v5 => if v5 = 0 then (some (0 : Int32)) else (some (1 : Int32))) else (some (0 : Int32))) else (some (0 : Int32))))
theorem f_Hb_canBeHome_w {l : Launch} {D : va_G} {cI cZ cJ : ClassId} {ad : Nat → Nat} (a1 a2 a3 : Int32) (s : MS) {Q : Int32 → MS → Prop} {Post : Int32 → Prop} (hR : ∀ (r9 : Int32), Post (r9) → Q r9 s) (h : Ok (f_Hb_canBeHome a1 a2 a3 s) Post) : G (XX l D cI cZ cJ ad) "SmallHarbour" b_Hb_canBeHome 4 (some .boolean) 2 0 [(0, .ref (ad 0)), (1, .int a1), (2, .int a2), (3, .int a3)] [] s Q := by
  unfold f_Hb_canBeHome at h
  refine G_aload_n d_Hb_canBeHome_0 rfl 0 rfl ?_
  refine gx_Hb_berths d_Hb_canBeHome_1 w_348 ?_
  refine G_iload_n d_Hb_canBeHome_4 rfl 1 rfl ?_
  refine G_callVp (st := []) (As := [.int a1]) (b := ad 2) d_Hb_canBeHome_5 mi_Berths_has w_438 2 rfl rfl mv_Berths_has rfl (Nat.le_of_ble_eq_true rfl) (by decide) (c_Berths_has a1 s (Ok_bind h)) (fun v1 h hnv1 => ?_)
  refine G_if_eq (tgt := 24) d_Hb_canBeHome_8 (by decide) (fun c => ?_) (fun c => ?_)
  · replace h := Ok_t c h
    refine G_iconst d_Hb_canBeHome_24 lt_iconst_0 ?_
    replace h := Ok_some h
    exact G_iret rfl rfl d_Hb_canBeHome_25 (hR _ h)
  replace h := Ok_f c h
  refine G_aload_n d_Hb_canBeHome_11 rfl 0 rfl ?_
  refine gx_Hb_berths d_Hb_canBeHome_12 w_348 ?_
  refine gx_Berths_holder d_Hb_canBeHome_15 w_48 ?_
  refine G_iload_n d_Hb_canBeHome_18 rfl 1 rfl ?_
  refine lx_6 d_Hb_canBeHome_19 (Ok_ld h).1 (fun v2 e => ?_)
  replace h := (Ok_ld h).2 v2 e
  clear e
  refine G_iconst d_Hb_canBeHome_20 lt_iconst_m1 ?_
  refine G_icmp_eq (tgt := 26) d_Hb_canBeHome_21 (by decide) (fun c => ?_) (fun c => ?_)
  · replace h := Ok_t c h
    refine G_aload_n d_Hb_canBeHome_26 rfl 0 rfl ?_
    refine gx_Hb_stays d_Hb_canBeHome_27 w_351 ?_
    refine G_iload_n d_Hb_canBeHome_30 rfl 1 rfl ?_
    refine G_iconst d_Hb_canBeHome_31 lt_iconst_0 ?_
    refine G_sipush d_Hb_canBeHome_32 lt_sipush_400 ?_
    refine G_callVp (st := []) (As := [.int a1, .int (0 : Int32), .int (400 : Int32)]) (b := ad 5) d_Hb_canBeHome_35 mi_Stays_atBerth w_442 5 rfl rfl mv_Stays_atBerth rfl (Nat.le_of_ble_eq_true rfl) (by decide) (c_Stays_atBerth a1 (0 : Int32) (400 : Int32) s (Ok_bind h)) (fun v3 h hnv3 => ?_)
    refine G_iconst d_Hb_canBeHome_38 lt_iconst_m1 ?_
    refine G_icmp_ne (tgt := 70) d_Hb_canBeHome_39 (by decide) (fun c => ?_) (fun c => ?_)
    · replace h := Ok_f c h
      refine G_iconst d_Hb_canBeHome_70 lt_iconst_0 ?_
      replace h := Ok_some h
      exact G_iret rfl rfl d_Hb_canBeHome_71 (hR _ h)
    replace h := Ok_t c h
    refine G_aload_n d_Hb_canBeHome_42 rfl 0 rfl ?_
    refine gx_Hb_berths d_Hb_canBeHome_43 w_348 ?_
    refine G_iload_n d_Hb_canBeHome_46 rfl 1 rfl ?_
    refine G_iload_n d_Hb_canBeHome_47 rfl 2 rfl ?_
    refine G_iload_n d_Hb_canBeHome_48 rfl 3 rfl ?_
    refine G_aload_n d_Hb_canBeHome_49 rfl 0 rfl ?_
    refine gx_Hb_tide d_Hb_canBeHome_50 w_347 ?_
    refine G_iconst d_Hb_canBeHome_53 lt_iconst_0 ?_
    refine G_sipush d_Hb_canBeHome_54 lt_sipush_400 ?_
    refine G_callVp (st := [.int a3, .int a2, .int a1, .ref (ad 2)]) (As := [.int (0 : Int32), .int (400 : Int32)]) (b := ad 1) d_Hb_canBeHome_57 mi_Tide_lowest w_446 1 rfl rfl mv_Tide_lowest rfl (Nat.le_of_ble_eq_true rfl) (by decide) (c_Tide_lowest (0 : Int32) (400 : Int32) s (Ok_bind h)) (fun v4 h hnv4 => ?_)
    refine G_callVp (st := []) (As := [.int a1, .int a2, .int a3, .int v4]) (b := ad 2) d_Hb_canBeHome_60 mi_Berths_takes w_457 2 rfl rfl mv_Berths_takes rfl (Nat.le_of_ble_eq_true rfl) (by decide) (c_Berths_takes a1 a2 a3 v4 s (Ok_bind h)) (fun v5 h hnv5 => ?_)
    refine G_if_eq (tgt := 70) d_Hb_canBeHome_63 (by decide) (fun c => ?_) (fun c => ?_)
    · replace h := Ok_t c h
      refine G_iconst d_Hb_canBeHome_70 lt_iconst_0 ?_
      replace h := Ok_some h
      exact G_iret rfl rfl d_Hb_canBeHome_71 (hR _ h)
    replace h := Ok_f c h
    refine G_iconst d_Hb_canBeHome_66 lt_iconst_1 ?_
    refine G_goto (tgt := 71) d_Hb_canBeHome_67 (by decide) ?_
    replace h := Ok_some h
    exact G_iret rfl rfl d_Hb_canBeHome_71 (hR _ h)
  replace h := Ok_f c h
  refine G_iconst d_Hb_canBeHome_24 lt_iconst_0 ?_
  replace h := Ok_some h
  exact G_iret rfl rfl d_Hb_canBeHome_25 (hR _ h)
theorem c_Hb_canBeHome {l : Launch} {D : va_G} {cI cZ cJ : ClassId} {ad : Nat → Nat} (a1 a2 a3 : Int32) (s : MS) {P : Int32 → Prop} (h : Ok (f_Hb_canBeHome a1 a2 a3 s) P) : Ct (XX l D cI cZ cJ ad) y_Hb_canBeHome b_Hb_canBeHome 4 (some .boolean) 2 [.ref (ad 0), .int a1, .int a2, .int a3] s (fun r9 s9 => s9 = s ∧ P r9) :=
  Ct.of mi_Hb_canBeHome (Nat.le_of_ble_eq_true rfl) (f_Hb_canBeHome_w a1 a2 a3 s (fun _ h => ⟨rfl, h⟩) h)
-- Hb_boat
noncomputable def f_Hb_boat (a1 a2 a3 a4 : Int32) (s : MS) : Option (Int32 × MS) :=
  (f_Hb_isWithin a1 (10 : Int32) (400 : Int32)).bind fun v1 => if v1 = 0 then (some ((-1 : Int32), s)) else ((f_Hb_isWithin a2 (0 : Int32) (60 : Int32)).bind fun v2 => if v2 = 0 then (some ((-1 : Int32), s)) else ((f_Hb_isWithin a3 (1 : Int32) (500 : Int32)).bind fun v3 => if v3 = 0 then (some ((-1 : Int32), s)) else (if (s.1 3) < (30 : Int32) then (if a4 = (-1 : Int32) then (bd2 (f_Boats_add a1 a2 a3 (-1 : Int32) s) fun v8 s9 => some (v8, s9)) else ((f_Hb_canBeHome a4 a1 a2 s).bind fun v4 => if v4 = 0 then (some ((-1 : Int32), s)) else (bd2 (f_Boats_add a1 a2 a3 a4 s) fun v5 s6 => chk (inb a4 10) (bnd (pa s6 6 a4.toNatClampNeg v5) fun s7 => some (v5, s7))))) else (some ((-1 : Int32), s)))))
theorem f_Hb_boat_w {l : Launch} {D : va_G} {cI cZ cJ : ClassId} {ad : Nat → Nat} (a1 a2 a3 a4 : Int32) (s : MS) {Q : Int32 → MS → Prop} {Post : (Int32 × MS) → Prop} (hR : ∀ (r9 : Int32) (s9 : MS), Post ((r9, s9)) → Q r9 s9) (h : Ok (f_Hb_boat a1 a2 a3 a4 s) Post) : G (XX l D cI cZ cJ ad) "SmallHarbour" b_Hb_boat 6 (some .int) 3 0 [(0, .ref (ad 0)), (1, .int a1), (2, .int a2), (3, .int a3), (4, .int a4)] [] s Q := by
  unfold f_Hb_boat at h
  refine G_iload_n d_Hb_boat_0 rfl 1 rfl ?_
  refine G_bipush d_Hb_boat_1 lt_bipush_10 ?_
  refine G_sipush d_Hb_boat_3 lt_sipush_400 ?_
  refine G_callSp (st := []) (As := [.int a1, .int (10 : Int32), .int (400 : Int32)]) d_Hb_boat_6 mi_Hb_isWithin w_429 w_423 rfl (Nat.le_of_ble_eq_true rfl) (by decide) (c_Hb_isWithin a1 (10 : Int32) (400 : Int32) s (Ok_bind h)) (fun v1 h hnv1 => ?_)
  refine G_if_eq (tgt := 22) d_Hb_boat_9 (by decide) (fun c => ?_) (fun c => ?_)
  · replace h := Ok_t c h
    refine G_iconst d_Hb_boat_22 lt_iconst_m1 ?_
    replace h := Ok_some h
    exact G_iret rfl (vp_nar_int _) d_Hb_boat_23 (hR _ _ h)
  replace h := Ok_f c h
  refine G_iload_n d_Hb_boat_12 rfl 2 rfl ?_
  refine G_iconst d_Hb_boat_13 lt_iconst_0 ?_
  refine G_bipush d_Hb_boat_14 lt_bipush_60 ?_
  refine G_callSp (st := []) (As := [.int a2, .int (0 : Int32), .int (60 : Int32)]) d_Hb_boat_16 mi_Hb_isWithin w_429 w_423 rfl (Nat.le_of_ble_eq_true rfl) (by decide) (c_Hb_isWithin a2 (0 : Int32) (60 : Int32) s (Ok_bind h)) (fun v2 h hnv2 => ?_)
  refine G_if_ne (tgt := 24) d_Hb_boat_19 (by decide) (fun c => ?_) (fun c => ?_)
  · replace h := Ok_f c h
    refine G_iload_n d_Hb_boat_24 rfl 3 rfl ?_
    refine G_iconst d_Hb_boat_25 lt_iconst_1 ?_
    refine G_sipush d_Hb_boat_26 lt_sipush_500 ?_
    refine G_callSp (st := []) (As := [.int a3, .int (1 : Int32), .int (500 : Int32)]) d_Hb_boat_29 mi_Hb_isWithin w_429 w_423 rfl (Nat.le_of_ble_eq_true rfl) (by decide) (c_Hb_isWithin a3 (1 : Int32) (500 : Int32) s (Ok_bind h)) (fun v3 h hnv3 => ?_)
    refine G_if_eq (tgt := 47) d_Hb_boat_32 (by decide) (fun c => ?_) (fun c => ?_)
    · replace h := Ok_t c h
      refine G_iconst d_Hb_boat_47 lt_iconst_m1 ?_
      replace h := Ok_some h
      exact G_iret rfl (vp_nar_int _) d_Hb_boat_48 (hR _ _ h)
    replace h := Ok_f c h
    refine G_aload_n d_Hb_boat_35 rfl 0 rfl ?_
    refine gx_Hb_boats d_Hb_boat_36 w_349 ?_
    refine gx_Boats_count d_Hb_boat_39 w_75 ?_
    refine G_bipush d_Hb_boat_42 lt_bipush_30 ?_
    refine G_icmp_lt (tgt := 49) d_Hb_boat_44 (by decide) (fun c => ?_) (fun c => ?_)
    · replace h := Ok_t c h
      refine G_iload d_Hb_boat_49 4 rfl ?_
      refine G_iconst d_Hb_boat_51 lt_iconst_m1 ?_
      refine G_icmp_ne (tgt := 67) d_Hb_boat_52 (by decide) (fun c => ?_) (fun c => ?_)
      · replace h := Ok_f c h
        refine G_aload_n d_Hb_boat_67 rfl 0 rfl ?_
        refine G_iload d_Hb_boat_68 4 rfl ?_
        refine G_iload_n d_Hb_boat_70 rfl 1 rfl ?_
        refine G_iload_n d_Hb_boat_71 rfl 2 rfl ?_
        refine G_callVp (st := []) (As := [.int a4, .int a1, .int a2]) (b := ad 0) d_Hb_boat_72 mi_Hb_canBeHome w_434 0 rfl rfl mv_Hb_canBeHome rfl (Nat.le_of_ble_eq_true rfl) (by decide) (c_Hb_canBeHome a4 a1 a2 s (Ok_bind h)) (fun v4 h hnv4 => ?_)
        refine G_if_ne (tgt := 80) d_Hb_boat_75 (by decide) (fun c => ?_) (fun c => ?_)
        · replace h := Ok_f c h
          refine G_aload_n d_Hb_boat_80 rfl 0 rfl ?_
          refine gx_Hb_boats d_Hb_boat_81 w_349 ?_
          refine G_iload_n d_Hb_boat_84 rfl 1 rfl ?_
          refine G_iload_n d_Hb_boat_85 rfl 2 rfl ?_
          refine G_iload_n d_Hb_boat_86 rfl 3 rfl ?_
          refine G_iload d_Hb_boat_87 4 rfl ?_
          refine G_callVi (st := []) (As := [.int a1, .int a2, .int a3, .int a4]) (b := ad 3) d_Hb_boat_89 mi_Boats_add w_430 3 rfl rfl mv_Boats_add rfl (Nat.le_of_ble_eq_true rfl) (by decide) (c_Boats_add a1 a2 a3 a4 s (Ok_bd2 h)) (fun v5 s6 h hnv5 => ?_)
          refine G_istore d_Hb_boat_92 (Nat.le_of_ble_eq_true rfl) (fun x => [(5, .int x), (0, .ref (ad 0)), (1, .int a1), (2, .int a2), (3, .int a3), (4, .int a4)]) (fun _ => rfl) (fun x e => ?_)
          subst e
          refine G_aload_n d_Hb_boat_94 rfl 1 rfl ?_
          refine gx_Hb_berths d_Hb_boat_95 w_348 ?_
          refine gx_Berths_holder d_Hb_boat_98 w_48 ?_
          refine G_iload d_Hb_boat_101 5 rfl ?_
          refine G_iload d_Hb_boat_103 0 rfl ?_
          refine sx_6 d_Hb_boat_105 (Ok_ld h).1 (fun s7 e => ?_)
          replace h := (Ok_ld h).2 s7 e
          clear e
          refine G_iload d_Hb_boat_106 0 rfl ?_
          replace h := Ok_some h
          exact G_iret rfl (vp_nar_int _) d_Hb_boat_108 (hR _ _ h)
        replace h := Ok_t c h
        refine G_iconst d_Hb_boat_78 lt_iconst_m1 ?_
        replace h := Ok_some h
        exact G_iret rfl (vp_nar_int _) d_Hb_boat_79 (hR _ _ h)
      replace h := Ok_t c h
      refine G_aload_n d_Hb_boat_55 rfl 0 rfl ?_
      refine gx_Hb_boats d_Hb_boat_56 w_349 ?_
      refine G_iload_n d_Hb_boat_59 rfl 1 rfl ?_
      refine G_iload_n d_Hb_boat_60 rfl 2 rfl ?_
      refine G_iload_n d_Hb_boat_61 rfl 3 rfl ?_
      refine G_iconst d_Hb_boat_62 lt_iconst_m1 ?_
      refine G_callVi (st := []) (As := [.int a1, .int a2, .int a3, .int (-1 : Int32)]) (b := ad 3) d_Hb_boat_63 mi_Boats_add w_430 3 rfl rfl mv_Boats_add rfl (Nat.le_of_ble_eq_true rfl) (by decide) (c_Boats_add a1 a2 a3 (-1 : Int32) s (Ok_bd2 h)) (fun v8 s9 h hnv8 => ?_)
      replace h := Ok_some h
      exact G_iret rfl (vp_nar_int _) d_Hb_boat_66 (hR _ _ h)
    replace h := Ok_f c h
    refine G_iconst d_Hb_boat_47 lt_iconst_m1 ?_
    replace h := Ok_some h
    exact G_iret rfl (vp_nar_int _) d_Hb_boat_48 (hR _ _ h)
  replace h := Ok_t c h
  refine G_iconst d_Hb_boat_22 lt_iconst_m1 ?_
  replace h := Ok_some h
  exact G_iret rfl (vp_nar_int _) d_Hb_boat_23 (hR _ _ h)
theorem c_Hb_boat {l : Launch} {D : va_G} {cI cZ cJ : ClassId} {ad : Nat → Nat} (a1 a2 a3 a4 : Int32) (s : MS) {P : Int32 → MS → Prop} (h : Ok2 (f_Hb_boat a1 a2 a3 a4 s) P) : Ct (XX l D cI cZ cJ ad) y_Hb_boat b_Hb_boat 6 (some .int) 3 [.ref (ad 0), .int a1, .int a2, .int a3, .int a4] s (P) :=
  Ct.of mi_Hb_boat (Nat.le_of_ble_eq_true rfl) (f_Hb_boat_w a1 a2 a3 a4 s (Post := fun q => P q.1 q.2) (fun _ _ h => h) (Ok2_ok h))
-- Hb_boatOf
noncomputable def f_Hb_boatOf (a1 a2 : Int32) (s : MS) : Option Int32 :=
  (f_Boats_has a1 s).bind fun v1 => if v1 = 0 then (some (-1 : Int32)) else (bnd a2 fun v2 => if v2 = (0 : Int32) then (chk (inb a1 30) (bnd (s.2 7 a1.toNatClampNeg) fun v3 => some v3)) else (if v2 = (1 : Int32) then (chk (inb a1 30) (bnd (s.2 8 a1.toNatClampNeg) fun v4 => some v4)) else (if v2 = (2 : Int32) then (chk (inb a1 30) (bnd (s.2 9 a1.toNatClampNeg) fun v5 => some v5)) else (if v2 = (3 : Int32) then (chk (inb a1 30) (bnd (s.2 10 a1.toNatClampNeg) fun v6 => some v6)) else (if (100 : Int32) ≤ a2 then ((f_Hb_berthOf a1 (a2 - (100 : Int32)) s).bind fun v7 => some v7) else (some (-1 : Int32)))))))
theorem f_Hb_boatOf_w {l : Launch} {D : va_G} {cI cZ cJ : ClassId} {ad : Nat → Nat} (a1 a2 : Int32) (s : MS) {Q : Int32 → MS → Prop} {Post : Int32 → Prop} (hR : ∀ (r9 : Int32), Post (r9) → Q r9 s) (h : Ok (f_Hb_boatOf a1 a2 s) Post) : G (XX l D cI cZ cJ ad) "SmallHarbour" b_Hb_boatOf 3 (some .int) 2 0 [(0, .ref (ad 0)), (1, .int a1), (2, .int a2)] [] s Q := by
  unfold f_Hb_boatOf at h
  refine G_aload_n d_Hb_boatOf_0 rfl 0 rfl ?_
  refine gx_Hb_boats d_Hb_boatOf_1 w_349 ?_
  refine G_iload_n d_Hb_boatOf_4 rfl 1 rfl ?_
  refine G_callVp (st := []) (As := [.int a1]) (b := ad 3) d_Hb_boatOf_5 mi_Boats_has w_465 3 rfl rfl mv_Boats_has rfl (Nat.le_of_ble_eq_true rfl) (by decide) (c_Boats_has a1 s (Ok_bind h)) (fun v1 h hnv1 => ?_)
  refine G_if_ne (tgt := 13) d_Hb_boatOf_8 (by decide) (fun c => ?_) (fun c => ?_)
  · replace h := Ok_f c h
    refine G_iload_n d_Hb_boatOf_13 rfl 2 rfl ?_
    refine G_topi (fun v2 e => ?_)
    replace h := Ok_bnd h v2 e
    clear e
    by_cases c0 : v2 = (0 : Int32)
    · replace h := Ok_t c0 h
      refine G_tableIn (tgt := 44) d_Hb_boatOf_14 (by rw [c0]; decide) (by rw [c0]; decide) (by rw [c0]; rfl) (by decide) ?_
      refine G_aload_n d_Hb_boatOf_44 rfl 0 rfl ?_
      refine gx_Hb_boats d_Hb_boatOf_45 w_349 ?_
      refine gx_Boats_length d_Hb_boatOf_48 w_67 ?_
      refine G_iload_n d_Hb_boatOf_51 rfl 1 rfl ?_
      refine lx_7 d_Hb_boatOf_52 (Ok_ld h).1 (fun v3 e => ?_)
      replace h := (Ok_ld h).2 v3 e
      clear e
      replace h := Ok_some h
      exact G_iret rfl (vp_nar_int _) d_Hb_boatOf_53 (hR _ h)
    replace h := Ok_f c0 h
    have n0 := ne_ti (z := 0) (by decide) c0
    by_cases c1 : v2 = (1 : Int32)
    · replace h := Ok_t c1 h
      refine G_tableIn (tgt := 54) d_Hb_boatOf_14 (by rw [c1]; decide) (by rw [c1]; decide) (by rw [c1]; rfl) (by decide) ?_
      refine G_aload_n d_Hb_boatOf_54 rfl 0 rfl ?_
      refine gx_Hb_boats d_Hb_boatOf_55 w_349 ?_
      refine gx_Boats_draught d_Hb_boatOf_58 w_69 ?_
      refine G_iload_n d_Hb_boatOf_61 rfl 1 rfl ?_
      refine lx_8 d_Hb_boatOf_62 (Ok_ld h).1 (fun v4 e => ?_)
      replace h := (Ok_ld h).2 v4 e
      clear e
      replace h := Ok_some h
      exact G_iret rfl (vp_nar_int _) d_Hb_boatOf_63 (hR _ h)
    replace h := Ok_f c1 h
    have n1 := ne_ti (z := 1) (by decide) c1
    by_cases c2 : v2 = (2 : Int32)
    · replace h := Ok_t c2 h
      refine G_tableIn (tgt := 64) d_Hb_boatOf_14 (by rw [c2]; decide) (by rw [c2]; decide) (by rw [c2]; rfl) (by decide) ?_
      refine G_aload_n d_Hb_boatOf_64 rfl 0 rfl ?_
      refine gx_Hb_boats d_Hb_boatOf_65 w_349 ?_
      refine gx_Boats_weight d_Hb_boatOf_68 w_71 ?_
      refine G_iload_n d_Hb_boatOf_71 rfl 1 rfl ?_
      refine lx_9 d_Hb_boatOf_72 (Ok_ld h).1 (fun v5 e => ?_)
      replace h := (Ok_ld h).2 v5 e
      clear e
      replace h := Ok_some h
      exact G_iret rfl (vp_nar_int _) d_Hb_boatOf_73 (hR _ h)
    replace h := Ok_f c2 h
    have n2 := ne_ti (z := 2) (by decide) c2
    by_cases c3 : v2 = (3 : Int32)
    · replace h := Ok_t c3 h
      refine G_tableIn (tgt := 74) d_Hb_boatOf_14 (by rw [c3]; decide) (by rw [c3]; decide) (by rw [c3]; rfl) (by decide) ?_
      refine G_aload_n d_Hb_boatOf_74 rfl 0 rfl ?_
      refine gx_Hb_boats d_Hb_boatOf_75 w_349 ?_
      refine gx_Boats_home d_Hb_boatOf_78 w_73 ?_
      refine G_iload_n d_Hb_boatOf_81 rfl 1 rfl ?_
      refine lx_10 d_Hb_boatOf_82 (Ok_ld h).1 (fun v6 e => ?_)
      replace h := (Ok_ld h).2 v6 e
      clear e
      replace h := Ok_some h
      exact G_iret rfl (vp_nar_int _) d_Hb_boatOf_83 (hR _ h)
    replace h := Ok_f c3 h
    have n3 := ne_ti (z := 3) (by decide) c3
    refine G_tableOut (tgt := 84) d_Hb_boatOf_14 (by omega) (by decide) ?_
    refine G_iload_n d_Hb_boatOf_84 rfl 2 rfl ?_
    refine G_bipush d_Hb_boatOf_85 lt_bipush_100 ?_
    refine G_icmp_ge (tgt := 94) d_Hb_boatOf_87 (by decide) (fun c => ?_) (fun c => ?_)
    · replace h := Ok_t c h
      refine G_aload_n d_Hb_boatOf_94 rfl 0 rfl ?_
      refine G_iload_n d_Hb_boatOf_95 rfl 1 rfl ?_
      refine G_iload_n d_Hb_boatOf_96 rfl 2 rfl ?_
      refine G_bipush d_Hb_boatOf_97 lt_bipush_100 ?_
      refine G_isub d_Hb_boatOf_99 ?_
      refine G_callVp (st := []) (As := [.int a1, .int (a2 - (100 : Int32))]) (b := ad 0) d_Hb_boatOf_100 mi_Hb_berthOf w_469 0 rfl rfl mv_Hb_berthOf rfl (Nat.le_of_ble_eq_true rfl) (by decide) (c_Hb_berthOf a1 (a2 - (100 : Int32)) s (Ok_bind h)) (fun v7 h hnv7 => ?_)
      replace h := Ok_some h
      exact G_iret rfl (vp_nar_int _) d_Hb_boatOf_103 (hR _ h)
    replace h := Ok_f c h
    refine G_iconst d_Hb_boatOf_90 lt_iconst_m1 ?_
    refine G_goto (tgt := 103) d_Hb_boatOf_91 (by decide) ?_
    replace h := Ok_some h
    exact G_iret rfl (vp_nar_int _) d_Hb_boatOf_103 (hR _ h)
  replace h := Ok_t c h
  refine G_iconst d_Hb_boatOf_11 lt_iconst_m1 ?_
  replace h := Ok_some h
  exact G_iret rfl (vp_nar_int _) d_Hb_boatOf_12 (hR _ h)
theorem c_Hb_boatOf {l : Launch} {D : va_G} {cI cZ cJ : ClassId} {ad : Nat → Nat} (a1 a2 : Int32) (s : MS) {P : Int32 → Prop} (h : Ok (f_Hb_boatOf a1 a2 s) P) : Ct (XX l D cI cZ cJ ad) y_Hb_boatOf b_Hb_boatOf 3 (some .int) 2 [.ref (ad 0), .int a1, .int a2] s (fun r9 s9 => s9 = s ∧ P r9) :=
  Ct.of mi_Hb_boatOf (Nat.le_of_ble_eq_true rfl) (f_Hb_boatOf_w a1 a2 s (fun _ h => ⟨rfl, h⟩) h)
-- Hb_broken
noncomputable def f_Hb_broken (a1 a2 : Int32) (s : MS) : Option (Int32 × MS) :=
  (f_Hb_isDay a1).bind fun v1 => if v1 = 0 then (some ((0 : Int32), s)) else (chk (inb a1 400) (bnd (pa s 27 a1.toNatClampNeg (vp_nar .boolean a2)) fun s2 => some ((1 : Int32), s2)))
theorem f_Hb_broken_w {l : Launch} {D : va_G} {cI cZ cJ : ClassId} {ad : Nat → Nat} (a1 a2 : Int32) (s : MS) {Q : Int32 → MS → Prop} {Post : (Int32 × MS) → Prop} (hR : ∀ (r9 : Int32) (s9 : MS), Post ((r9, s9)) → Q r9 s9) (h : Ok (f_Hb_broken a1 a2 s) Post) : G (XX l D cI cZ cJ ad) "SmallHarbour" b_Hb_broken 3 (some .boolean) 1 0 [(0, .ref (ad 0)), (1, .int a1), (2, .int a2)] [] s Q := by
  unfold f_Hb_broken at h
  refine G_iload_n d_Hb_broken_0 rfl 1 rfl ?_
  refine G_callSp (st := []) (As := [.int a1]) d_Hb_broken_1 mi_Hb_isDay w_473 w_474 rfl (Nat.le_of_ble_eq_true rfl) (by decide) (c_Hb_isDay a1 s (Ok_bind h)) (fun v1 h hnv1 => ?_)
  refine G_if_ne (tgt := 9) d_Hb_broken_4 (by decide) (fun c => ?_) (fun c => ?_)
  · replace h := Ok_f c h
    refine G_aload_n d_Hb_broken_9 rfl 0 rfl ?_
    refine gx_Hb_crane d_Hb_broken_10 w_353 ?_
    refine gx_Hoist_isBroken d_Hb_broken_13 w_192 ?_
    refine G_iload_n d_Hb_broken_16 rfl 1 rfl ?_
    refine G_iload_n d_Hb_broken_17 rfl 2 rfl ?_
    refine sx_27 d_Hb_broken_18 (Ok_ld h).1 (fun s2 e => ?_)
    replace h := (Ok_ld h).2 s2 e
    clear e
    refine G_iconst d_Hb_broken_19 lt_iconst_1 ?_
    replace h := Ok_some h
    exact G_iret rfl rfl d_Hb_broken_20 (hR _ _ h)
  replace h := Ok_t c h
  refine G_iconst d_Hb_broken_7 lt_iconst_0 ?_
  replace h := Ok_some h
  exact G_iret rfl rfl d_Hb_broken_8 (hR _ _ h)
theorem c_Hb_broken {l : Launch} {D : va_G} {cI cZ cJ : ClassId} {ad : Nat → Nat} (a1 a2 : Int32) (s : MS) {P : Int32 → MS → Prop} (h : Ok2 (f_Hb_broken a1 a2 s) P) : Ct (XX l D cI cZ cJ ad) y_Hb_broken b_Hb_broken 3 (some .boolean) 1 [.ref (ad 0), .int a1, .int a2] s (P) :=
  Ct.of mi_Hb_broken (Nat.le_of_ble_eq_true rfl) (f_Hb_broken_w a1 a2 s (Post := fun q => P q.1 q.2) (fun _ _ h => h) (Ok2_ok h))
-- Hb_fitsAllNights
noncomputable def f_Hb_fitsAllNights (a1 a2 a3 a4 : Int32) (s : MS) : Option Int32 :=
  chk (inb a1 30) (bnd (s.2 7 a1.toNatClampNeg) fun v1 => chk (inb a1 30) (bnd (s.2 8 a1.toNatClampNeg) fun v2 => (f_Tide_lowest a3 a4 s).bind fun v3 => (f_Berths_takes a2 v1 v2 v3 s).bind fun v4 => some v4))
theorem f_Hb_fitsAllNights_w {l : Launch} {D : va_G} {cI cZ cJ : ClassId} {ad : Nat → Nat} (a1 a2 a3 a4 : Int32) (s : MS) {Q : Int32 → MS → Prop} {Post : Int32 → Prop} (hR : ∀ (r9 : Int32), Post (r9) → Q r9 s) (h : Ok (f_Hb_fitsAllNights a1 a2 a3 a4 s) Post) : G (XX l D cI cZ cJ ad) "SmallHarbour" b_Hb_fitsAllNights 5 (some .boolean) 2 0 [(0, .ref (ad 0)), (1, .int a1), (2, .int a2), (3, .int a3), (4, .int a4)] [] s Q := by
  unfold f_Hb_fitsAllNights at h
  refine G_aload_n d_Hb_fitsAllNights_0 rfl 0 rfl ?_
  refine gx_Hb_berths d_Hb_fitsAllNights_1 w_348 ?_
  refine G_iload_n d_Hb_fitsAllNights_4 rfl 2 rfl ?_
  refine G_aload_n d_Hb_fitsAllNights_5 rfl 0 rfl ?_
  refine gx_Hb_boats d_Hb_fitsAllNights_6 w_349 ?_
  refine gx_Boats_length d_Hb_fitsAllNights_9 w_67 ?_
  refine G_iload_n d_Hb_fitsAllNights_12 rfl 1 rfl ?_
  refine lx_7 d_Hb_fitsAllNights_13 (Ok_ld h).1 (fun v1 e => ?_)
  replace h := (Ok_ld h).2 v1 e
  clear e
  refine G_aload_n d_Hb_fitsAllNights_14 rfl 0 rfl ?_
  refine gx_Hb_boats d_Hb_fitsAllNights_15 w_349 ?_
  refine gx_Boats_draught d_Hb_fitsAllNights_18 w_69 ?_
  refine G_iload_n d_Hb_fitsAllNights_21 rfl 1 rfl ?_
  refine lx_8 d_Hb_fitsAllNights_22 (Ok_ld h).1 (fun v2 e => ?_)
  replace h := (Ok_ld h).2 v2 e
  clear e
  refine G_aload_n d_Hb_fitsAllNights_23 rfl 0 rfl ?_
  refine gx_Hb_tide d_Hb_fitsAllNights_24 w_347 ?_
  refine G_iload_n d_Hb_fitsAllNights_27 rfl 3 rfl ?_
  refine G_iload d_Hb_fitsAllNights_28 4 rfl ?_
  refine G_callVp (st := [.int v2, .int v1, .int a2, .ref (ad 2)]) (As := [.int a3, .int a4]) (b := ad 1) d_Hb_fitsAllNights_30 mi_Tide_lowest w_446 1 rfl rfl mv_Tide_lowest rfl (Nat.le_of_ble_eq_true rfl) (by decide) (c_Tide_lowest a3 a4 s (Ok_bind h)) (fun v3 h hnv3 => ?_)
  refine G_callVp (st := []) (As := [.int a2, .int v1, .int v2, .int v3]) (b := ad 2) d_Hb_fitsAllNights_33 mi_Berths_takes w_457 2 rfl rfl mv_Berths_takes rfl (Nat.le_of_ble_eq_true rfl) (by decide) (c_Berths_takes a2 v1 v2 v3 s (Ok_bind h)) (fun v4 h hnv4 => ?_)
  replace h := Ok_some h
  exact G_iret rfl hnv4 d_Hb_fitsAllNights_36 (hR _ h)
theorem c_Hb_fitsAllNights {l : Launch} {D : va_G} {cI cZ cJ : ClassId} {ad : Nat → Nat} (a1 a2 a3 a4 : Int32) (s : MS) {P : Int32 → Prop} (h : Ok (f_Hb_fitsAllNights a1 a2 a3 a4 s) P) : Ct (XX l D cI cZ cJ ad) y_Hb_fitsAllNights b_Hb_fitsAllNights 5 (some .boolean) 2 [.ref (ad 0), .int a1, .int a2, .int a3, .int a4] s (fun r9 s9 => s9 = s ∧ P r9) :=
  Ct.of mi_Hb_fitsAllNights (Nat.le_of_ble_eq_true rfl) (f_Hb_fitsAllNights_w a1 a2 a3 a4 s (fun _ h => ⟨rfl, h⟩) h)
-- Hb_isOwnerThere
noncomputable def f_Hb_isOwnerThere (a1 a2 a3 : Int32) (s : MS) : Option Int32 :=
  chk (inb a1 10) (bnd (s.2 6 a1.toNatClampNeg) fun v1 => if v1 = (-1 : Int32) then (some (0 : Int32)) else ((f_Spans_nightsAway v1 a2 a3 s).bind fun v2 => if (a3 - a2) ≤ v2 then (some (0 : Int32)) else (some (1 : Int32))))
theorem f_Hb_isOwnerThere_w {l : Launch} {D : va_G} {cI cZ cJ : ClassId} {ad : Nat → Nat} (a1 a2 a3 : Int32) (s : MS) {Q : Int32 → MS → Prop} {Post : Int32 → Prop} (hR : ∀ (r9 : Int32), Post (r9) → Q r9 s) (h : Ok (f_Hb_isOwnerThere a1 a2 a3 s) Post) : G (XX l D cI cZ cJ ad) "SmallHarbour" b_Hb_isOwnerThere 5 (some .boolean) 2 0 [(0, .ref (ad 0)), (1, .int a1), (2, .int a2), (3, .int a3)] [] s Q := by
  unfold f_Hb_isOwnerThere at h
  refine G_aload_n d_Hb_isOwnerThere_0 rfl 0 rfl ?_
  refine gx_Hb_berths d_Hb_isOwnerThere_1 w_348 ?_
  refine gx_Berths_holder d_Hb_isOwnerThere_4 w_48 ?_
  refine G_iload_n d_Hb_isOwnerThere_7 rfl 1 rfl ?_
  refine lx_6 d_Hb_isOwnerThere_8 (Ok_ld h).1 (fun v1 e => ?_)
  replace h := (Ok_ld h).2 v1 e
  clear e
  refine G_istore d_Hb_isOwnerThere_9 (Nat.le_of_ble_eq_true rfl) (fun x => [(4, .int x), (0, .ref (ad 0)), (1, .int a1), (2, .int a2), (3, .int a3)]) (fun _ => rfl) (fun x e => ?_)
  subst e
  refine G_iload d_Hb_isOwnerThere_11 0 rfl ?_
  refine G_iconst d_Hb_isOwnerThere_13 lt_iconst_m1 ?_
  refine G_icmp_eq (tgt := 38) d_Hb_isOwnerThere_14 (by decide) (fun c => ?_) (fun c => ?_)
  · replace h := Ok_t c h
    refine G_iconst d_Hb_isOwnerThere_38 lt_iconst_0 ?_
    replace h := Ok_some h
    exact G_iret rfl rfl d_Hb_isOwnerThere_39 (hR _ h)
  replace h := Ok_f c h
  refine G_aload_n d_Hb_isOwnerThere_17 rfl 1 rfl ?_
  refine gx_Hb_spans d_Hb_isOwnerThere_18 w_350 ?_
  refine G_iload d_Hb_isOwnerThere_21 0 rfl ?_
  refine G_iload_n d_Hb_isOwnerThere_23 rfl 3 rfl ?_
  refine G_iload_n d_Hb_isOwnerThere_24 rfl 4 rfl ?_
  refine G_callVp (st := []) (As := [.int v1, .int a2, .int a3]) (b := ad 4) d_Hb_isOwnerThere_25 mi_Spans_nightsAway w_500 4 rfl rfl mv_Spans_nightsAway rfl (Nat.le_of_ble_eq_true rfl) (by decide) (c_Spans_nightsAway v1 a2 a3 s (Ok_bind h)) (fun v2 h hnv2 => ?_)
  refine G_iload_n d_Hb_isOwnerThere_28 rfl 4 rfl ?_
  refine G_iload_n d_Hb_isOwnerThere_29 rfl 3 rfl ?_
  refine G_isub d_Hb_isOwnerThere_30 ?_
  refine G_icmp_ge (tgt := 38) d_Hb_isOwnerThere_31 (by decide) (fun c => ?_) (fun c => ?_)
  · replace h := Ok_t c h
    refine G_iconst d_Hb_isOwnerThere_38 lt_iconst_0 ?_
    replace h := Ok_some h
    exact G_iret rfl rfl d_Hb_isOwnerThere_39 (hR _ h)
  replace h := Ok_f c h
  refine G_iconst d_Hb_isOwnerThere_34 lt_iconst_1 ?_
  refine G_goto (tgt := 39) d_Hb_isOwnerThere_35 (by decide) ?_
  replace h := Ok_some h
  exact G_iret rfl rfl d_Hb_isOwnerThere_39 (hR _ h)
theorem c_Hb_isOwnerThere {l : Launch} {D : va_G} {cI cZ cJ : ClassId} {ad : Nat → Nat} (a1 a2 a3 : Int32) (s : MS) {P : Int32 → Prop} (h : Ok (f_Hb_isOwnerThere a1 a2 a3 s) P) : Ct (XX l D cI cZ cJ ad) y_Hb_isOwnerThere b_Hb_isOwnerThere 5 (some .boolean) 2 [.ref (ad 0), .int a1, .int a2, .int a3] s (fun r9 s9 => s9 = s ∧ P r9) :=
  Ct.of mi_Hb_isOwnerThere (Nat.le_of_ble_eq_true rfl) (f_Hb_isOwnerThere_w a1 a2 a3 s (fun _ h => ⟨rfl, h⟩) h)
-- Hb_canLie
noncomputable def f_Hb_canLie (a1 a2 a3 a4 : Int32) (s : MS) : Option Int32 :=
  (f_Hb_fitsAllNights a1 a2 a3 a4 s).bind fun v1 => if v1 = 0 then (some (0 : Int32)) else ((f_Hb_isOwnerThere a2 a3 a4 s).bind fun v2 => if v2 = 0 then (some (1 : Int32)) else (some (0 : Int32)))
theorem f_Hb_canLie_w {l : Launch} {D : va_G} {cI cZ cJ : ClassId} {ad : Nat → Nat} (a1 a2 a3 a4 : Int32) (s : MS) {Q : Int32 → MS → Prop} {Post : Int32 → Prop} (hR : ∀ (r9 : Int32), Post (r9) → Q r9 s) (h : Ok (f_Hb_canLie a1 a2 a3 a4 s) Post) : G (XX l D cI cZ cJ ad) "SmallHarbour" b_Hb_canLie 5 (some .boolean) 3 0 [(0, .ref (ad 0)), (1, .int a1), (2, .int a2), (3, .int a3), (4, .int a4)] [] s Q := by
  unfold f_Hb_canLie at h
  refine G_aload_n d_Hb_canLie_0 rfl 0 rfl ?_
  refine G_iload_n d_Hb_canLie_1 rfl 1 rfl ?_
  refine G_iload_n d_Hb_canLie_2 rfl 2 rfl ?_
  refine G_iload_n d_Hb_canLie_3 rfl 3 rfl ?_
  refine G_iload d_Hb_canLie_4 4 rfl ?_
  refine G_callVp (st := []) (As := [.int a1, .int a2, .int a3, .int a4]) (b := ad 0) d_Hb_canLie_6 mi_Hb_fitsAllNights w_488 0 rfl rfl mv_Hb_fitsAllNights rfl (Nat.le_of_ble_eq_true rfl) (by decide) (c_Hb_fitsAllNights a1 a2 a3 a4 s (Ok_bind h)) (fun v1 h hnv1 => ?_)
  refine G_if_eq (tgt := 27) d_Hb_canLie_9 (by decide) (fun c => ?_) (fun c => ?_)
  · replace h := Ok_t c h
    refine G_iconst d_Hb_canLie_27 lt_iconst_0 ?_
    replace h := Ok_some h
    exact G_iret rfl rfl d_Hb_canLie_28 (hR _ h)
  replace h := Ok_f c h
  refine G_aload_n d_Hb_canLie_12 rfl 0 rfl ?_
  refine G_iload_n d_Hb_canLie_13 rfl 2 rfl ?_
  refine G_iload_n d_Hb_canLie_14 rfl 3 rfl ?_
  refine G_iload d_Hb_canLie_15 4 rfl ?_
  refine G_callVp (st := []) (As := [.int a2, .int a3, .int a4]) (b := ad 0) d_Hb_canLie_17 mi_Hb_isOwnerThere w_496 0 rfl rfl mv_Hb_isOwnerThere rfl (Nat.le_of_ble_eq_true rfl) (by decide) (c_Hb_isOwnerThere a2 a3 a4 s (Ok_bind h)) (fun v2 h hnv2 => ?_)
  refine G_if_ne (tgt := 27) d_Hb_canLie_20 (by decide) (fun c => ?_) (fun c => ?_)
  · replace h := Ok_f c h
    refine G_iconst d_Hb_canLie_27 lt_iconst_0 ?_
    replace h := Ok_some h
    exact G_iret rfl rfl d_Hb_canLie_28 (hR _ h)
  replace h := Ok_t c h
  refine G_iconst d_Hb_canLie_23 lt_iconst_1 ?_
  refine G_goto (tgt := 28) d_Hb_canLie_24 (by decide) ?_
  replace h := Ok_some h
  exact G_iret rfl rfl d_Hb_canLie_28 (hR _ h)
theorem c_Hb_canLie {l : Launch} {D : va_G} {cI cZ cJ : ClassId} {ad : Nat → Nat} (a1 a2 a3 a4 : Int32) (s : MS) {P : Int32 → Prop} (h : Ok (f_Hb_canLie a1 a2 a3 a4 s) P) : Ct (XX l D cI cZ cJ ad) y_Hb_canLie b_Hb_canLie 5 (some .boolean) 3 [.ref (ad 0), .int a1, .int a2, .int a3, .int a4] s (fun r9 s9 => s9 = s ∧ P r9) :=
  Ct.of mi_Hb_canLie (Nat.le_of_ble_eq_true rfl) (f_Hb_canLie_w a1 a2 a3 a4 s (fun _ h => ⟨rfl, h⟩) h)
-- Stays_add
noncomputable def f_Stays_add (a1 a2 a3 a4 : Int32) (s : MS) : Option (Int32 × MS) :=
  if (s.1 5) < (40 : Int32) then (chk (inb (s.1 5) 40) (bnd (pa s 14 (s.1 5).toNatClampNeg a1) fun s1 => chk (inb (s1.1 5) 40) (bnd (pa s1 15 (s1.1 5).toNatClampNeg a2) fun s2 => chk (inb (s2.1 5) 40) (bnd (pa s2 16 (s2.1 5).toNatClampNeg a3) fun s3 => chk (inb (s3.1 5) 40) (bnd (pa s3 17 (s3.1 5).toNatClampNeg a4) fun s4 => bnd (pf s4 5 ((s4.1 5) + (1 : Int32))) fun s5 => some ((s4.1 5), s5)))))) else (some ((-1 : Int32), s))
theorem f_Stays_add_w {l : Launch} {D : va_G} {cI cZ cJ : ClassId} {ad : Nat → Nat} (a1 a2 a3 a4 : Int32) (s : MS) {Q : Int32 → MS → Prop} {Post : (Int32 × MS) → Prop} (hR : ∀ (r9 : Int32) (s9 : MS), Post ((r9, s9)) → Q r9 s9) (h : Ok (f_Stays_add a1 a2 a3 a4 s) Post) : G (XX l D cI cZ cJ ad) "SmallHarbour$Stays" b_Stays_add 5 (some .int) 0 0 [(0, .ref (ad 5)), (1, .int a1), (2, .int a2), (3, .int a3), (4, .int a4)] [] s Q := by
  unfold f_Stays_add at h
  refine G_aload_n d_Stays_add_0 rfl 0 rfl ?_
  refine gx_Stays_count d_Stays_add_1 w_123 ?_
  refine G_bipush d_Stays_add_4 lt_bipush_40 ?_
  refine G_icmp_lt (tgt := 11) d_Stays_add_6 (by decide) (fun c => ?_) (fun c => ?_)
  · replace h := Ok_t c h
    refine G_aload_n d_Stays_add_11 rfl 0 rfl ?_
    refine gx_Stays_boat d_Stays_add_12 w_115 ?_
    refine G_aload_n d_Stays_add_15 rfl 0 rfl ?_
    refine gx_Stays_count d_Stays_add_16 w_123 ?_
    refine G_iload_n d_Stays_add_19 rfl 1 rfl ?_
    refine sx_14 d_Stays_add_20 (Ok_ld h).1 (fun s1 e => ?_)
    replace h := (Ok_ld h).2 s1 e
    clear e
    refine G_aload_n d_Stays_add_21 rfl 0 rfl ?_
    refine gx_Stays_berth d_Stays_add_22 w_117 ?_
    refine G_aload_n d_Stays_add_25 rfl 0 rfl ?_
    refine gx_Stays_count d_Stays_add_26 w_123 ?_
    refine G_iload_n d_Stays_add_29 rfl 2 rfl ?_
    refine sx_15 d_Stays_add_30 (Ok_ld h).1 (fun s2 e => ?_)
    replace h := (Ok_ld h).2 s2 e
    clear e
    refine G_aload_n d_Stays_add_31 rfl 0 rfl ?_
    refine gx_Stays_from d_Stays_add_32 w_119 ?_
    refine G_aload_n d_Stays_add_35 rfl 0 rfl ?_
    refine gx_Stays_count d_Stays_add_36 w_123 ?_
    refine G_iload_n d_Stays_add_39 rfl 3 rfl ?_
    refine sx_16 d_Stays_add_40 (Ok_ld h).1 (fun s3 e => ?_)
    replace h := (Ok_ld h).2 s3 e
    clear e
    refine G_aload_n d_Stays_add_41 rfl 0 rfl ?_
    refine gx_Stays_to d_Stays_add_42 w_121 ?_
    refine G_aload_n d_Stays_add_45 rfl 0 rfl ?_
    refine gx_Stays_count d_Stays_add_46 w_123 ?_
    refine G_iload d_Stays_add_49 4 rfl ?_
    refine sx_17 d_Stays_add_51 (Ok_ld h).1 (fun s4 e => ?_)
    replace h := (Ok_ld h).2 s4 e
    clear e
    refine G_aload_n d_Stays_add_52 rfl 0 rfl ?_
    refine G_dup d_Stays_add_53 rfl ?_
    refine gx_Stays_count d_Stays_add_54 w_123 ?_
    refine G_dup_x1 d_Stays_add_57 rfl rfl ?_
    refine G_iconst d_Stays_add_58 lt_iconst_1 ?_
    refine G_iadd d_Stays_add_59 ?_
    refine px_Stays_count d_Stays_add_60 w_123 (fun s5 e => ?_)
    replace h := Ok_bnd h s5 e
    clear e
    replace h := Ok_some h
    exact G_iret rfl (vp_nar_int _) d_Stays_add_63 (hR _ _ h)
  replace h := Ok_f c h
  refine G_iconst d_Stays_add_9 lt_iconst_m1 ?_
  replace h := Ok_some h
  exact G_iret rfl (vp_nar_int _) d_Stays_add_10 (hR _ _ h)
theorem c_Stays_add {l : Launch} {D : va_G} {cI cZ cJ : ClassId} {ad : Nat → Nat} (a1 a2 a3 a4 : Int32) (s : MS) {P : Int32 → MS → Prop} (h : Ok2 (f_Stays_add a1 a2 a3 a4 s) P) : Ct (XX l D cI cZ cJ ad) y_Stays_add b_Stays_add 5 (some .int) 0 [.ref (ad 5), .int a1, .int a2, .int a3, .int a4] s (P) :=
  Ct.of mi_Stays_add (Nat.le_of_ble_eq_true rfl) (f_Stays_add_w a1 a2 a3 a4 s (Post := fun q => P q.1 q.2) (fun _ _ h => h) (Ok2_ok h))
-- Walk_isMoved
noncomputable def f_Walk_isMoved (a1 : Int32) (s : MS) : Option Int32 :=
  chk (inb a1 12) (bnd (s.2 19 a1.toNatClampNeg) fun v1 => chk (inb a1 12) (bnd (s.2 20 a1.toNatClampNeg) fun v2 => if v1 = v2 then (some (0 : Int32)) else (some (1 : Int32))))
theorem f_Walk_isMoved_w {l : Launch} {D : va_G} {cI cZ cJ : ClassId} {ad : Nat → Nat} (a1 : Int32) (s : MS) {Q : Int32 → MS → Prop} {Post : Int32 → Prop} (hR : ∀ (r9 : Int32), Post (r9) → Q r9 s) (h : Ok (f_Walk_isMoved a1 s) Post) : G (XX l D cI cZ cJ ad) "SmallHarbour$Walk" b_Walk_isMoved 2 (some .boolean) 0 0 [(0, .ref (ad 6)), (1, .int a1)] [] s Q := by
  unfold f_Walk_isMoved at h
  refine G_aload_n d_Walk_isMoved_0 rfl 0 rfl ?_
  refine gx_Walk_best d_Walk_isMoved_1 w_144 ?_
  refine G_iload_n d_Walk_isMoved_4 rfl 1 rfl ?_
  refine lx_19 d_Walk_isMoved_5 (Ok_ld h).1 (fun v1 e => ?_)
  replace h := (Ok_ld h).2 v1 e
  clear e
  refine G_aload_n d_Walk_isMoved_6 rfl 0 rfl ?_
  refine gx_Walk_own d_Walk_isMoved_7 w_148 ?_
  refine G_iload_n d_Walk_isMoved_10 rfl 1 rfl ?_
  refine lx_20 d_Walk_isMoved_11 (Ok_ld h).1 (fun v2 e => ?_)
  replace h := (Ok_ld h).2 v2 e
  clear e
  refine G_icmp_eq (tgt := 19) d_Walk_isMoved_12 (by decide) (fun c => ?_) (fun c => ?_)
  · replace h := Ok_t c h
    refine G_iconst d_Walk_isMoved_19 lt_iconst_0 ?_
    replace h := Ok_some h
    exact G_iret rfl rfl d_Walk_isMoved_20 (hR _ h)
  replace h := Ok_f c h
  refine G_iconst d_Walk_isMoved_15 lt_iconst_1 ?_
  refine G_goto (tgt := 20) d_Walk_isMoved_16 (by decide) ?_
  replace h := Ok_some h
  exact G_iret rfl rfl d_Walk_isMoved_20 (hR _ h)
theorem c_Walk_isMoved {l : Launch} {D : va_G} {cI cZ cJ : ClassId} {ad : Nat → Nat} (a1 : Int32) (s : MS) {P : Int32 → Prop} (h : Ok (f_Walk_isMoved a1 s) P) : Ct (XX l D cI cZ cJ ad) y_Walk_isMoved b_Walk_isMoved 2 (some .boolean) 0 [.ref (ad 6), .int a1] s (fun r9 s9 => s9 = s ∧ P r9) :=
  Ct.of mi_Walk_isMoved (Nat.le_of_ble_eq_true rfl) (f_Walk_isMoved_w a1 s (fun _ h => ⟨rfl, h⟩) h)
