-- Md_winter
noncomputable def Md_winter_l32 (x1 x2 : Int32) (s : MS) (x3 : Int32) : Option ((Int32) ⊕ (Int32 × MS)) :=
  if (s.1 18) ≤ x3 then (xit (chk (inb (s.1 18) 9) (bnd (pa s 25 (s.1 18).toNatClampNeg x1) fun s1 => chk (inb (s1.1 18) 9) (bnd (pa s1 26 (s1.1 18).toNatClampNeg x2) fun s2 => bnd (pf s2 18 ((s2.1 18) + (1 : Int32))) fun s3 => some ((s3.1 18), s3))))) else (chk (inb x3 9) (bnd (s.2 25 x3.toNatClampNeg) fun v4 => if v4 = x1 then (xit (some ((-1 : Int32), s))) else (bnd (x3 + (1 : Int32)) fun v5 => some (.inl v5))))
theorem Md_winter_l32_w {l : Launch} {D : va_G} {cI cZ cJ : ClassId} {ad : Nat → Nat} (x1 x2 x3 : Int32) (s : MS) {Q : Int32 → MS → Prop} {Post : ((Int32) ⊕ (Int32 × MS)) → Prop} (hR : ∀ (r9 : Int32) (s9 : MS), Post (.inr ((r9, s9))) → Q r9 s9) (hL32 : ∀ (z3 : Int32) , Post (.inl z3) → G (XM l D cI cZ cJ ad) "SmallHarbourModel" b_Md_winter 4 (some .int) 2 32 [(0, .ref (ad 0)), (1, .int x1), (2, .int x2), (3, .int z3)] [] s Q) (h : Ok (Md_winter_l32 x1 x2 s x3) Post) : G (XM l D cI cZ cJ ad) "SmallHarbourModel" b_Md_winter 4 (some .int) 2 32 [(0, .ref (ad 0)), (1, .int x1), (2, .int x2), (3, .int x3)] [] s Q := by
  unfold Md_winter_l32 at h
  refine G_iload_n d_Md_winter_32 rfl 3 rfl ?_
  refine G_aload_n d_Md_winter_33 rfl 0 rfl ?_
  refine gm_Md_inShed d_Md_winter_34 w_879 ?_
  refine G_icmp_ge (tgt := 58) d_Md_winter_37 (by decide) (fun c => ?_) (fun c => ?_)
  · replace h := Ok_t c h
    replace h := Ok_xit h
    refine G_aload_n d_Md_winter_58 rfl 0 rfl ?_
    refine gm_Md_shedBoat d_Md_winter_59 w_880 ?_
    refine G_aload_n d_Md_winter_62 rfl 0 rfl ?_
    refine gm_Md_inShed d_Md_winter_63 w_879 ?_
    refine G_iload_n d_Md_winter_66 rfl 1 rfl ?_
    refine sm_25 d_Md_winter_67 (Ok_ld h).1 (fun s1 e => ?_)
    replace h := (Ok_ld h).2 s1 e
    clear e
    refine G_aload_n d_Md_winter_68 rfl 0 rfl ?_
    refine gm_Md_shedOut d_Md_winter_69 w_881 ?_
    refine G_aload_n d_Md_winter_72 rfl 0 rfl ?_
    refine gm_Md_inShed d_Md_winter_73 w_879 ?_
    refine G_iload_n d_Md_winter_76 rfl 2 rfl ?_
    refine sm_26 d_Md_winter_77 (Ok_ld h).1 (fun s2 e => ?_)
    replace h := (Ok_ld h).2 s2 e
    clear e
    refine G_aload_n d_Md_winter_78 rfl 0 rfl ?_
    refine G_dup d_Md_winter_79 rfl ?_
    refine gm_Md_inShed d_Md_winter_80 w_879 ?_
    refine G_iconst d_Md_winter_83 lt_iconst_1 ?_
    refine G_iadd d_Md_winter_84 ?_
    refine pm_Md_inShed d_Md_winter_85 w_879 (fun s3 e => ?_)
    replace h := Ok_bnd h s3 e
    clear e
    refine G_aload_n d_Md_winter_88 rfl 0 rfl ?_
    refine gm_Md_inShed d_Md_winter_89 w_879 ?_
    exact G_iret rfl (vp_nar_int _) d_Md_winter_92 (hR _ _ (Ok_some h))
  replace h := Ok_f c h
  refine G_aload_n d_Md_winter_40 rfl 0 rfl ?_
  refine gm_Md_shedBoat d_Md_winter_41 w_880 ?_
  refine G_iload_n d_Md_winter_44 rfl 3 rfl ?_
  refine lm_25 d_Md_winter_45 (Ok_ld h).1 (fun v4 e => ?_)
  replace h := (Ok_ld h).2 v4 e
  clear e
  refine G_iload_n d_Md_winter_46 rfl 1 rfl ?_
  refine G_icmp_ne (tgt := 52) d_Md_winter_47 (by decide) (fun c => ?_) (fun c => ?_)
  · replace h := Ok_f c h
    refine G_iinc d_Md_winter_52 3 rfl lt_iconst_1 rfl (Nat.le_of_ble_eq_true rfl) (fun x => [(3, .int x), (0, .ref (ad 0)), (1, .int x1), (2, .int x2)]) (fun _ => rfl) (fun v5 e => ?_)
    replace h := Ok_bnd h v5 e
    clear e
    refine G_goto (tgt := 32) d_Md_winter_55 (by decide) ?_
    refine G_lv [1, 2, 3, 0] rfl ?_
    exact hL32 v5 (Ok_some h)
  replace h := Ok_t c h
  replace h := Ok_xit h
  refine G_iconst d_Md_winter_50 lt_iconst_m1 ?_
  exact G_iret rfl (vp_nar_int _) d_Md_winter_51 (hR _ _ (Ok_some h))
noncomputable def f_Md_winter (a1 a2 : Int32) (s : MS) : Option (Int32 × MS) :=
  (f_Md_isBoat a1 s).bind fun v1 => if v1 = 0 then (some ((-1 : Int32), s)) else ((f_Md_isIn a2 (0 : Int32) (399 : Int32)).bind fun v2 => if v2 = 0 then (some ((-1 : Int32), s)) else (if (s.1 18) = (9 : Int32) then (some ((-1 : Int32), s)) else (loop (fun z => Md_winter_l32 a1 a2 s z) (0 : Int32))))
theorem f_Md_winter_w {l : Launch} {D : va_G} {cI cZ cJ : ClassId} {ad : Nat → Nat} (a1 a2 : Int32) (s : MS) {Q : Int32 → MS → Prop} {Post : (Int32 × MS) → Prop} (hR : ∀ (r9 : Int32) (s9 : MS), Post ((r9, s9)) → Q r9 s9) (h : Ok (f_Md_winter a1 a2 s) Post) : G (XM l D cI cZ cJ ad) "SmallHarbourModel" b_Md_winter 4 (some .int) 2 0 [(0, .ref (ad 0)), (1, .int a1), (2, .int a2)] [] s Q := by
  unfold f_Md_winter at h
  refine G_aload_n d_Md_winter_0 rfl 0 rfl ?_
  refine G_iload_n d_Md_winter_1 rfl 1 rfl ?_
  refine G_callVp (st := []) (As := [.int a1]) (b := ad 0) d_Md_winter_2 mi_Md_isBoat w_1076 0 rfl rfl mv_Md_isBoat rfl (Nat.le_of_ble_eq_true rfl) (by decide) (c_Md_isBoat a1 s (Ok_bind h)) (fun v1 h hnv1 => ?_)
  refine G_if_eq (tgt := 28) d_Md_winter_5 (by decide) (fun c => ?_) (fun c => ?_)
  · replace h := Ok_t c h
    refine G_iconst d_Md_winter_28 lt_iconst_m1 ?_
    exact G_iret rfl (vp_nar_int _) d_Md_winter_29 (hR _ _ (Ok_some h))
  replace h := Ok_f c h
  refine G_iload_n d_Md_winter_8 rfl 2 rfl ?_
  refine G_iconst d_Md_winter_9 lt_iconst_0 ?_
  refine G_sipush d_Md_winter_10 lt_sipush_399 ?_
  refine G_callSp (st := []) (As := [.int a2, .int (0 : Int32), .int (399 : Int32)]) d_Md_winter_13 mi_Md_isIn w_1045 w_1046 rfl (Nat.le_of_ble_eq_true rfl) (by decide) (c_Md_isIn a2 (0 : Int32) (399 : Int32) s (Ok_bind h)) (fun v2 h hnv2 => ?_)
  refine G_if_eq (tgt := 28) d_Md_winter_16 (by decide) (fun c => ?_) (fun c => ?_)
  · replace h := Ok_t c h
    refine G_iconst d_Md_winter_28 lt_iconst_m1 ?_
    exact G_iret rfl (vp_nar_int _) d_Md_winter_29 (hR _ _ (Ok_some h))
  replace h := Ok_f c h
  refine G_aload_n d_Md_winter_19 rfl 0 rfl ?_
  refine gm_Md_inShed d_Md_winter_20 w_879 ?_
  refine G_bipush d_Md_winter_23 lt_bipush_9 ?_
  refine G_icmp_ne (tgt := 30) d_Md_winter_25 (by decide) (fun c => ?_) (fun c => ?_)
  · replace h := Ok_f c h
    refine G_iconst d_Md_winter_30 lt_iconst_0 ?_
    refine G_istore_n d_Md_winter_31 rfl (Nat.le_of_ble_eq_true rfl) (fun x => [(3, .int x), (0, .ref (ad 0)), (1, .int a1), (2, .int a2)]) (fun _ => rfl) (fun x e => ?_)
    subst e
    refine G_lv [1, 2, 3, 0] rfl ?_
    exact G_loop (J := (fun z => G (XM l D cI cZ cJ ad) "SmallHarbourModel" b_Md_winter 4 (some .int) 2 32 [(0, .ref (ad 0)), (1, .int a1), (2, .int a2), (3, .int z)] [] s Q)) (fun z h => Md_winter_l32_w a1 a2 z s (Post := Sum.elim (fun z => G (XM l D cI cZ cJ ad) "SmallHarbourModel" b_Md_winter 4 (some .int) 2 32 [(0, .ref (ad 0)), (1, .int a1), (2, .int a2), (3, .int z)] [] s Q) _) hR (fun z3 h => h) h) (0 : Int32) h
  replace h := Ok_t c h
  refine G_iconst d_Md_winter_28 lt_iconst_m1 ?_
  exact G_iret rfl (vp_nar_int _) d_Md_winter_29 (hR _ _ (Ok_some h))
theorem c_Md_winter {l : Launch} {D : va_G} {cI cZ cJ : ClassId} {ad : Nat → Nat} (a1 a2 : Int32) (s : MS) {P : Int32 → MS → Prop} (h : Ok2 (f_Md_winter a1 a2 s) P) : Ct (XM l D cI cZ cJ ad) y_Md_winter b_Md_winter 4 (some .int) 2 [.ref (ad 0), .int a1, .int a2] s (P) :=
  Ct.of mi_Md_winter (Nat.le_of_ble_eq_true rfl) (f_Md_winter_w a1 a2 s (Post := fun q => P q.1 q.2) (fun _ _ h => h) (Ok2_ok h))
-- Ar_fill16
noncomputable def Ar_fill16_l5 (x1 x3 : Int32) (x2 : Int32) (s : MS) : Option ((Int32 × MS) ⊕ MS) :=
  if x3 ≤ x2 then (xit (some s)) else (chk (inb x2 30) (bnd (pa s 3 x2.toNatClampNeg x1) fun s1 => bnd (x2 + (1 : Int32)) fun v2 => some (.inl (v2, s1))))
theorem Ar_fill16_l5_w {l : Launch} {D : va_G} {cI cZ cJ : ClassId} {ad : Nat → Nat} (x1 x3 x2 : Int32) (s : MS) {Q : Int32 → MS → Prop} {Post : ((Int32 × MS) ⊕ MS) → Prop} (hR : ∀ (s9 : MS), Post (.inr (s9)) → Q 0 s9) (hL5 : ∀ (z2 : Int32) (s9 : MS), Post (.inl (z2, s9)) → G (XX l D cI cZ cJ ad) "java/util/Arrays" b_Ar_fill 4 none 0 5 [(0, .ref (ad 16)), (1, .int x1), (2, .int z2), (3, .int x3)] [] s9 Q) (h : Ok (Ar_fill16_l5 x1 x3 x2 s) Post) : G (XX l D cI cZ cJ ad) "java/util/Arrays" b_Ar_fill 4 none 0 5 [(0, .ref (ad 16)), (1, .int x1), (2, .int x2), (3, .int x3)] [] s Q := by
  unfold Ar_fill16_l5 at h
  refine G_iload_n d_Ar_fill_5 rfl 2 rfl ?_
  refine G_iload_n d_Ar_fill_6 rfl 3 rfl ?_
  refine G_icmp_ge (tgt := 20) d_Ar_fill_7 (by decide) (fun c => ?_) (fun c => ?_)
  · replace h := Ok_t c h
    replace h := Ok_xit h
    exact G_vret rfl d_Ar_fill_20 (hR _ (Ok_some h))
  replace h := Ok_f c h
  refine G_aload_n d_Ar_fill_10 rfl 0 rfl ?_
  refine G_iload_n d_Ar_fill_11 rfl 2 rfl ?_
  refine G_iload_n d_Ar_fill_12 rfl 1 rfl ?_
  refine sx_3 d_Ar_fill_13 (Ok_ld h).1 (fun s1 e => ?_)
  replace h := (Ok_ld h).2 s1 e
  clear e
  refine G_iinc d_Ar_fill_14 2 rfl lt_iconst_1 rfl (Nat.le_of_ble_eq_true rfl) (fun x => [(2, .int x), (0, .ref (ad 16)), (1, .int x1), (3, .int x3)]) (fun _ => rfl) (fun v2 e => ?_)
  replace h := Ok_bnd h v2 e
  clear e
  refine G_goto (tgt := 5) d_Ar_fill_17 (by decide) ?_
  refine G_lv [1, 2, 0, 3] rfl ?_
  exact hL5 v2 s1 (Ok_some h)
noncomputable def f_Ar_fill16 (a2 : Int32) (s : MS) : Option MS :=
  loop (fun z => Ar_fill16_l5 a2 (30 : Int32) z.1 z.2) ((0 : Int32), s)
theorem f_Ar_fill16_w {l : Launch} {D : va_G} {cI cZ cJ : ClassId} {ad : Nat → Nat} (a2 : Int32) (s : MS) {Q : Int32 → MS → Prop} {Post : MS → Prop} (hR : ∀ (s9 : MS), Post (s9) → Q 0 s9) (h : Ok (f_Ar_fill16 a2 s) Post) : G (XX l D cI cZ cJ ad) "java/util/Arrays" b_Ar_fill 4 none 0 0 [(0, .ref (ad 16)), (1, .int a2)] [] s Q := by
  unfold f_Ar_fill16 at h
  refine G_iconst d_Ar_fill_0 lt_iconst_0 ?_
  refine G_istore_n d_Ar_fill_1 rfl (Nat.le_of_ble_eq_true rfl) (fun x => [(2, .int x), (0, .ref (ad 16)), (1, .int a2)]) (fun _ => rfl) (fun x e => ?_)
  subst e
  refine G_aload_n d_Ar_fill_2 rfl 1 rfl ?_
  refine G_alen d_Ar_fill_3 16 0 rfl rfl (v := 30) rfl ?_
  refine G_istore_n d_Ar_fill_4 rfl (Nat.le_of_ble_eq_true rfl) (fun x => [(3, .int x), (2, .int (0 : Int32)), (0, .ref (ad 16)), (1, .int a2)]) (fun _ => rfl) (fun x e => ?_)
  subst e
  refine G_lv [2, 3, 1, 0] rfl ?_
  exact G_loop (J := (fun z => G (XX l D cI cZ cJ ad) "java/util/Arrays" b_Ar_fill 4 none 0 5 [(0, .ref (ad 16)), (1, .int a2), (2, .int (z.1)), (3, .int (30 : Int32))] [] z.2 Q)) (fun z h => Ar_fill16_l5_w a2 (30 : Int32) z.1 z.2 (Post := Sum.elim (fun z => G (XX l D cI cZ cJ ad) "java/util/Arrays" b_Ar_fill 4 none 0 5 [(0, .ref (ad 16)), (1, .int a2), (2, .int (z.1)), (3, .int (30 : Int32))] [] z.2 Q) _) hR (fun z2 s9 h => h) h) ((0 : Int32), s) h
theorem c_Ar_fill16 {l : Launch} {D : va_G} {cI cZ cJ : ClassId} {ad : Nat → Nat} (a2 : Int32) (s : MS) {P : MS → Prop} (h : Ok (f_Ar_fill16 a2 s) P) : Ct (XX l D cI cZ cJ ad) y_Ar_fill b_Ar_fill 4 none 0 [.ref (ad 16), .int a2] s (fun _ s9 => P s9) :=
  Ct.of mi_Ar_fill (Nat.le_of_ble_eq_true rfl) (f_Ar_fill16_w a2 s (fun _ h => h) h)
-- Ar_fill39
noncomputable def Ar_fill39_l5 (x1 x3 : Int32) (x2 : Int32) (s : MS) : Option ((Int32 × MS) ⊕ MS) :=
  if x3 ≤ x2 then (xit (some s)) else (chk (inb x2 10) (bnd (pa s 26 x2.toNatClampNeg x1) fun s1 => bnd (x2 + (1 : Int32)) fun v2 => some (.inl (v2, s1))))
theorem Ar_fill39_l5_w {l : Launch} {D : va_G} {cI cZ cJ : ClassId} {ad : Nat → Nat} (x1 x3 x2 : Int32) (s : MS) {Q : Int32 → MS → Prop} {Post : ((Int32 × MS) ⊕ MS) → Prop} (hR : ∀ (s9 : MS), Post (.inr (s9)) → Q 0 s9) (hL5 : ∀ (z2 : Int32) (s9 : MS), Post (.inl (z2, s9)) → G (XX l D cI cZ cJ ad) "java/util/Arrays" b_Ar_fill 4 none 0 5 [(0, .ref (ad 39)), (1, .int x1), (2, .int z2), (3, .int x3)] [] s9 Q) (h : Ok (Ar_fill39_l5 x1 x3 x2 s) Post) : G (XX l D cI cZ cJ ad) "java/util/Arrays" b_Ar_fill 4 none 0 5 [(0, .ref (ad 39)), (1, .int x1), (2, .int x2), (3, .int x3)] [] s Q := by
  unfold Ar_fill39_l5 at h
  refine G_iload_n d_Ar_fill_5 rfl 2 rfl ?_
  refine G_iload_n d_Ar_fill_6 rfl 3 rfl ?_
  refine G_icmp_ge (tgt := 20) d_Ar_fill_7 (by decide) (fun c => ?_) (fun c => ?_)
  · replace h := Ok_t c h
    replace h := Ok_xit h
    exact G_vret rfl d_Ar_fill_20 (hR _ (Ok_some h))
  replace h := Ok_f c h
  refine G_aload_n d_Ar_fill_10 rfl 0 rfl ?_
  refine G_iload_n d_Ar_fill_11 rfl 2 rfl ?_
  refine G_iload_n d_Ar_fill_12 rfl 1 rfl ?_
  refine sx_26 d_Ar_fill_13 (Ok_ld h).1 (fun s1 e => ?_)
  replace h := (Ok_ld h).2 s1 e
  clear e
  refine G_iinc d_Ar_fill_14 2 rfl lt_iconst_1 rfl (Nat.le_of_ble_eq_true rfl) (fun x => [(2, .int x), (0, .ref (ad 39)), (1, .int x1), (3, .int x3)]) (fun _ => rfl) (fun v2 e => ?_)
  replace h := Ok_bnd h v2 e
  clear e
  refine G_goto (tgt := 5) d_Ar_fill_17 (by decide) ?_
  refine G_lv [1, 2, 0, 3] rfl ?_
  exact hL5 v2 s1 (Ok_some h)
noncomputable def f_Ar_fill39 (a2 : Int32) (s : MS) : Option MS :=
  loop (fun z => Ar_fill39_l5 a2 (10 : Int32) z.1 z.2) ((0 : Int32), s)
theorem f_Ar_fill39_w {l : Launch} {D : va_G} {cI cZ cJ : ClassId} {ad : Nat → Nat} (a2 : Int32) (s : MS) {Q : Int32 → MS → Prop} {Post : MS → Prop} (hR : ∀ (s9 : MS), Post (s9) → Q 0 s9) (h : Ok (f_Ar_fill39 a2 s) Post) : G (XX l D cI cZ cJ ad) "java/util/Arrays" b_Ar_fill 4 none 0 0 [(0, .ref (ad 39)), (1, .int a2)] [] s Q := by
  unfold f_Ar_fill39 at h
  refine G_iconst d_Ar_fill_0 lt_iconst_0 ?_
  refine G_istore_n d_Ar_fill_1 rfl (Nat.le_of_ble_eq_true rfl) (fun x => [(2, .int x), (0, .ref (ad 39)), (1, .int a2)]) (fun _ => rfl) (fun x e => ?_)
  subst e
  refine G_aload_n d_Ar_fill_2 rfl 1 rfl ?_
  refine G_alen d_Ar_fill_3 39 0 rfl rfl (v := 10) rfl ?_
  refine G_istore_n d_Ar_fill_4 rfl (Nat.le_of_ble_eq_true rfl) (fun x => [(3, .int x), (2, .int (0 : Int32)), (0, .ref (ad 39)), (1, .int a2)]) (fun _ => rfl) (fun x e => ?_)
  subst e
  refine G_lv [2, 3, 1, 0] rfl ?_
  exact G_loop (J := (fun z => G (XX l D cI cZ cJ ad) "java/util/Arrays" b_Ar_fill 4 none 0 5 [(0, .ref (ad 39)), (1, .int a2), (2, .int (z.1)), (3, .int (10 : Int32))] [] z.2 Q)) (fun z h => Ar_fill39_l5_w a2 (10 : Int32) z.1 z.2 (Post := Sum.elim (fun z => G (XX l D cI cZ cJ ad) "java/util/Arrays" b_Ar_fill 4 none 0 5 [(0, .ref (ad 39)), (1, .int a2), (2, .int (z.1)), (3, .int (10 : Int32))] [] z.2 Q) _) hR (fun z2 s9 h => h) h) ((0 : Int32), s) h
theorem c_Ar_fill39 {l : Launch} {D : va_G} {cI cZ cJ : ClassId} {ad : Nat → Nat} (a2 : Int32) (s : MS) {P : MS → Prop} (h : Ok (f_Ar_fill39 a2 s) P) : Ct (XX l D cI cZ cJ ad) y_Ar_fill b_Ar_fill 4 none 0 [.ref (ad 39), .int a2] s (fun _ s9 => P s9) :=
  Ct.of mi_Ar_fill (Nat.le_of_ble_eq_true rfl) (f_Ar_fill39_w a2 s (fun _ h => h) h)
-- Hb_isWithin
noncomputable def f_Hb_isWithin (a1 a2 a3 : Int32) : Option Int32 :=
  if a1 < a2 then (some (0 : Int32)) else (if a3 < a1 then (some (0 : Int32)) else (some (1 : Int32)))
theorem f_Hb_isWithin_w {l : Launch} {D : va_G} {cI cZ cJ : ClassId} {ad : Nat → Nat} (a1 a2 a3 : Int32) (s : MS) {Q : Int32 → MS → Prop} {Post : Int32 → Prop} (hR : ∀ (r9 : Int32), Post (r9) → Q r9 s) (h : Ok (f_Hb_isWithin a1 a2 a3) Post) : G (XX l D cI cZ cJ ad) "SmallHarbour" b_Hb_isWithin 3 (some .boolean) 0 0 [(0, .int a1), (1, .int a2), (2, .int a3)] [] s Q := by
  unfold f_Hb_isWithin at h
  refine G_iload_n d_Hb_isWithin_0 rfl 0 rfl ?_
  refine G_iload_n d_Hb_isWithin_1 rfl 1 rfl ?_
  refine G_icmp_lt (tgt := 14) d_Hb_isWithin_2 (by decide) (fun c => ?_) (fun c => ?_)
  · replace h := Ok_t c h
    refine G_iconst d_Hb_isWithin_14 lt_iconst_0 ?_
    exact G_iret rfl rfl d_Hb_isWithin_15 (hR _ (Ok_some h))
  replace h := Ok_f c h
  refine G_iload_n d_Hb_isWithin_5 rfl 0 rfl ?_
  refine G_iload_n d_Hb_isWithin_6 rfl 2 rfl ?_
  refine G_icmp_gt (tgt := 14) d_Hb_isWithin_7 (by decide) (fun c => ?_) (fun c => ?_)
  · replace h := Ok_t c h
    refine G_iconst d_Hb_isWithin_14 lt_iconst_0 ?_
    exact G_iret rfl rfl d_Hb_isWithin_15 (hR _ (Ok_some h))
  replace h := Ok_f c h
  refine G_iconst d_Hb_isWithin_10 lt_iconst_1 ?_
  refine G_goto (tgt := 15) d_Hb_isWithin_11 (by decide) ?_
  exact G_iret rfl rfl d_Hb_isWithin_15 (hR _ (Ok_some h))
theorem c_Hb_isWithin {l : Launch} {D : va_G} {cI cZ cJ : ClassId} {ad : Nat → Nat} (a1 a2 a3 : Int32) (s : MS) {P : Int32 → Prop} (h : Ok (f_Hb_isWithin a1 a2 a3) P) : Ct (XX l D cI cZ cJ ad) y_Hb_isWithin b_Hb_isWithin 3 (some .boolean) 0 [.int a1, .int a2, .int a3] s (fun r9 s9 => s9 = s ∧ P r9) :=
  Ct.of mi_Hb_isWithin (Nat.le_of_ble_eq_true rfl) (f_Hb_isWithin_w a1 a2 a3 s (fun _ h => ⟨rfl, h⟩) h)
-- Berths_add
noncomputable def f_Berths_add (a1 a2 : Int32) (s : MS) : Option (Int32 × MS) :=
  (f_Hb_isWithin a1 (10 : Int32) (400 : Int32)).bind fun v1 => if v1 = 0 then (some ((-1 : Int32), s)) else ((f_Hb_isWithin a2 (0 : Int32) (60 : Int32)).bind fun v2 => if v2 = 0 then (some ((-1 : Int32), s)) else (if (s.1 2) < (10 : Int32) then (chk (inb (s.1 2) 10) (bnd (pa s 4 (s.1 2).toNatClampNeg a1) fun s3 => chk (inb (s3.1 2) 10) (bnd (pa s3 5 (s3.1 2).toNatClampNeg a2) fun s4 => chk (inb (s4.1 2) 10) (bnd (pa s4 6 (s4.1 2).toNatClampNeg (-1 : Int32)) fun s5 => bnd (pf s5 2 ((s5.1 2) + (1 : Int32))) fun s6 => some ((s5.1 2), s6))))) else (some ((-1 : Int32), s))))
theorem f_Berths_add_w {l : Launch} {D : va_G} {cI cZ cJ : ClassId} {ad : Nat → Nat} (a1 a2 : Int32) (s : MS) {Q : Int32 → MS → Prop} {Post : (Int32 × MS) → Prop} (hR : ∀ (r9 : Int32) (s9 : MS), Post ((r9, s9)) → Q r9 s9) (h : Ok (f_Berths_add a1 a2 s) Post) : G (XX l D cI cZ cJ ad) "SmallHarbour$Berths" b_Berths_add 3 (some .int) 1 0 [(0, .ref (ad 2)), (1, .int a1), (2, .int a2)] [] s Q := by
  unfold f_Berths_add at h
  refine G_iload_n d_Berths_add_0 rfl 1 rfl ?_
  refine G_bipush d_Berths_add_1 lt_bipush_10 ?_
  refine G_sipush d_Berths_add_3 lt_sipush_400 ?_
  refine G_callNp (st := []) (As := [.int a1, .int (10 : Int32), .int (400 : Int32)]) d_Berths_add_6 mi_Hb_isWithin w_422 w_423 rfl (Nat.le_of_ble_eq_true rfl) (by decide) (c_Hb_isWithin a1 (10 : Int32) (400 : Int32) s (Ok_bind h)) (fun v1 h hnv1 => ?_)
  refine G_if_eq (tgt := 22) d_Berths_add_9 (by decide) (fun c => ?_) (fun c => ?_)
  · replace h := Ok_t c h
    refine G_iconst d_Berths_add_22 lt_iconst_m1 ?_
    exact G_iret rfl (vp_nar_int _) d_Berths_add_23 (hR _ _ (Ok_some h))
  replace h := Ok_f c h
  refine G_iload_n d_Berths_add_12 rfl 2 rfl ?_
  refine G_iconst d_Berths_add_13 lt_iconst_0 ?_
  refine G_bipush d_Berths_add_14 lt_bipush_60 ?_
  refine G_callNp (st := []) (As := [.int a2, .int (0 : Int32), .int (60 : Int32)]) d_Berths_add_16 mi_Hb_isWithin w_422 w_423 rfl (Nat.le_of_ble_eq_true rfl) (by decide) (c_Hb_isWithin a2 (0 : Int32) (60 : Int32) s (Ok_bind h)) (fun v2 h hnv2 => ?_)
  refine G_if_ne (tgt := 24) d_Berths_add_19 (by decide) (fun c => ?_) (fun c => ?_)
  · replace h := Ok_f c h
    refine G_aload_n d_Berths_add_24 rfl 0 rfl ?_
    refine gx_Berths_count d_Berths_add_25 w_49 ?_
    refine G_bipush d_Berths_add_28 lt_bipush_10 ?_
    refine G_icmp_lt (tgt := 35) d_Berths_add_30 (by decide) (fun c => ?_) (fun c => ?_)
    · replace h := Ok_t c h
      refine G_aload_n d_Berths_add_35 rfl 0 rfl ?_
      refine gx_Berths_length d_Berths_add_36 w_45 ?_
      refine G_aload_n d_Berths_add_39 rfl 0 rfl ?_
      refine gx_Berths_count d_Berths_add_40 w_49 ?_
      refine G_iload_n d_Berths_add_43 rfl 1 rfl ?_
      refine sx_4 d_Berths_add_44 (Ok_ld h).1 (fun s3 e => ?_)
      replace h := (Ok_ld h).2 s3 e
      clear e
      refine G_aload_n d_Berths_add_45 rfl 0 rfl ?_
      refine gx_Berths_depth d_Berths_add_46 w_46 ?_
      refine G_aload_n d_Berths_add_49 rfl 0 rfl ?_
      refine gx_Berths_count d_Berths_add_50 w_49 ?_
      refine G_iload_n d_Berths_add_53 rfl 2 rfl ?_
      refine sx_5 d_Berths_add_54 (Ok_ld h).1 (fun s4 e => ?_)
      replace h := (Ok_ld h).2 s4 e
      clear e
      refine G_aload_n d_Berths_add_55 rfl 0 rfl ?_
      refine gx_Berths_holder d_Berths_add_56 w_47 ?_
      refine G_aload_n d_Berths_add_59 rfl 0 rfl ?_
      refine gx_Berths_count d_Berths_add_60 w_49 ?_
      refine G_iconst d_Berths_add_63 lt_iconst_m1 ?_
      refine sx_6 d_Berths_add_64 (Ok_ld h).1 (fun s5 e => ?_)
      replace h := (Ok_ld h).2 s5 e
      clear e
      refine G_aload_n d_Berths_add_65 rfl 0 rfl ?_
      refine G_dup d_Berths_add_66 rfl ?_
      refine gx_Berths_count d_Berths_add_67 w_49 ?_
      refine G_dup_x1 d_Berths_add_70 rfl rfl ?_
      refine G_iconst d_Berths_add_71 lt_iconst_1 ?_
      refine G_iadd d_Berths_add_72 ?_
      refine px_Berths_count d_Berths_add_73 w_49 (fun s6 e => ?_)
      replace h := Ok_bnd h s6 e
      clear e
      exact G_iret rfl (vp_nar_int _) d_Berths_add_76 (hR _ _ (Ok_some h))
    replace h := Ok_f c h
    refine G_iconst d_Berths_add_33 lt_iconst_m1 ?_
    exact G_iret rfl (vp_nar_int _) d_Berths_add_34 (hR _ _ (Ok_some h))
  replace h := Ok_t c h
  refine G_iconst d_Berths_add_22 lt_iconst_m1 ?_
  exact G_iret rfl (vp_nar_int _) d_Berths_add_23 (hR _ _ (Ok_some h))
theorem c_Berths_add {l : Launch} {D : va_G} {cI cZ cJ : ClassId} {ad : Nat → Nat} (a1 a2 : Int32) (s : MS) {P : Int32 → MS → Prop} (h : Ok2 (f_Berths_add a1 a2 s) P) : Ct (XX l D cI cZ cJ ad) y_Berths_add b_Berths_add 3 (some .int) 1 [.ref (ad 2), .int a1, .int a2] s (P) :=
  Ct.of mi_Berths_add (Nat.le_of_ble_eq_true rfl) (f_Berths_add_w a1 a2 s (Post := fun q => P q.1 q.2) (fun _ _ h => h) (Ok2_ok h))
-- Berths_has
noncomputable def f_Berths_has (a1 : Int32) (s : MS) : Option Int32 :=
  if a1 < 0 then (some (0 : Int32)) else (if (s.1 2) ≤ a1 then (some (0 : Int32)) else (some (1 : Int32)))
theorem f_Berths_has_w {l : Launch} {D : va_G} {cI cZ cJ : ClassId} {ad : Nat → Nat} (a1 : Int32) (s : MS) {Q : Int32 → MS → Prop} {Post : Int32 → Prop} (hR : ∀ (r9 : Int32), Post (r9) → Q r9 s) (h : Ok (f_Berths_has a1 s) Post) : G (XX l D cI cZ cJ ad) "SmallHarbour$Berths" b_Berths_has 2 (some .boolean) 0 0 [(0, .ref (ad 2)), (1, .int a1)] [] s Q := by
  unfold f_Berths_has at h
  refine G_iload_n d_Berths_has_0 rfl 1 rfl ?_
  refine G_if_lt (tgt := 16) d_Berths_has_1 (by decide) (fun c => ?_) (fun c => ?_)
  · replace h := Ok_t c h
    refine G_iconst d_Berths_has_16 lt_iconst_0 ?_
    exact G_iret rfl rfl d_Berths_has_17 (hR _ (Ok_some h))
  replace h := Ok_f c h
  refine G_iload_n d_Berths_has_4 rfl 1 rfl ?_
  refine G_aload_n d_Berths_has_5 rfl 0 rfl ?_
  refine gx_Berths_count d_Berths_has_6 w_49 ?_
  refine G_icmp_ge (tgt := 16) d_Berths_has_9 (by decide) (fun c => ?_) (fun c => ?_)
  · replace h := Ok_t c h
    refine G_iconst d_Berths_has_16 lt_iconst_0 ?_
    exact G_iret rfl rfl d_Berths_has_17 (hR _ (Ok_some h))
  replace h := Ok_f c h
  refine G_iconst d_Berths_has_12 lt_iconst_1 ?_
  refine G_goto (tgt := 17) d_Berths_has_13 (by decide) ?_
  exact G_iret rfl rfl d_Berths_has_17 (hR _ (Ok_some h))
theorem c_Berths_has {l : Launch} {D : va_G} {cI cZ cJ : ClassId} {ad : Nat → Nat} (a1 : Int32) (s : MS) {P : Int32 → Prop} (h : Ok (f_Berths_has a1 s) P) : Ct (XX l D cI cZ cJ ad) y_Berths_has b_Berths_has 2 (some .boolean) 0 [.ref (ad 2), .int a1] s (fun r9 s9 => s9 = s ∧ P r9) :=
  Ct.of mi_Berths_has (Nat.le_of_ble_eq_true rfl) (f_Berths_has_w a1 s (fun _ h => ⟨rfl, h⟩) h)
-- Berths_isAnyHeld
noncomputable def Berths_isAnyHeld_l2 (s : MS) (x1 : Int32) : Option ((Int32) ⊕ Int32) :=
  if (s.1 2) ≤ x1 then (xit (some (0 : Int32))) else (chk (inb x1 10) (bnd (s.2 6 x1.toNatClampNeg) fun v1 => if v1 = (-1 : Int32) then (bnd (x1 + (1 : Int32)) fun v2 => some (.inl v2)) else (xit (some (1 : Int32)))))
theorem Berths_isAnyHeld_l2_w {l : Launch} {D : va_G} {cI cZ cJ : ClassId} {ad : Nat → Nat} (x1 : Int32) (s : MS) {Q : Int32 → MS → Prop} {Post : ((Int32) ⊕ Int32) → Prop} (hR : ∀ (r9 : Int32), Post (.inr (r9)) → Q r9 s) (hL2 : ∀ (z1 : Int32) , Post (.inl z1) → G (XX l D cI cZ cJ ad) "SmallHarbour$Berths" b_Berths_isAnyHeld 2 (some .boolean) 0 2 [(0, .ref (ad 2)), (1, .int z1)] [] s Q) (h : Ok (Berths_isAnyHeld_l2 s x1) Post) : G (XX l D cI cZ cJ ad) "SmallHarbour$Berths" b_Berths_isAnyHeld 2 (some .boolean) 0 2 [(0, .ref (ad 2)), (1, .int x1)] [] s Q := by
  unfold Berths_isAnyHeld_l2 at h
  refine G_iload_n d_Berths_isAnyHeld_2 rfl 1 rfl ?_
  refine G_aload_n d_Berths_isAnyHeld_3 rfl 0 rfl ?_
  refine gx_Berths_count d_Berths_isAnyHeld_4 w_49 ?_
  refine G_icmp_ge (tgt := 28) d_Berths_isAnyHeld_7 (by decide) (fun c => ?_) (fun c => ?_)
  · replace h := Ok_t c h
    replace h := Ok_xit h
    refine G_iconst d_Berths_isAnyHeld_28 lt_iconst_0 ?_
    exact G_iret rfl rfl d_Berths_isAnyHeld_29 (hR _ (Ok_some h))
  replace h := Ok_f c h
  refine G_aload_n d_Berths_isAnyHeld_10 rfl 0 rfl ?_
  refine gx_Berths_holder d_Berths_isAnyHeld_11 w_47 ?_
  refine G_iload_n d_Berths_isAnyHeld_14 rfl 1 rfl ?_
  refine lx_6 d_Berths_isAnyHeld_15 (Ok_ld h).1 (fun v1 e => ?_)
  replace h := (Ok_ld h).2 v1 e
  clear e
  refine G_iconst d_Berths_isAnyHeld_16 lt_iconst_m1 ?_
  refine G_icmp_eq (tgt := 22) d_Berths_isAnyHeld_17 (by decide) (fun c => ?_) (fun c => ?_)
  · replace h := Ok_t c h
    refine G_iinc d_Berths_isAnyHeld_22 1 rfl lt_iconst_1 rfl (Nat.le_of_ble_eq_true rfl) (fun x => [(1, .int x), (0, .ref (ad 2))]) (fun _ => rfl) (fun v2 e => ?_)
    replace h := Ok_bnd h v2 e
    clear e
    refine G_goto (tgt := 2) d_Berths_isAnyHeld_25 (by decide) ?_
    refine G_lv [1, 0] rfl ?_
    exact hL2 v2 (Ok_some h)
  replace h := Ok_f c h
  replace h := Ok_xit h
  refine G_iconst d_Berths_isAnyHeld_20 lt_iconst_1 ?_
  exact G_iret rfl rfl d_Berths_isAnyHeld_21 (hR _ (Ok_some h))
noncomputable def f_Berths_isAnyHeld (s : MS) : Option Int32 :=
  loop (fun z => Berths_isAnyHeld_l2 s z) (0 : Int32)
theorem f_Berths_isAnyHeld_w {l : Launch} {D : va_G} {cI cZ cJ : ClassId} {ad : Nat → Nat} (s : MS) {Q : Int32 → MS → Prop} {Post : Int32 → Prop} (hR : ∀ (r9 : Int32), Post (r9) → Q r9 s) (h : Ok (f_Berths_isAnyHeld s) Post) : G (XX l D cI cZ cJ ad) "SmallHarbour$Berths" b_Berths_isAnyHeld 2 (some .boolean) 0 0 [(0, .ref (ad 2))] [] s Q := by
  unfold f_Berths_isAnyHeld at h
  refine G_iconst d_Berths_isAnyHeld_0 lt_iconst_0 ?_
  refine G_istore_n d_Berths_isAnyHeld_1 rfl (Nat.le_of_ble_eq_true rfl) (fun x => [(1, .int x), (0, .ref (ad 2))]) (fun _ => rfl) (fun x e => ?_)
  subst e
  refine G_lv [1, 0] rfl ?_
  exact G_loop (J := (fun z => G (XX l D cI cZ cJ ad) "SmallHarbour$Berths" b_Berths_isAnyHeld 2 (some .boolean) 0 2 [(0, .ref (ad 2)), (1, .int z)] [] s Q)) (fun z h => Berths_isAnyHeld_l2_w z s (Post := Sum.elim (fun z => G (XX l D cI cZ cJ ad) "SmallHarbour$Berths" b_Berths_isAnyHeld 2 (some .boolean) 0 2 [(0, .ref (ad 2)), (1, .int z)] [] s Q) _) hR (fun z1 h => h) h) (0 : Int32) h
theorem c_Berths_isAnyHeld {l : Launch} {D : va_G} {cI cZ cJ : ClassId} {ad : Nat → Nat} (s : MS) {P : Int32 → Prop} (h : Ok (f_Berths_isAnyHeld  s) P) : Ct (XX l D cI cZ cJ ad) y_Berths_isAnyHeld b_Berths_isAnyHeld 2 (some .boolean) 0 [.ref (ad 2)] s (fun r9 s9 => s9 = s ∧ P r9) :=
  Ct.of mi_Berths_isAnyHeld (Nat.le_of_ble_eq_true rfl) (f_Berths_isAnyHeld_w  s (fun _ h => ⟨rfl, h⟩) h)
-- Berths_takes
noncomputable def f_Berths_takes (a1 a2 a3 a4 : Int32) (s : MS) : Option Int32 :=
  chk (inb a1 10) (bnd (s.2 4 a1.toNatClampNeg) fun v1 => if v1 < a2 then (some (0 : Int32)) else (chk (inb a1 10) (bnd (s.2 5 a1.toNatClampNeg) fun v2 => if (v2 + a4) < a3 then (some (0 : Int32)) else (some (1 : Int32)))))
theorem f_Berths_takes_w {l : Launch} {D : va_G} {cI cZ cJ : ClassId} {ad : Nat → Nat} (a1 a2 a3 a4 : Int32) (s : MS) {Q : Int32 → MS → Prop} {Post : Int32 → Prop} (hR : ∀ (r9 : Int32), Post (r9) → Q r9 s) (h : Ok (f_Berths_takes a1 a2 a3 a4 s) Post) : G (XX l D cI cZ cJ ad) "SmallHarbour$Berths" b_Berths_takes 5 (some .boolean) 0 0 [(0, .ref (ad 2)), (1, .int a1), (2, .int a2), (3, .int a3), (4, .int a4)] [] s Q := by
  unfold f_Berths_takes at h
  refine G_iload_n d_Berths_takes_0 rfl 2 rfl ?_
  refine G_aload_n d_Berths_takes_1 rfl 0 rfl ?_
  refine gx_Berths_length d_Berths_takes_2 w_45 ?_
  refine G_iload_n d_Berths_takes_5 rfl 1 rfl ?_
  refine lx_4 d_Berths_takes_6 (Ok_ld h).1 (fun v1 e => ?_)
  replace h := (Ok_ld h).2 v1 e
  clear e
  refine G_icmp_gt (tgt := 27) d_Berths_takes_7 (by decide) (fun c => ?_) (fun c => ?_)
  · replace h := Ok_t c h
    refine G_iconst d_Berths_takes_27 lt_iconst_0 ?_
    exact G_iret rfl rfl d_Berths_takes_28 (hR _ (Ok_some h))
  replace h := Ok_f c h
  refine G_iload_n d_Berths_takes_10 rfl 3 rfl ?_
  refine G_aload_n d_Berths_takes_11 rfl 0 rfl ?_
  refine gx_Berths_depth d_Berths_takes_12 w_46 ?_
  refine G_iload_n d_Berths_takes_15 rfl 1 rfl ?_
  refine lx_5 d_Berths_takes_16 (Ok_ld h).1 (fun v2 e => ?_)
  replace h := (Ok_ld h).2 v2 e
  clear e
  refine G_iload d_Berths_takes_17 4 rfl ?_
  refine G_iadd d_Berths_takes_19 ?_
  refine G_icmp_gt (tgt := 27) d_Berths_takes_20 (by decide) (fun c => ?_) (fun c => ?_)
  · replace h := Ok_t c h
    refine G_iconst d_Berths_takes_27 lt_iconst_0 ?_
    exact G_iret rfl rfl d_Berths_takes_28 (hR _ (Ok_some h))
  replace h := Ok_f c h
  refine G_iconst d_Berths_takes_23 lt_iconst_1 ?_
  refine G_goto (tgt := 28) d_Berths_takes_24 (by decide) ?_
  exact G_iret rfl rfl d_Berths_takes_28 (hR _ (Ok_some h))
theorem c_Berths_takes {l : Launch} {D : va_G} {cI cZ cJ : ClassId} {ad : Nat → Nat} (a1 a2 a3 a4 : Int32) (s : MS) {P : Int32 → Prop} (h : Ok (f_Berths_takes a1 a2 a3 a4 s) P) : Ct (XX l D cI cZ cJ ad) y_Berths_takes b_Berths_takes 5 (some .boolean) 0 [.ref (ad 2), .int a1, .int a2, .int a3, .int a4] s (fun r9 s9 => s9 = s ∧ P r9) :=
  Ct.of mi_Berths_takes (Nat.le_of_ble_eq_true rfl) (f_Berths_takes_w a1 a2 a3 a4 s (fun _ h => ⟨rfl, h⟩) h)
-- Boats_add
noncomputable def f_Boats_add (a1 a2 a3 a4 : Int32) (s : MS) : Option (Int32 × MS) :=
  if (s.1 3) < (30 : Int32) then (chk (inb (s.1 3) 30) (bnd (pa s 7 (s.1 3).toNatClampNeg a1) fun s1 => chk (inb (s1.1 3) 30) (bnd (pa s1 8 (s1.1 3).toNatClampNeg a2) fun s2 => chk (inb (s2.1 3) 30) (bnd (pa s2 9 (s2.1 3).toNatClampNeg a3) fun s3 => chk (inb (s3.1 3) 30) (bnd (pa s3 10 (s3.1 3).toNatClampNeg a4) fun s4 => bnd (pf s4 3 ((s4.1 3) + (1 : Int32))) fun s5 => some ((s4.1 3), s5)))))) else (some ((-1 : Int32), s))
theorem f_Boats_add_w {l : Launch} {D : va_G} {cI cZ cJ : ClassId} {ad : Nat → Nat} (a1 a2 a3 a4 : Int32) (s : MS) {Q : Int32 → MS → Prop} {Post : (Int32 × MS) → Prop} (hR : ∀ (r9 : Int32) (s9 : MS), Post ((r9, s9)) → Q r9 s9) (h : Ok (f_Boats_add a1 a2 a3 a4 s) Post) : G (XX l D cI cZ cJ ad) "SmallHarbour$Boats" b_Boats_add 5 (some .int) 0 0 [(0, .ref (ad 3)), (1, .int a1), (2, .int a2), (3, .int a3), (4, .int a4)] [] s Q := by
  unfold f_Boats_add at h
  refine G_aload_n d_Boats_add_0 rfl 0 rfl ?_
  refine gx_Boats_count d_Boats_add_1 w_74 ?_
  refine G_bipush d_Boats_add_4 lt_bipush_30 ?_
  refine G_icmp_lt (tgt := 11) d_Boats_add_6 (by decide) (fun c => ?_) (fun c => ?_)
  · replace h := Ok_t c h
    refine G_aload_n d_Boats_add_11 rfl 0 rfl ?_
    refine gx_Boats_length d_Boats_add_12 w_66 ?_
    refine G_aload_n d_Boats_add_15 rfl 0 rfl ?_
    refine gx_Boats_count d_Boats_add_16 w_74 ?_
    refine G_iload_n d_Boats_add_19 rfl 1 rfl ?_
    refine sx_7 d_Boats_add_20 (Ok_ld h).1 (fun s1 e => ?_)
    replace h := (Ok_ld h).2 s1 e
    clear e
    refine G_aload_n d_Boats_add_21 rfl 0 rfl ?_
    refine gx_Boats_draught d_Boats_add_22 w_68 ?_
    refine G_aload_n d_Boats_add_25 rfl 0 rfl ?_
    refine gx_Boats_count d_Boats_add_26 w_74 ?_
    refine G_iload_n d_Boats_add_29 rfl 2 rfl ?_
    refine sx_8 d_Boats_add_30 (Ok_ld h).1 (fun s2 e => ?_)
    replace h := (Ok_ld h).2 s2 e
    clear e
    refine G_aload_n d_Boats_add_31 rfl 0 rfl ?_
    refine gx_Boats_weight d_Boats_add_32 w_70 ?_
    refine G_aload_n d_Boats_add_35 rfl 0 rfl ?_
    refine gx_Boats_count d_Boats_add_36 w_74 ?_
    refine G_iload_n d_Boats_add_39 rfl 3 rfl ?_
    refine sx_9 d_Boats_add_40 (Ok_ld h).1 (fun s3 e => ?_)
    replace h := (Ok_ld h).2 s3 e
    clear e
    refine G_aload_n d_Boats_add_41 rfl 0 rfl ?_
    refine gx_Boats_home d_Boats_add_42 w_72 ?_
    refine G_aload_n d_Boats_add_45 rfl 0 rfl ?_
    refine gx_Boats_count d_Boats_add_46 w_74 ?_
    refine G_iload d_Boats_add_49 4 rfl ?_
    refine sx_10 d_Boats_add_51 (Ok_ld h).1 (fun s4 e => ?_)
    replace h := (Ok_ld h).2 s4 e
    clear e
    refine G_aload_n d_Boats_add_52 rfl 0 rfl ?_
    refine G_dup d_Boats_add_53 rfl ?_
    refine gx_Boats_count d_Boats_add_54 w_74 ?_
    refine G_dup_x1 d_Boats_add_57 rfl rfl ?_
    refine G_iconst d_Boats_add_58 lt_iconst_1 ?_
    refine G_iadd d_Boats_add_59 ?_
    refine px_Boats_count d_Boats_add_60 w_74 (fun s5 e => ?_)
    replace h := Ok_bnd h s5 e
    clear e
    exact G_iret rfl (vp_nar_int _) d_Boats_add_63 (hR _ _ (Ok_some h))
  replace h := Ok_f c h
  refine G_iconst d_Boats_add_9 lt_iconst_m1 ?_
  exact G_iret rfl (vp_nar_int _) d_Boats_add_10 (hR _ _ (Ok_some h))
theorem c_Boats_add {l : Launch} {D : va_G} {cI cZ cJ : ClassId} {ad : Nat → Nat} (a1 a2 a3 a4 : Int32) (s : MS) {P : Int32 → MS → Prop} (h : Ok2 (f_Boats_add a1 a2 a3 a4 s) P) : Ct (XX l D cI cZ cJ ad) y_Boats_add b_Boats_add 5 (some .int) 0 [.ref (ad 3), .int a1, .int a2, .int a3, .int a4] s (P) :=
  Ct.of mi_Boats_add (Nat.le_of_ble_eq_true rfl) (f_Boats_add_w a1 a2 a3 a4 s (Post := fun q => P q.1 q.2) (fun _ _ h => h) (Ok2_ok h))
-- Boats_has
noncomputable def f_Boats_has (a1 : Int32) (s : MS) : Option Int32 :=
  if a1 < 0 then (some (0 : Int32)) else (if (s.1 3) ≤ a1 then (some (0 : Int32)) else (some (1 : Int32)))
theorem f_Boats_has_w {l : Launch} {D : va_G} {cI cZ cJ : ClassId} {ad : Nat → Nat} (a1 : Int32) (s : MS) {Q : Int32 → MS → Prop} {Post : Int32 → Prop} (hR : ∀ (r9 : Int32), Post (r9) → Q r9 s) (h : Ok (f_Boats_has a1 s) Post) : G (XX l D cI cZ cJ ad) "SmallHarbour$Boats" b_Boats_has 2 (some .boolean) 0 0 [(0, .ref (ad 3)), (1, .int a1)] [] s Q := by
  unfold f_Boats_has at h
  refine G_iload_n d_Boats_has_0 rfl 1 rfl ?_
  refine G_if_lt (tgt := 16) d_Boats_has_1 (by decide) (fun c => ?_) (fun c => ?_)
  · replace h := Ok_t c h
    refine G_iconst d_Boats_has_16 lt_iconst_0 ?_
    exact G_iret rfl rfl d_Boats_has_17 (hR _ (Ok_some h))
  replace h := Ok_f c h
  refine G_iload_n d_Boats_has_4 rfl 1 rfl ?_
  refine G_aload_n d_Boats_has_5 rfl 0 rfl ?_
  refine gx_Boats_count d_Boats_has_6 w_74 ?_
  refine G_icmp_ge (tgt := 16) d_Boats_has_9 (by decide) (fun c => ?_) (fun c => ?_)
  · replace h := Ok_t c h
    refine G_iconst d_Boats_has_16 lt_iconst_0 ?_
    exact G_iret rfl rfl d_Boats_has_17 (hR _ (Ok_some h))
  replace h := Ok_f c h
  refine G_iconst d_Boats_has_12 lt_iconst_1 ?_
  refine G_goto (tgt := 17) d_Boats_has_13 (by decide) ?_
  exact G_iret rfl rfl d_Boats_has_17 (hR _ (Ok_some h))
theorem c_Boats_has {l : Launch} {D : va_G} {cI cZ cJ : ClassId} {ad : Nat → Nat} (a1 : Int32) (s : MS) {P : Int32 → Prop} (h : Ok (f_Boats_has a1 s) P) : Ct (XX l D cI cZ cJ ad) y_Boats_has b_Boats_has 2 (some .boolean) 0 [.ref (ad 3), .int a1] s (fun r9 s9 => s9 = s ∧ P r9) :=
  Ct.of mi_Boats_has (Nat.le_of_ble_eq_true rfl) (f_Boats_has_w a1 s (fun _ h => ⟨rfl, h⟩) h)
-- Hb_about
noncomputable def f_Hb_about (a1 : Int32) (s : MS) : Option Int32 :=
  bnd a1 fun v1 => if v1 = (0 : Int32) then (some (s.1 2)) else (if v1 = (1 : Int32) then (some (s.1 3)) else (if v1 = (2 : Int32) then (some (s.1 5)) else (if v1 = (3 : Int32) then (some (s.1 4)) else (if v1 = (4 : Int32) then (some (s.1 10)) else (if v1 = (5 : Int32) then (some (s.1 14)) else (if v1 = (6 : Int32) then (some (s.1 28)) else (if v1 = (7 : Int32) then (some (s.1 18)) else (if v1 = (8 : Int32) then (some (s.1 0)) else (some (-1 : Int32))))))))))
theorem f_Hb_about_w {l : Launch} {D : va_G} {cI cZ cJ : ClassId} {ad : Nat → Nat} (a1 : Int32) (s : MS) {Q : Int32 → MS → Prop} {Post : Int32 → Prop} (hR : ∀ (r9 : Int32), Post (r9) → Q r9 s) (h : Ok (f_Hb_about a1 s) Post) : G (XX l D cI cZ cJ ad) "SmallHarbour" b_Hb_about 2 (some .int) 0 0 [(0, .ref (ad 0)), (1, .int a1)] [] s Q := by
  unfold f_Hb_about at h
  refine G_iload_n d_Hb_about_0 rfl 1 rfl ?_
  refine G_topi (fun v1 e => ?_)
  replace h := Ok_bnd h v1 e
  clear e
  by_cases c0 : v1 = (0 : Int32)
  · replace h := Ok_t c0 h
    refine G_tableIn (tgt := 52) d_Hb_about_1 (by rw [c0]; decide) (by rw [c0]; decide) (by rw [c0]; rfl) (by decide) ?_
    refine G_aload_n d_Hb_about_52 rfl 0 rfl ?_
    refine gx_Hb_berths d_Hb_about_53 w_348 ?_
    refine gx_Berths_count d_Hb_about_56 w_50 ?_
    exact G_iret rfl (vp_nar_int _) d_Hb_about_59 (hR _ (Ok_some h))
  replace h := Ok_f c0 h
  have n0 := ne_ti (z := 0) (by decide) c0
  by_cases c1 : v1 = (1 : Int32)
  · replace h := Ok_t c1 h
    refine G_tableIn (tgt := 60) d_Hb_about_1 (by rw [c1]; decide) (by rw [c1]; decide) (by rw [c1]; rfl) (by decide) ?_
    refine G_aload_n d_Hb_about_60 rfl 0 rfl ?_
    refine gx_Hb_boats d_Hb_about_61 w_349 ?_
    refine gx_Boats_count d_Hb_about_64 w_75 ?_
    exact G_iret rfl (vp_nar_int _) d_Hb_about_67 (hR _ (Ok_some h))
  replace h := Ok_f c1 h
  have n1 := ne_ti (z := 1) (by decide) c1
  by_cases c2 : v1 = (2 : Int32)
  · replace h := Ok_t c2 h
    refine G_tableIn (tgt := 68) d_Hb_about_1 (by rw [c2]; decide) (by rw [c2]; decide) (by rw [c2]; rfl) (by decide) ?_
    refine G_aload_n d_Hb_about_68 rfl 0 rfl ?_
    refine gx_Hb_stays d_Hb_about_69 w_351 ?_
    refine gx_Stays_count d_Hb_about_72 w_124 ?_
    exact G_iret rfl (vp_nar_int _) d_Hb_about_75 (hR _ (Ok_some h))
  replace h := Ok_f c2 h
  have n2 := ne_ti (z := 2) (by decide) c2
  by_cases c3 : v1 = (3 : Int32)
  · replace h := Ok_t c3 h
    refine G_tableIn (tgt := 76) d_Hb_about_1 (by rw [c3]; decide) (by rw [c3]; decide) (by rw [c3]; rfl) (by decide) ?_
    refine G_aload_n d_Hb_about_76 rfl 0 rfl ?_
    refine gx_Hb_spans d_Hb_about_77 w_350 ?_
    refine gx_Spans_count d_Hb_about_80 w_99 ?_
    exact G_iret rfl (vp_nar_int _) d_Hb_about_83 (hR _ (Ok_some h))
  replace h := Ok_f c3 h
  have n3 := ne_ti (z := 3) (by decide) c3
  by_cases c4 : v1 = (4 : Int32)
  · replace h := Ok_t c4 h
    refine G_tableIn (tgt := 84) d_Hb_about_1 (by rw [c4]; decide) (by rw [c4]; decide) (by rw [c4]; rfl) (by decide) ?_
    refine G_aload_n d_Hb_about_84 rfl 0 rfl ?_
    refine gx_Hb_crane d_Hb_about_85 w_353 ?_
    refine gx_Hoist_count d_Hb_about_88 w_194 ?_
    exact G_iret rfl (vp_nar_int _) d_Hb_about_91 (hR _ (Ok_some h))
  replace h := Ok_f c4 h
  have n4 := ne_ti (z := 4) (by decide) c4
  by_cases c5 : v1 = (5 : Int32)
  · replace h := Ok_t c5 h
    refine G_tableIn (tgt := 92) d_Hb_about_1 (by rw [c5]; decide) (by rw [c5]; decide) (by rw [c5]; rfl) (by decide) ?_
    refine G_aload_n d_Hb_about_92 rfl 0 rfl ?_
    refine gx_Hb_barn d_Hb_about_93 w_354 ?_
    refine gx_Shed_count d_Hb_about_96 w_226 ?_
    exact G_iret rfl (vp_nar_int _) d_Hb_about_99 (hR _ (Ok_some h))
  replace h := Ok_f c5 h
  have n5 := ne_ti (z := 5) (by decide) c5
  by_cases c6 : v1 = (6 : Int32)
  · replace h := Ok_t c6 h
    refine G_tableIn (tgt := 100) d_Hb_about_1 (by rw [c6]; decide) (by rw [c6]; decide) (by rw [c6]; rfl) (by decide) ?_
    refine G_aload_n d_Hb_about_100 rfl 0 rfl ?_
    refine gx_Hb_rules d_Hb_about_101 w_357 ?_
    refine gx_Rules_count d_Hb_about_104 w_326 ?_
    exact G_iret rfl (vp_nar_int _) d_Hb_about_107 (hR _ (Ok_some h))
  replace h := Ok_f c6 h
  have n6 := ne_ti (z := 6) (by decide) c6
  by_cases c7 : v1 = (7 : Int32)
  · replace h := Ok_t c7 h
    refine G_tableIn (tgt := 108) d_Hb_about_1 (by rw [c7]; decide) (by rw [c7]; decide) (by rw [c7]; rfl) (by decide) ?_
    refine G_aload_n d_Hb_about_108 rfl 0 rfl ?_
    refine gx_Hb_tape d_Hb_about_109 w_355 ?_
    refine gx_Tape_count d_Hb_about_112 w_269 ?_
    exact G_iret rfl (vp_nar_int _) d_Hb_about_115 (hR _ (Ok_some h))
  replace h := Ok_f c7 h
  have n7 := ne_ti (z := 7) (by decide) c7
  by_cases c8 : v1 = (8 : Int32)
  · replace h := Ok_t c8 h
    refine G_tableIn (tgt := 116) d_Hb_about_1 (by rw [c8]; decide) (by rw [c8]; decide) (by rw [c8]; rfl) (by decide) ?_
    refine G_aload_n d_Hb_about_116 rfl 0 rfl ?_
    refine gx_Hb_keptCount d_Hb_about_117 w_359 ?_
    exact G_iret rfl (vp_nar_int _) d_Hb_about_120 (hR _ (Ok_some h))
  replace h := Ok_f c8 h
  have n8 := ne_ti (z := 8) (by decide) c8
  refine G_tableOut (tgt := 121) d_Hb_about_1 (by omega) (by decide) ?_
  refine G_iconst d_Hb_about_121 lt_iconst_m1 ?_
  exact G_iret rfl (vp_nar_int _) d_Hb_about_122 (hR _ (Ok_some h))
theorem c_Hb_about {l : Launch} {D : va_G} {cI cZ cJ : ClassId} {ad : Nat → Nat} (a1 : Int32) (s : MS) {P : Int32 → Prop} (h : Ok (f_Hb_about a1 s) P) : Ct (XX l D cI cZ cJ ad) y_Hb_about b_Hb_about 2 (some .int) 0 [.ref (ad 0), .int a1] s (fun r9 s9 => s9 = s ∧ P r9) :=
  Ct.of mi_Hb_about (Nat.le_of_ble_eq_true rfl) (f_Hb_about_w a1 s (fun _ h => ⟨rfl, h⟩) h)
-- Hb_areNights
noncomputable def f_Hb_areNights (a1 a2 : Int32) : Option Int32 :=
  if a1 < 0 then (some (0 : Int32)) else (if a2 ≤ a1 then (some (0 : Int32)) else (if (400 : Int32) < a2 then (some (0 : Int32)) else (some (1 : Int32))))
theorem f_Hb_areNights_w {l : Launch} {D : va_G} {cI cZ cJ : ClassId} {ad : Nat → Nat} (a1 a2 : Int32) (s : MS) {Q : Int32 → MS → Prop} {Post : Int32 → Prop} (hR : ∀ (r9 : Int32), Post (r9) → Q r9 s) (h : Ok (f_Hb_areNights a1 a2) Post) : G (XX l D cI cZ cJ ad) "SmallHarbour" b_Hb_areNights 2 (some .boolean) 0 0 [(0, .int a1), (1, .int a2)] [] s Q := by
  unfold f_Hb_areNights at h
  refine G_iload_n d_Hb_areNights_0 rfl 0 rfl ?_
  refine G_if_lt (tgt := 20) d_Hb_areNights_1 (by decide) (fun c => ?_) (fun c => ?_)
  · replace h := Ok_t c h
    refine G_iconst d_Hb_areNights_20 lt_iconst_0 ?_
    exact G_iret rfl rfl d_Hb_areNights_21 (hR _ (Ok_some h))
  replace h := Ok_f c h
  refine G_iload_n d_Hb_areNights_4 rfl 0 rfl ?_
  refine G_iload_n d_Hb_areNights_5 rfl 1 rfl ?_
  refine G_icmp_ge (tgt := 20) d_Hb_areNights_6 (by decide) (fun c => ?_) (fun c => ?_)
  · replace h := Ok_t c h
    refine G_iconst d_Hb_areNights_20 lt_iconst_0 ?_
    exact G_iret rfl rfl d_Hb_areNights_21 (hR _ (Ok_some h))
  replace h := Ok_f c h
  refine G_iload_n d_Hb_areNights_9 rfl 1 rfl ?_
  refine G_sipush d_Hb_areNights_10 lt_sipush_400 ?_
  refine G_icmp_gt (tgt := 20) d_Hb_areNights_13 (by decide) (fun c => ?_) (fun c => ?_)
  · replace h := Ok_t c h
    refine G_iconst d_Hb_areNights_20 lt_iconst_0 ?_
    exact G_iret rfl rfl d_Hb_areNights_21 (hR _ (Ok_some h))
  replace h := Ok_f c h
  refine G_iconst d_Hb_areNights_16 lt_iconst_1 ?_
  refine G_goto (tgt := 21) d_Hb_areNights_17 (by decide) ?_
  exact G_iret rfl rfl d_Hb_areNights_21 (hR _ (Ok_some h))
theorem c_Hb_areNights {l : Launch} {D : va_G} {cI cZ cJ : ClassId} {ad : Nat → Nat} (a1 a2 : Int32) (s : MS) {P : Int32 → Prop} (h : Ok (f_Hb_areNights a1 a2) P) : Ct (XX l D cI cZ cJ ad) y_Hb_areNights b_Hb_areNights 2 (some .boolean) 0 [.int a1, .int a2] s (fun r9 s9 => s9 = s ∧ P r9) :=
  Ct.of mi_Hb_areNights (Nat.le_of_ble_eq_true rfl) (f_Hb_areNights_w a1 a2 s (fun _ h => ⟨rfl, h⟩) h)
-- Spans_add
noncomputable def f_Spans_add (a1 a2 a3 : Int32) (s : MS) : Option (Int32 × MS) :=
  if (s.1 4) < (60 : Int32) then (chk (inb (s.1 4) 60) (bnd (pa s 11 (s.1 4).toNatClampNeg a1) fun s1 => chk (inb (s1.1 4) 60) (bnd (pa s1 12 (s1.1 4).toNatClampNeg a2) fun s2 => chk (inb (s2.1 4) 60) (bnd (pa s2 13 (s2.1 4).toNatClampNeg a3) fun s3 => bnd (pf s3 4 ((s3.1 4) + (1 : Int32))) fun s4 => some ((1 : Int32), s4))))) else (some ((0 : Int32), s))
theorem f_Spans_add_w {l : Launch} {D : va_G} {cI cZ cJ : ClassId} {ad : Nat → Nat} (a1 a2 a3 : Int32) (s : MS) {Q : Int32 → MS → Prop} {Post : (Int32 × MS) → Prop} (hR : ∀ (r9 : Int32) (s9 : MS), Post ((r9, s9)) → Q r9 s9) (h : Ok (f_Spans_add a1 a2 a3 s) Post) : G (XX l D cI cZ cJ ad) "SmallHarbour$Spans" b_Spans_add 4 (some .boolean) 0 0 [(0, .ref (ad 4)), (1, .int a1), (2, .int a2), (3, .int a3)] [] s Q := by
  unfold f_Spans_add at h
  refine G_aload_n d_Spans_add_0 rfl 0 rfl ?_
  refine gx_Spans_count d_Spans_add_1 w_98 ?_
  refine G_bipush d_Spans_add_4 lt_bipush_60 ?_
  refine G_icmp_lt (tgt := 11) d_Spans_add_6 (by decide) (fun c => ?_) (fun c => ?_)
  · replace h := Ok_t c h
    refine G_aload_n d_Spans_add_11 rfl 0 rfl ?_
    refine gx_Spans_boat d_Spans_add_12 w_93 ?_
    refine G_aload_n d_Spans_add_15 rfl 0 rfl ?_
    refine gx_Spans_count d_Spans_add_16 w_98 ?_
    refine G_iload_n d_Spans_add_19 rfl 1 rfl ?_
    refine sx_11 d_Spans_add_20 (Ok_ld h).1 (fun s1 e => ?_)
    replace h := (Ok_ld h).2 s1 e
    clear e
    refine G_aload_n d_Spans_add_21 rfl 0 rfl ?_
    refine gx_Spans_from d_Spans_add_22 w_94 ?_
    refine G_aload_n d_Spans_add_25 rfl 0 rfl ?_
    refine gx_Spans_count d_Spans_add_26 w_98 ?_
    refine G_iload_n d_Spans_add_29 rfl 2 rfl ?_
    refine sx_12 d_Spans_add_30 (Ok_ld h).1 (fun s2 e => ?_)
    replace h := (Ok_ld h).2 s2 e
    clear e
    refine G_aload_n d_Spans_add_31 rfl 0 rfl ?_
    refine gx_Spans_to d_Spans_add_32 w_96 ?_
    refine G_aload_n d_Spans_add_35 rfl 0 rfl ?_
    refine gx_Spans_count d_Spans_add_36 w_98 ?_
    refine G_iload_n d_Spans_add_39 rfl 3 rfl ?_
    refine sx_13 d_Spans_add_40 (Ok_ld h).1 (fun s3 e => ?_)
    replace h := (Ok_ld h).2 s3 e
    clear e
    refine G_aload_n d_Spans_add_41 rfl 0 rfl ?_
    refine G_dup d_Spans_add_42 rfl ?_
    refine gx_Spans_count d_Spans_add_43 w_98 ?_
    refine G_iconst d_Spans_add_46 lt_iconst_1 ?_
    refine G_iadd d_Spans_add_47 ?_
    refine px_Spans_count d_Spans_add_48 w_98 (fun s4 e => ?_)
    replace h := Ok_bnd h s4 e
    clear e
    refine G_iconst d_Spans_add_51 lt_iconst_1 ?_
    exact G_iret rfl rfl d_Spans_add_52 (hR _ _ (Ok_some h))
  replace h := Ok_f c h
  refine G_iconst d_Spans_add_9 lt_iconst_0 ?_
  exact G_iret rfl rfl d_Spans_add_10 (hR _ _ (Ok_some h))
theorem c_Spans_add {l : Launch} {D : va_G} {cI cZ cJ : ClassId} {ad : Nat → Nat} (a1 a2 a3 : Int32) (s : MS) {P : Int32 → MS → Prop} (h : Ok2 (f_Spans_add a1 a2 a3 s) P) : Ct (XX l D cI cZ cJ ad) y_Spans_add b_Spans_add 4 (some .boolean) 0 [.ref (ad 4), .int a1, .int a2, .int a3] s (P) :=
  Ct.of mi_Spans_add (Nat.le_of_ble_eq_true rfl) (f_Spans_add_w a1 a2 a3 s (Post := fun q => P q.1 q.2) (fun _ _ h => h) (Ok2_ok h))
-- Spans_nightsAway
noncomputable def Spans_nightsAway_l6 (x1 x2 x3 : Int32) (s : MS) (x4 x5 : Int32) : Option ((Int32 × Int32) ⊕ Int32) :=
  if (s.1 4) ≤ x5 then (xit (some x4)) else (chk (inb x5 60) (bnd (s.2 11 x5.toNatClampNeg) fun v1 => if v1 = x1 then (chk (inb x5 60) (bnd (s.2 13 x5.toNatClampNeg) fun v3 => bnd (if v3 < x3 then v3 else x3) fun v4 => chk (inb x5 60) (bnd (s.2 12 x5.toNatClampNeg) fun v5 => bnd (if x2 < v5 then v5 else x2) fun v6 => bnd (if (0 : Int32) < (v4 - v6) then (v4 - v6) else (0 : Int32)) fun v7 => bnd (x4 + v7) fun v8 => bnd (x5 + (1 : Int32)) fun v9 => some (.inl (v8, v9))))) else (bnd (x5 + (1 : Int32)) fun v2 => some (.inl (x4, v2)))))
theorem Spans_nightsAway_l6_w {l : Launch} {D : va_G} {cI cZ cJ : ClassId} {ad : Nat → Nat} (x1 x2 x3 x4 x5 : Int32) (s : MS) {Q : Int32 → MS → Prop} {Post : ((Int32 × Int32) ⊕ Int32) → Prop} (hR : ∀ (r9 : Int32), Post (.inr (r9)) → Q r9 s) (hL6 : ∀ (z4 z5 : Int32) , Post (.inl (z4, z5)) → G (XX l D cI cZ cJ ad) "SmallHarbour$Spans" b_Spans_nightsAway 6 (some .int) 1 6 [(0, .ref (ad 4)), (1, .int x1), (2, .int x2), (3, .int x3), (4, .int z4), (5, .int z5)] [] s Q) (h : Ok (Spans_nightsAway_l6 x1 x2 x3 s x4 x5) Post) : G (XX l D cI cZ cJ ad) "SmallHarbour$Spans" b_Spans_nightsAway 6 (some .int) 1 6 [(0, .ref (ad 4)), (1, .int x1), (2, .int x2), (3, .int x3), (4, .int x4), (5, .int x5)] [] s Q := by
  unfold Spans_nightsAway_l6 at h
  refine G_iload d_Spans_nightsAway_6 5 rfl ?_
  refine G_aload_n d_Spans_nightsAway_8 rfl 0 rfl ?_
  refine gx_Spans_count d_Spans_nightsAway_9 w_98 ?_
  refine G_icmp_ge (tgt := 64) d_Spans_nightsAway_12 (by decide) (fun c => ?_) (fun c => ?_)
  · replace h := Ok_t c h
    replace h := Ok_xit h
    refine G_iload d_Spans_nightsAway_64 4 rfl ?_
    exact G_iret rfl (vp_nar_int _) d_Spans_nightsAway_66 (hR _ (Ok_some h))
  replace h := Ok_f c h
  refine G_aload_n d_Spans_nightsAway_15 rfl 0 rfl ?_
  refine gx_Spans_boat d_Spans_nightsAway_16 w_93 ?_
  refine G_iload d_Spans_nightsAway_19 5 rfl ?_
  refine lx_11 d_Spans_nightsAway_21 (Ok_ld h).1 (fun v1 e => ?_)
  replace h := (Ok_ld h).2 v1 e
  clear e
  refine G_iload_n d_Spans_nightsAway_22 rfl 1 rfl ?_
  refine G_icmp_ne (tgt := 58) d_Spans_nightsAway_23 (by decide) (fun c => ?_) (fun c => ?_)
  · replace h := Ok_f c h
    refine G_iinc d_Spans_nightsAway_58 5 rfl lt_iconst_1 rfl (Nat.le_of_ble_eq_true rfl) (fun x => [(5, .int x), (0, .ref (ad 4)), (1, .int x1), (2, .int x2), (3, .int x3), (4, .int x4)]) (fun _ => rfl) (fun v2 e => ?_)
    replace h := Ok_bnd h v2 e
    clear e
    refine G_goto (tgt := 6) d_Spans_nightsAway_61 (by decide) ?_
    refine G_lv [1, 2, 3, 4, 5, 0] rfl ?_
    exact hL6 x4 v2 (Ok_some h)
  replace h := Ok_t c h
  refine G_iload d_Spans_nightsAway_26 4 rfl ?_
  refine G_iconst d_Spans_nightsAway_28 lt_iconst_0 ?_
  refine G_iload_n d_Spans_nightsAway_29 rfl 3 rfl ?_
  refine G_aload_n d_Spans_nightsAway_30 rfl 0 rfl ?_
  refine gx_Spans_to d_Spans_nightsAway_31 w_96 ?_
  refine G_iload d_Spans_nightsAway_34 5 rfl ?_
  refine lx_13 d_Spans_nightsAway_36 (Ok_ld h).1 (fun v3 e => ?_)
  replace h := (Ok_ld h).2 v3 e
  clear e
  refine G_min d_Spans_nightsAway_37 w_504 w_451 w_15 w_452 (by decide) (Nat.le_of_ble_eq_true rfl) (G_topi (fun v4 e => ?_))
  replace h := Ok_bnd h v4 e
  clear e
  refine G_iload_n d_Spans_nightsAway_40 rfl 2 rfl ?_
  refine G_aload_n d_Spans_nightsAway_41 rfl 0 rfl ?_
  refine gx_Spans_from d_Spans_nightsAway_42 w_94 ?_
  refine G_iload d_Spans_nightsAway_45 5 rfl ?_
  refine lx_12 d_Spans_nightsAway_47 (Ok_ld h).1 (fun v5 e => ?_)
  replace h := (Ok_ld h).2 v5 e
  clear e
  refine G_max d_Spans_nightsAway_48 w_505 w_506 w_15 w_507 (by decide) (Nat.le_of_ble_eq_true rfl) (G_topi (fun v6 e => ?_))
  replace h := Ok_bnd h v6 e
  clear e
  refine G_isub d_Spans_nightsAway_51 ?_
  refine G_max d_Spans_nightsAway_52 w_505 w_506 w_15 w_507 (by decide) (Nat.le_of_ble_eq_true rfl) (G_topi (fun v7 e => ?_))
  replace h := Ok_bnd h v7 e
  clear e
  refine G_iadd d_Spans_nightsAway_55 ?_
  refine G_istore d_Spans_nightsAway_56 (Nat.le_of_ble_eq_true rfl) (fun x => [(4, .int x), (0, .ref (ad 4)), (1, .int x1), (2, .int x2), (3, .int x3), (5, .int x5)]) (fun _ => rfl) (fun v8 e => ?_)
  replace h := Ok_bnd h v8 e
  clear e
  refine G_iinc d_Spans_nightsAway_58 5 rfl lt_iconst_1 rfl (Nat.le_of_ble_eq_true rfl) (fun x => [(5, .int x), (4, .int v8), (0, .ref (ad 4)), (1, .int x1), (2, .int x2), (3, .int x3)]) (fun _ => rfl) (fun v9 e => ?_)
  replace h := Ok_bnd h v9 e
  clear e
  refine G_goto (tgt := 6) d_Spans_nightsAway_61 (by decide) ?_
  refine G_lv [2, 3, 4, 5, 1, 0] rfl ?_
  exact hL6 v8 v9 (Ok_some h)
noncomputable def f_Spans_nightsAway (a1 a2 a3 : Int32) (s : MS) : Option Int32 :=
  loop (fun z => Spans_nightsAway_l6 a1 a2 a3 s z.1 z.2) ((0 : Int32), (0 : Int32))
theorem f_Spans_nightsAway_w {l : Launch} {D : va_G} {cI cZ cJ : ClassId} {ad : Nat → Nat} (a1 a2 a3 : Int32) (s : MS) {Q : Int32 → MS → Prop} {Post : Int32 → Prop} (hR : ∀ (r9 : Int32), Post (r9) → Q r9 s) (h : Ok (f_Spans_nightsAway a1 a2 a3 s) Post) : G (XX l D cI cZ cJ ad) "SmallHarbour$Spans" b_Spans_nightsAway 6 (some .int) 1 0 [(0, .ref (ad 4)), (1, .int a1), (2, .int a2), (3, .int a3)] [] s Q := by
  unfold f_Spans_nightsAway at h
  refine G_iconst d_Spans_nightsAway_0 lt_iconst_0 ?_
  refine G_istore d_Spans_nightsAway_1 (Nat.le_of_ble_eq_true rfl) (fun x => [(4, .int x), (0, .ref (ad 4)), (1, .int a1), (2, .int a2), (3, .int a3)]) (fun _ => rfl) (fun x e => ?_)
  subst e
  refine G_iconst d_Spans_nightsAway_3 lt_iconst_0 ?_
  refine G_istore d_Spans_nightsAway_4 (Nat.le_of_ble_eq_true rfl) (fun x => [(5, .int x), (4, .int (0 : Int32)), (0, .ref (ad 4)), (1, .int a1), (2, .int a2), (3, .int a3)]) (fun _ => rfl) (fun x e => ?_)
  subst e
  refine G_lv [2, 3, 4, 5, 1, 0] rfl ?_
  exact G_loop (J := (fun z => G (XX l D cI cZ cJ ad) "SmallHarbour$Spans" b_Spans_nightsAway 6 (some .int) 1 6 [(0, .ref (ad 4)), (1, .int a1), (2, .int a2), (3, .int a3), (4, .int (z.1)), (5, .int (z.2))] [] s Q)) (fun z h => Spans_nightsAway_l6_w a1 a2 a3 z.1 z.2 s (Post := Sum.elim (fun z => G (XX l D cI cZ cJ ad) "SmallHarbour$Spans" b_Spans_nightsAway 6 (some .int) 1 6 [(0, .ref (ad 4)), (1, .int a1), (2, .int a2), (3, .int a3), (4, .int (z.1)), (5, .int (z.2))] [] s Q) _) hR (fun z4 z5 h => h) h) ((0 : Int32), (0 : Int32)) h
theorem c_Spans_nightsAway {l : Launch} {D : va_G} {cI cZ cJ : ClassId} {ad : Nat → Nat} (a1 a2 a3 : Int32) (s : MS) {P : Int32 → Prop} (h : Ok (f_Spans_nightsAway a1 a2 a3 s) P) : Ct (XX l D cI cZ cJ ad) y_Spans_nightsAway b_Spans_nightsAway 6 (some .int) 1 [.ref (ad 4), .int a1, .int a2, .int a3] s (fun r9 s9 => s9 = s ∧ P r9) :=
  Ct.of mi_Spans_nightsAway (Nat.le_of_ble_eq_true rfl) (f_Spans_nightsAway_w a1 a2 a3 s (fun _ h => ⟨rfl, h⟩) h)
-- Hb_away
noncomputable def f_Hb_away (a1 a2 a3 : Int32) (s : MS) : Option (Int32 × MS) :=
  (f_Boats_has a1 s).bind fun v1 => if v1 = 0 then (some ((0 : Int32), s)) else (chk (inb a1 30) (bnd (s.2 10 a1.toNatClampNeg) fun v2 => if v2 = (-1 : Int32) then (some ((0 : Int32), s)) else ((f_Hb_areNights a2 a3).bind fun v3 => if v3 = 0 then (some ((0 : Int32), s)) else ((f_Spans_nightsAway a1 a2 a3 s).bind fun v4 => if v4 = 0 then (bd2 (f_Spans_add a1 a2 a3 s) fun v5 s6 => if v5 = 0 then (some ((0 : Int32), s6)) else (some ((1 : Int32), s6))) else (some ((0 : Int32), s))))))
theorem f_Hb_away_w {l : Launch} {D : va_G} {cI cZ cJ : ClassId} {ad : Nat → Nat} (a1 a2 a3 : Int32) (s : MS) {Q : Int32 → MS → Prop} {Post : (Int32 × MS) → Prop} (hR : ∀ (r9 : Int32) (s9 : MS), Post ((r9, s9)) → Q r9 s9) (h : Ok (f_Hb_away a1 a2 a3 s) Post) : G (XX l D cI cZ cJ ad) "SmallHarbour" b_Hb_away 4 (some .boolean) 2 0 [(0, .ref (ad 0)), (1, .int a1), (2, .int a2), (3, .int a3)] [] s Q := by
  unfold f_Hb_away at h
  refine G_aload_n d_Hb_away_0 rfl 0 rfl ?_
  refine gx_Hb_boats d_Hb_away_1 w_349 ?_
  refine G_iload_n d_Hb_away_4 rfl 1 rfl ?_
  refine G_callVp (st := []) (As := [.int a1]) (b := ad 3) d_Hb_away_5 mi_Boats_has w_465 3 rfl rfl mv_Boats_has rfl (Nat.le_of_ble_eq_true rfl) (by decide) (c_Boats_has a1 s (Ok_bind h)) (fun v1 h hnv1 => ?_)
  refine G_if_eq (tgt := 32) d_Hb_away_8 (by decide) (fun c => ?_) (fun c => ?_)
  · replace h := Ok_t c h
    refine G_iconst d_Hb_away_32 lt_iconst_0 ?_
    exact G_iret rfl rfl d_Hb_away_33 (hR _ _ (Ok_some h))
  replace h := Ok_f c h
  refine G_aload_n d_Hb_away_11 rfl 0 rfl ?_
  refine gx_Hb_boats d_Hb_away_12 w_349 ?_
  refine gx_Boats_home d_Hb_away_15 w_73 ?_
  refine G_iload_n d_Hb_away_18 rfl 1 rfl ?_
  refine lx_10 d_Hb_away_19 (Ok_ld h).1 (fun v2 e => ?_)
  replace h := (Ok_ld h).2 v2 e
  clear e
  refine G_iconst d_Hb_away_20 lt_iconst_m1 ?_
  refine G_icmp_eq (tgt := 32) d_Hb_away_21 (by decide) (fun c => ?_) (fun c => ?_)
  · replace h := Ok_t c h
    refine G_iconst d_Hb_away_32 lt_iconst_0 ?_
    exact G_iret rfl rfl d_Hb_away_33 (hR _ _ (Ok_some h))
  replace h := Ok_f c h
  refine G_iload_n d_Hb_away_24 rfl 2 rfl ?_
  refine G_iload_n d_Hb_away_25 rfl 3 rfl ?_
  refine G_callSp (st := []) (As := [.int a2, .int a3]) d_Hb_away_26 mi_Hb_areNights w_512 w_513 rfl (Nat.le_of_ble_eq_true rfl) (by decide) (c_Hb_areNights a2 a3 s (Ok_bind h)) (fun v3 h hnv3 => ?_)
  refine G_if_ne (tgt := 34) d_Hb_away_29 (by decide) (fun c => ?_) (fun c => ?_)
  · replace h := Ok_f c h
    refine G_aload_n d_Hb_away_34 rfl 0 rfl ?_
    refine gx_Hb_spans d_Hb_away_35 w_350 ?_
    refine G_iload_n d_Hb_away_38 rfl 1 rfl ?_
    refine G_iload_n d_Hb_away_39 rfl 2 rfl ?_
    refine G_iload_n d_Hb_away_40 rfl 3 rfl ?_
    refine G_callVp (st := []) (As := [.int a1, .int a2, .int a3]) (b := ad 4) d_Hb_away_41 mi_Spans_nightsAway w_500 4 rfl rfl mv_Spans_nightsAway rfl (Nat.le_of_ble_eq_true rfl) (by decide) (c_Spans_nightsAway a1 a2 a3 s (Ok_bind h)) (fun v4 h hnv4 => ?_)
    refine G_if_ne (tgt := 64) d_Hb_away_44 (by decide) (fun c => ?_) (fun c => ?_)
    · replace h := Ok_f c h
      refine G_iconst d_Hb_away_64 lt_iconst_0 ?_
      exact G_iret rfl rfl d_Hb_away_65 (hR _ _ (Ok_some h))
    replace h := Ok_t c h
    refine G_aload_n d_Hb_away_47 rfl 0 rfl ?_
    refine gx_Hb_spans d_Hb_away_48 w_350 ?_
    refine G_iload_n d_Hb_away_51 rfl 1 rfl ?_
    refine G_iload_n d_Hb_away_52 rfl 2 rfl ?_
    refine G_iload_n d_Hb_away_53 rfl 3 rfl ?_
    refine G_callVi (st := []) (As := [.int a1, .int a2, .int a3]) (b := ad 4) d_Hb_away_54 mi_Spans_add w_515 4 rfl rfl mv_Spans_add rfl (Nat.le_of_ble_eq_true rfl) (by decide) (c_Spans_add a1 a2 a3 s (Ok_bd2 h)) (fun v5 s6 h hnv5 => ?_)
    refine G_if_eq (tgt := 64) d_Hb_away_57 (by decide) (fun c => ?_) (fun c => ?_)
    · replace h := Ok_t c h
      refine G_iconst d_Hb_away_64 lt_iconst_0 ?_
      exact G_iret rfl rfl d_Hb_away_65 (hR _ _ (Ok_some h))
    replace h := Ok_f c h
    refine G_iconst d_Hb_away_60 lt_iconst_1 ?_
    refine G_goto (tgt := 65) d_Hb_away_61 (by decide) ?_
    exact G_iret rfl rfl d_Hb_away_65 (hR _ _ (Ok_some h))
  replace h := Ok_t c h
  refine G_iconst d_Hb_away_32 lt_iconst_0 ?_
  exact G_iret rfl rfl d_Hb_away_33 (hR _ _ (Ok_some h))
theorem c_Hb_away {l : Launch} {D : va_G} {cI cZ cJ : ClassId} {ad : Nat → Nat} (a1 a2 a3 : Int32) (s : MS) {P : Int32 → MS → Prop} (h : Ok2 (f_Hb_away a1 a2 a3 s) P) : Ct (XX l D cI cZ cJ ad) y_Hb_away b_Hb_away 4 (some .boolean) 2 [.ref (ad 0), .int a1, .int a2, .int a3] s (P) :=
  Ct.of mi_Hb_away (Nat.le_of_ble_eq_true rfl) (f_Hb_away_w a1 a2 a3 s (Post := fun q => P q.1 q.2) (fun _ _ h => h) (Ok2_ok h))
-- Hb_berth
noncomputable def f_Hb_berth (a1 a2 : Int32) (s : MS) : Option (Int32 × MS) :=
  bd2 (f_Berths_add a1 a2 s) fun v1 s2 => some (v1, s2)
theorem f_Hb_berth_w {l : Launch} {D : va_G} {cI cZ cJ : ClassId} {ad : Nat → Nat} (a1 a2 : Int32) (s : MS) {Q : Int32 → MS → Prop} {Post : (Int32 × MS) → Prop} (hR : ∀ (r9 : Int32) (s9 : MS), Post ((r9, s9)) → Q r9 s9) (h : Ok (f_Hb_berth a1 a2 s) Post) : G (XX l D cI cZ cJ ad) "SmallHarbour" b_Hb_berth 3 (some .int) 2 0 [(0, .ref (ad 0)), (1, .int a1), (2, .int a2)] [] s Q := by
  unfold f_Hb_berth at h
  refine G_aload_n d_Hb_berth_0 rfl 0 rfl ?_
  refine gx_Hb_berths d_Hb_berth_1 w_348 ?_
  refine G_iload_n d_Hb_berth_4 rfl 1 rfl ?_
  refine G_iload_n d_Hb_berth_5 rfl 2 rfl ?_
  refine G_callVi (st := []) (As := [.int a1, .int a2]) (b := ad 2) d_Hb_berth_6 mi_Berths_add w_418 2 rfl rfl mv_Berths_add rfl (Nat.le_of_ble_eq_true rfl) (by decide) (c_Berths_add a1 a2 s (Ok_bd2 h)) (fun v1 s2 h hnv1 => ?_)
  exact G_iret rfl (vp_nar_int _) d_Hb_berth_9 (hR _ _ (Ok_some h))
theorem c_Hb_berth {l : Launch} {D : va_G} {cI cZ cJ : ClassId} {ad : Nat → Nat} (a1 a2 : Int32) (s : MS) {P : Int32 → MS → Prop} (h : Ok2 (f_Hb_berth a1 a2 s) P) : Ct (XX l D cI cZ cJ ad) y_Hb_berth b_Hb_berth 3 (some .int) 2 [.ref (ad 0), .int a1, .int a2] s (P) :=
  Ct.of mi_Hb_berth (Nat.le_of_ble_eq_true rfl) (f_Hb_berth_w a1 a2 s (Post := fun q => P q.1 q.2) (fun _ _ h => h) (Ok2_ok h))
-- Hb_isDay
noncomputable def f_Hb_isDay (a1 : Int32) : Option Int32 :=
  if a1 < 0 then (some (0 : Int32)) else (if (400 : Int32) ≤ a1 then (some (0 : Int32)) else (some (1 : Int32)))
theorem f_Hb_isDay_w {l : Launch} {D : va_G} {cI cZ cJ : ClassId} {ad : Nat → Nat} (a1 : Int32) (s : MS) {Q : Int32 → MS → Prop} {Post : Int32 → Prop} (hR : ∀ (r9 : Int32), Post (r9) → Q r9 s) (h : Ok (f_Hb_isDay a1) Post) : G (XX l D cI cZ cJ ad) "SmallHarbour" b_Hb_isDay 1 (some .boolean) 0 0 [(0, .int a1)] [] s Q := by
  unfold f_Hb_isDay at h
  refine G_iload_n d_Hb_isDay_0 rfl 0 rfl ?_
  refine G_if_lt (tgt := 15) d_Hb_isDay_1 (by decide) (fun c => ?_) (fun c => ?_)
  · replace h := Ok_t c h
    refine G_iconst d_Hb_isDay_15 lt_iconst_0 ?_
    exact G_iret rfl rfl d_Hb_isDay_16 (hR _ (Ok_some h))
  replace h := Ok_f c h
  refine G_iload_n d_Hb_isDay_4 rfl 0 rfl ?_
  refine G_sipush d_Hb_isDay_5 lt_sipush_400 ?_
  refine G_icmp_ge (tgt := 15) d_Hb_isDay_8 (by decide) (fun c => ?_) (fun c => ?_)
  · replace h := Ok_t c h
    refine G_iconst d_Hb_isDay_15 lt_iconst_0 ?_
    exact G_iret rfl rfl d_Hb_isDay_16 (hR _ (Ok_some h))
  replace h := Ok_f c h
  refine G_iconst d_Hb_isDay_11 lt_iconst_1 ?_
  refine G_goto (tgt := 16) d_Hb_isDay_12 (by decide) ?_
  exact G_iret rfl rfl d_Hb_isDay_16 (hR _ (Ok_some h))
theorem c_Hb_isDay {l : Launch} {D : va_G} {cI cZ cJ : ClassId} {ad : Nat → Nat} (a1 : Int32) (s : MS) {P : Int32 → Prop} (h : Ok (f_Hb_isDay a1) P) : Ct (XX l D cI cZ cJ ad) y_Hb_isDay b_Hb_isDay 1 (some .boolean) 0 [.int a1] s (fun r9 s9 => s9 = s ∧ P r9) :=
  Ct.of mi_Hb_isDay (Nat.le_of_ble_eq_true rfl) (f_Hb_isDay_w a1 s (fun _ h => ⟨rfl, h⟩) h)
-- Spans_find
noncomputable def Spans_find_l2 (x1 x2 : Int32) (s : MS) (x3 : Int32) : Option ((Int32) ⊕ Int32) :=
  if (s.1 4) ≤ x3 then (xit (some (-1 : Int32))) else (chk (inb x3 60) (bnd (s.2 11 x3.toNatClampNeg) fun v1 => if v1 = x1 then (chk (inb x3 60) (bnd (s.2 12 x3.toNatClampNeg) fun v3 => if x2 < v3 then (bnd (x3 + (1 : Int32)) fun v4 => some (.inl v4)) else (chk (inb x3 60) (bnd (s.2 13 x3.toNatClampNeg) fun v5 => if v5 ≤ x2 then (bnd (x3 + (1 : Int32)) fun v6 => some (.inl v6)) else (xit (some x3)))))) else (bnd (x3 + (1 : Int32)) fun v2 => some (.inl v2))))
theorem Spans_find_l2_w {l : Launch} {D : va_G} {cI cZ cJ : ClassId} {ad : Nat → Nat} (x1 x2 x3 : Int32) (s : MS) {Q : Int32 → MS → Prop} {Post : ((Int32) ⊕ Int32) → Prop} (hR : ∀ (r9 : Int32), Post (.inr (r9)) → Q r9 s) (hL2 : ∀ (z3 : Int32) , Post (.inl z3) → G (XX l D cI cZ cJ ad) "SmallHarbour$Spans" b_Spans_find 4 (some .int) 0 2 [(0, .ref (ad 4)), (1, .int x1), (2, .int x2), (3, .int z3)] [] s Q) (h : Ok (Spans_find_l2 x1 x2 s x3) Post) : G (XX l D cI cZ cJ ad) "SmallHarbour$Spans" b_Spans_find 4 (some .int) 0 2 [(0, .ref (ad 4)), (1, .int x1), (2, .int x2), (3, .int x3)] [] s Q := by
  unfold Spans_find_l2 at h
  refine G_iload_n d_Spans_find_2 rfl 3 rfl ?_
  refine G_aload_n d_Spans_find_3 rfl 0 rfl ?_
  refine gx_Spans_count d_Spans_find_4 w_98 ?_
  refine G_icmp_ge (tgt := 48) d_Spans_find_7 (by decide) (fun c => ?_) (fun c => ?_)
  · replace h := Ok_t c h
    replace h := Ok_xit h
    refine G_iconst d_Spans_find_48 lt_iconst_m1 ?_
    exact G_iret rfl (vp_nar_int _) d_Spans_find_49 (hR _ (Ok_some h))
  replace h := Ok_f c h
  refine G_aload_n d_Spans_find_10 rfl 0 rfl ?_
  refine gx_Spans_boat d_Spans_find_11 w_93 ?_
  refine G_iload_n d_Spans_find_14 rfl 3 rfl ?_
  refine lx_11 d_Spans_find_15 (Ok_ld h).1 (fun v1 e => ?_)
  replace h := (Ok_ld h).2 v1 e
  clear e
  refine G_iload_n d_Spans_find_16 rfl 1 rfl ?_
  refine G_icmp_ne (tgt := 42) d_Spans_find_17 (by decide) (fun c => ?_) (fun c => ?_)
  · replace h := Ok_f c h
    refine G_iinc d_Spans_find_42 3 rfl lt_iconst_1 rfl (Nat.le_of_ble_eq_true rfl) (fun x => [(3, .int x), (0, .ref (ad 4)), (1, .int x1), (2, .int x2)]) (fun _ => rfl) (fun v2 e => ?_)
    replace h := Ok_bnd h v2 e
    clear e
    refine G_goto (tgt := 2) d_Spans_find_45 (by decide) ?_
    refine G_lv [1, 2, 3, 0] rfl ?_
    exact hL2 v2 (Ok_some h)
  replace h := Ok_t c h
  refine G_aload_n d_Spans_find_20 rfl 0 rfl ?_
  refine gx_Spans_from d_Spans_find_21 w_94 ?_
  refine G_iload_n d_Spans_find_24 rfl 3 rfl ?_
  refine lx_12 d_Spans_find_25 (Ok_ld h).1 (fun v3 e => ?_)
  replace h := (Ok_ld h).2 v3 e
  clear e
  refine G_iload_n d_Spans_find_26 rfl 2 rfl ?_
  refine G_icmp_gt (tgt := 42) d_Spans_find_27 (by decide) (fun c => ?_) (fun c => ?_)
  · replace h := Ok_t c h
    refine G_iinc d_Spans_find_42 3 rfl lt_iconst_1 rfl (Nat.le_of_ble_eq_true rfl) (fun x => [(3, .int x), (0, .ref (ad 4)), (1, .int x1), (2, .int x2)]) (fun _ => rfl) (fun v4 e => ?_)
    replace h := Ok_bnd h v4 e
    clear e
    refine G_goto (tgt := 2) d_Spans_find_45 (by decide) ?_
    refine G_lv [1, 2, 3, 0] rfl ?_
    exact hL2 v4 (Ok_some h)
  replace h := Ok_f c h
  refine G_iload_n d_Spans_find_30 rfl 2 rfl ?_
  refine G_aload_n d_Spans_find_31 rfl 0 rfl ?_
  refine gx_Spans_to d_Spans_find_32 w_96 ?_
  refine G_iload_n d_Spans_find_35 rfl 3 rfl ?_
  refine lx_13 d_Spans_find_36 (Ok_ld h).1 (fun v5 e => ?_)
  replace h := (Ok_ld h).2 v5 e
  clear e
  refine G_icmp_ge (tgt := 42) d_Spans_find_37 (by decide) (fun c => ?_) (fun c => ?_)
  · replace h := Ok_t c h
    refine G_iinc d_Spans_find_42 3 rfl lt_iconst_1 rfl (Nat.le_of_ble_eq_true rfl) (fun x => [(3, .int x), (0, .ref (ad 4)), (1, .int x1), (2, .int x2)]) (fun _ => rfl) (fun v6 e => ?_)
    replace h := Ok_bnd h v6 e
    clear e
    refine G_goto (tgt := 2) d_Spans_find_45 (by decide) ?_
    refine G_lv [1, 2, 3, 0] rfl ?_
    exact hL2 v6 (Ok_some h)
  replace h := Ok_f c h
  replace h := Ok_xit h
  refine G_iload_n d_Spans_find_40 rfl 3 rfl ?_
  exact G_iret rfl (vp_nar_int _) d_Spans_find_41 (hR _ (Ok_some h))
noncomputable def f_Spans_find (a1 a2 : Int32) (s : MS) : Option Int32 :=
  loop (fun z => Spans_find_l2 a1 a2 s z) (0 : Int32)
theorem f_Spans_find_w {l : Launch} {D : va_G} {cI cZ cJ : ClassId} {ad : Nat → Nat} (a1 a2 : Int32) (s : MS) {Q : Int32 → MS → Prop} {Post : Int32 → Prop} (hR : ∀ (r9 : Int32), Post (r9) → Q r9 s) (h : Ok (f_Spans_find a1 a2 s) Post) : G (XX l D cI cZ cJ ad) "SmallHarbour$Spans" b_Spans_find 4 (some .int) 0 0 [(0, .ref (ad 4)), (1, .int a1), (2, .int a2)] [] s Q := by
  unfold f_Spans_find at h
  refine G_iconst d_Spans_find_0 lt_iconst_0 ?_
  refine G_istore_n d_Spans_find_1 rfl (Nat.le_of_ble_eq_true rfl) (fun x => [(3, .int x), (0, .ref (ad 4)), (1, .int a1), (2, .int a2)]) (fun _ => rfl) (fun x e => ?_)
  subst e
  refine G_lv [1, 2, 3, 0] rfl ?_
  exact G_loop (J := (fun z => G (XX l D cI cZ cJ ad) "SmallHarbour$Spans" b_Spans_find 4 (some .int) 0 2 [(0, .ref (ad 4)), (1, .int a1), (2, .int a2), (3, .int z)] [] s Q)) (fun z h => Spans_find_l2_w a1 a2 z s (Post := Sum.elim (fun z => G (XX l D cI cZ cJ ad) "SmallHarbour$Spans" b_Spans_find 4 (some .int) 0 2 [(0, .ref (ad 4)), (1, .int a1), (2, .int a2), (3, .int z)] [] s Q) _) hR (fun z3 h => h) h) (0 : Int32) h
theorem c_Spans_find {l : Launch} {D : va_G} {cI cZ cJ : ClassId} {ad : Nat → Nat} (a1 a2 : Int32) (s : MS) {P : Int32 → Prop} (h : Ok (f_Spans_find a1 a2 s) P) : Ct (XX l D cI cZ cJ ad) y_Spans_find b_Spans_find 4 (some .int) 0 [.ref (ad 4), .int a1, .int a2] s (fun r9 s9 => s9 = s ∧ P r9) :=
  Ct.of mi_Spans_find (Nat.le_of_ble_eq_true rfl) (f_Spans_find_w a1 a2 s (fun _ h => ⟨rfl, h⟩) h)
-- Stays_ofBoat
noncomputable def Stays_ofBoat_l3 (x1 x2 x3 : Int32) (s : MS) (x4 : Int32) : Option ((Int32) ⊕ Int32) :=
  if (s.1 5) ≤ x4 then (xit (some (-1 : Int32))) else (chk (inb x4 40) (bnd (s.2 14 x4.toNatClampNeg) fun v1 => if v1 = x1 then (chk (inb x4 40) (bnd (s.2 16 x4.toNatClampNeg) fun v3 => if x3 ≤ v3 then (bnd (x4 + (1 : Int32)) fun v4 => some (.inl v4)) else (chk (inb x4 40) (bnd (s.2 17 x4.toNatClampNeg) fun v5 => if v5 ≤ x2 then (bnd (x4 + (1 : Int32)) fun v6 => some (.inl v6)) else (xit (some x4)))))) else (bnd (x4 + (1 : Int32)) fun v2 => some (.inl v2))))
theorem Stays_ofBoat_l3_w {l : Launch} {D : va_G} {cI cZ cJ : ClassId} {ad : Nat → Nat} (x1 x2 x3 x4 : Int32) (s : MS) {Q : Int32 → MS → Prop} {Post : ((Int32) ⊕ Int32) → Prop} (hR : ∀ (r9 : Int32), Post (.inr (r9)) → Q r9 s) (hL3 : ∀ (z4 : Int32) , Post (.inl z4) → G (XX l D cI cZ cJ ad) "SmallHarbour$Stays" b_Stays_ofBoat 5 (some .int) 0 3 [(0, .ref (ad 5)), (1, .int x1), (2, .int x2), (3, .int x3), (4, .int z4)] [] s Q) (h : Ok (Stays_ofBoat_l3 x1 x2 x3 s x4) Post) : G (XX l D cI cZ cJ ad) "SmallHarbour$Stays" b_Stays_ofBoat 5 (some .int) 0 3 [(0, .ref (ad 5)), (1, .int x1), (2, .int x2), (3, .int x3), (4, .int x4)] [] s Q := by
  unfold Stays_ofBoat_l3 at h
  refine G_iload d_Stays_ofBoat_3 4 rfl ?_
  refine G_aload_n d_Stays_ofBoat_5 rfl 0 rfl ?_
  refine gx_Stays_count d_Stays_ofBoat_6 w_123 ?_
  refine G_icmp_ge (tgt := 54) d_Stays_ofBoat_9 (by decide) (fun c => ?_) (fun c => ?_)
  · replace h := Ok_t c h
    replace h := Ok_xit h
    refine G_iconst d_Stays_ofBoat_54 lt_iconst_m1 ?_
    exact G_iret rfl (vp_nar_int _) d_Stays_ofBoat_55 (hR _ (Ok_some h))
  replace h := Ok_f c h
  refine G_aload_n d_Stays_ofBoat_12 rfl 0 rfl ?_
  refine gx_Stays_boat d_Stays_ofBoat_13 w_115 ?_
  refine G_iload d_Stays_ofBoat_16 4 rfl ?_
  refine lx_14 d_Stays_ofBoat_18 (Ok_ld h).1 (fun v1 e => ?_)
  replace h := (Ok_ld h).2 v1 e
  clear e
  refine G_iload_n d_Stays_ofBoat_19 rfl 1 rfl ?_
  refine G_icmp_ne (tgt := 48) d_Stays_ofBoat_20 (by decide) (fun c => ?_) (fun c => ?_)
  · replace h := Ok_f c h
    refine G_iinc d_Stays_ofBoat_48 4 rfl lt_iconst_1 rfl (Nat.le_of_ble_eq_true rfl) (fun x => [(4, .int x), (0, .ref (ad 5)), (1, .int x1), (2, .int x2), (3, .int x3)]) (fun _ => rfl) (fun v2 e => ?_)
    replace h := Ok_bnd h v2 e
    clear e
    refine G_goto (tgt := 3) d_Stays_ofBoat_51 (by decide) ?_
    refine G_lv [1, 2, 3, 4, 0] rfl ?_
    exact hL3 v2 (Ok_some h)
  replace h := Ok_t c h
  refine G_aload_n d_Stays_ofBoat_23 rfl 0 rfl ?_
  refine gx_Stays_from d_Stays_ofBoat_24 w_119 ?_
  refine G_iload d_Stays_ofBoat_27 4 rfl ?_
  refine lx_16 d_Stays_ofBoat_29 (Ok_ld h).1 (fun v3 e => ?_)
  replace h := (Ok_ld h).2 v3 e
  clear e
  refine G_iload_n d_Stays_ofBoat_30 rfl 3 rfl ?_
  refine G_icmp_ge (tgt := 48) d_Stays_ofBoat_31 (by decide) (fun c => ?_) (fun c => ?_)
  · replace h := Ok_t c h
    refine G_iinc d_Stays_ofBoat_48 4 rfl lt_iconst_1 rfl (Nat.le_of_ble_eq_true rfl) (fun x => [(4, .int x), (0, .ref (ad 5)), (1, .int x1), (2, .int x2), (3, .int x3)]) (fun _ => rfl) (fun v4 e => ?_)
    replace h := Ok_bnd h v4 e
    clear e
    refine G_goto (tgt := 3) d_Stays_ofBoat_51 (by decide) ?_
    refine G_lv [1, 2, 3, 4, 0] rfl ?_
    exact hL3 v4 (Ok_some h)
  replace h := Ok_f c h
  refine G_iload_n d_Stays_ofBoat_34 rfl 2 rfl ?_
  refine G_aload_n d_Stays_ofBoat_35 rfl 0 rfl ?_
  refine gx_Stays_to d_Stays_ofBoat_36 w_121 ?_
  refine G_iload d_Stays_ofBoat_39 4 rfl ?_
  refine lx_17 d_Stays_ofBoat_41 (Ok_ld h).1 (fun v5 e => ?_)
  replace h := (Ok_ld h).2 v5 e
  clear e
  refine G_icmp_ge (tgt := 48) d_Stays_ofBoat_42 (by decide) (fun c => ?_) (fun c => ?_)
  · replace h := Ok_t c h
    refine G_iinc d_Stays_ofBoat_48 4 rfl lt_iconst_1 rfl (Nat.le_of_ble_eq_true rfl) (fun x => [(4, .int x), (0, .ref (ad 5)), (1, .int x1), (2, .int x2), (3, .int x3)]) (fun _ => rfl) (fun v6 e => ?_)
    replace h := Ok_bnd h v6 e
    clear e
    refine G_goto (tgt := 3) d_Stays_ofBoat_51 (by decide) ?_
    refine G_lv [1, 2, 3, 4, 0] rfl ?_
    exact hL3 v6 (Ok_some h)
  replace h := Ok_f c h
  replace h := Ok_xit h
  refine G_iload d_Stays_ofBoat_45 4 rfl ?_
  exact G_iret rfl (vp_nar_int _) d_Stays_ofBoat_47 (hR _ (Ok_some h))
noncomputable def f_Stays_ofBoat (a1 a2 a3 : Int32) (s : MS) : Option Int32 :=
  loop (fun z => Stays_ofBoat_l3 a1 a2 a3 s z) (0 : Int32)
theorem f_Stays_ofBoat_w {l : Launch} {D : va_G} {cI cZ cJ : ClassId} {ad : Nat → Nat} (a1 a2 a3 : Int32) (s : MS) {Q : Int32 → MS → Prop} {Post : Int32 → Prop} (hR : ∀ (r9 : Int32), Post (r9) → Q r9 s) (h : Ok (f_Stays_ofBoat a1 a2 a3 s) Post) : G (XX l D cI cZ cJ ad) "SmallHarbour$Stays" b_Stays_ofBoat 5 (some .int) 0 0 [(0, .ref (ad 5)), (1, .int a1), (2, .int a2), (3, .int a3)] [] s Q := by
  unfold f_Stays_ofBoat at h
  refine G_iconst d_Stays_ofBoat_0 lt_iconst_0 ?_
  refine G_istore d_Stays_ofBoat_1 (Nat.le_of_ble_eq_true rfl) (fun x => [(4, .int x), (0, .ref (ad 5)), (1, .int a1), (2, .int a2), (3, .int a3)]) (fun _ => rfl) (fun x e => ?_)
  subst e
  refine G_lv [1, 2, 3, 4, 0] rfl ?_
  exact G_loop (J := (fun z => G (XX l D cI cZ cJ ad) "SmallHarbour$Stays" b_Stays_ofBoat 5 (some .int) 0 3 [(0, .ref (ad 5)), (1, .int a1), (2, .int a2), (3, .int a3), (4, .int z)] [] s Q)) (fun z h => Stays_ofBoat_l3_w a1 a2 a3 z s (Post := Sum.elim (fun z => G (XX l D cI cZ cJ ad) "SmallHarbour$Stays" b_Stays_ofBoat 5 (some .int) 0 3 [(0, .ref (ad 5)), (1, .int a1), (2, .int a2), (3, .int a3), (4, .int z)] [] s Q) _) hR (fun z4 h => h) h) (0 : Int32) h
theorem c_Stays_ofBoat {l : Launch} {D : va_G} {cI cZ cJ : ClassId} {ad : Nat → Nat} (a1 a2 a3 : Int32) (s : MS) {P : Int32 → Prop} (h : Ok (f_Stays_ofBoat a1 a2 a3 s) P) : Ct (XX l D cI cZ cJ ad) y_Stays_ofBoat b_Stays_ofBoat 5 (some .int) 0 [.ref (ad 5), .int a1, .int a2, .int a3] s (fun r9 s9 => s9 = s ∧ P r9) :=
  Ct.of mi_Stays_ofBoat (Nat.le_of_ble_eq_true rfl) (f_Stays_ofBoat_w a1 a2 a3 s (fun _ h => ⟨rfl, h⟩) h)
-- Hb_berthOf
noncomputable def f_Hb_berthOf (a1 a2 : Int32) (s : MS) : Option Int32 :=
  (f_Hb_isDay a2).bind fun v1 => if v1 = 0 then (some (-1 : Int32)) else (chk (inb a1 30) (bnd (s.2 10 a1.toNatClampNeg) fun v2 => if v2 = (-1 : Int32) then ((f_Stays_ofBoat a1 a2 (a2 + (1 : Int32)) s).bind fun v3 => if v3 = (-1 : Int32) then (some (-1 : Int32)) else (chk (inb v3 40) (bnd (s.2 15 v3.toNatClampNeg) fun v4 => some v4))) else ((f_Spans_find a1 a2 s).bind fun v5 => if v5 = (-1 : Int32) then (some v2) else (some (-1 : Int32)))))
theorem f_Hb_berthOf_w {l : Launch} {D : va_G} {cI cZ cJ : ClassId} {ad : Nat → Nat} (a1 a2 : Int32) (s : MS) {Q : Int32 → MS → Prop} {Post : Int32 → Prop} (hR : ∀ (r9 : Int32), Post (r9) → Q r9 s) (h : Ok (f_Hb_berthOf a1 a2 s) Post) : G (XX l D cI cZ cJ ad) "SmallHarbour" b_Hb_berthOf 5 (some .int) 1 0 [(0, .ref (ad 0)), (1, .int a1), (2, .int a2)] [] s Q := by
  unfold f_Hb_berthOf at h
  refine G_iload_n d_Hb_berthOf_0 rfl 2 rfl ?_
  refine G_callSp (st := []) (As := [.int a2]) d_Hb_berthOf_1 mi_Hb_isDay w_473 w_474 rfl (Nat.le_of_ble_eq_true rfl) (by decide) (c_Hb_isDay a2 s (Ok_bind h)) (fun v1 h hnv1 => ?_)
  refine G_if_ne (tgt := 9) d_Hb_berthOf_4 (by decide) (fun c => ?_) (fun c => ?_)
  · replace h := Ok_f c h
    refine G_aload_n d_Hb_berthOf_9 rfl 0 rfl ?_
    refine gx_Hb_boats d_Hb_berthOf_10 w_349 ?_
    refine gx_Boats_home d_Hb_berthOf_13 w_73 ?_
    refine G_iload_n d_Hb_berthOf_16 rfl 1 rfl ?_
    refine lx_10 d_Hb_berthOf_17 (Ok_ld h).1 (fun v2 e => ?_)
    replace h := (Ok_ld h).2 v2 e
    clear e
    refine G_istore_n d_Hb_berthOf_18 rfl (Nat.le_of_ble_eq_true rfl) (fun x => [(3, .int x), (0, .ref (ad 0)), (1, .int a1), (2, .int a2)]) (fun _ => rfl) (fun x e => ?_)
    subst e
    refine G_iload_n d_Hb_berthOf_19 rfl 0 rfl ?_
    refine G_iconst d_Hb_berthOf_20 lt_iconst_m1 ?_
    refine G_icmp_eq (tgt := 43) d_Hb_berthOf_21 (by decide) (fun c => ?_) (fun c => ?_)
    · replace h := Ok_t c h
      refine G_aload_n d_Hb_berthOf_43 rfl 1 rfl ?_
      refine gx_Hb_stays d_Hb_berthOf_44 w_351 ?_
      refine G_iload_n d_Hb_berthOf_47 rfl 2 rfl ?_
      refine G_iload_n d_Hb_berthOf_48 rfl 3 rfl ?_
      refine G_iload_n d_Hb_berthOf_49 rfl 3 rfl ?_
      refine G_iconst d_Hb_berthOf_50 lt_iconst_1 ?_
      refine G_iadd d_Hb_berthOf_51 ?_
      refine G_callVp (st := []) (As := [.int a1, .int a2, .int (a2 + (1 : Int32))]) (b := ad 5) d_Hb_berthOf_52 mi_Stays_ofBoat w_480 5 rfl rfl mv_Stays_ofBoat rfl (Nat.le_of_ble_eq_true rfl) (by decide) (c_Stays_ofBoat a1 a2 (a2 + (1 : Int32)) s (Ok_bind h)) (fun v3 h hnv3 => ?_)
      refine G_istore d_Hb_berthOf_55 (Nat.le_of_ble_eq_true rfl) (fun x => [(4, .int x), (3, .int v2), (0, .ref (ad 0)), (1, .int a1), (2, .int a2)]) (fun _ => rfl) (fun x e => ?_)
      subst e
      refine G_iload d_Hb_berthOf_57 0 rfl ?_
      refine G_iconst d_Hb_berthOf_59 lt_iconst_m1 ?_
      refine G_icmp_ne (tgt := 67) d_Hb_berthOf_60 (by decide) (fun c => ?_) (fun c => ?_)
      · replace h := Ok_f c h
        refine G_aload_n d_Hb_berthOf_67 rfl 2 rfl ?_
        refine gx_Hb_stays d_Hb_berthOf_68 w_351 ?_
        refine gx_Stays_berth d_Hb_berthOf_71 w_118 ?_
        refine G_iload d_Hb_berthOf_74 0 rfl ?_
        refine lx_15 d_Hb_berthOf_76 (Ok_ld h).1 (fun v4 e => ?_)
        replace h := (Ok_ld h).2 v4 e
        clear e
        exact G_iret rfl (vp_nar_int _) d_Hb_berthOf_77 (hR _ (Ok_some h))
      replace h := Ok_t c h
      refine G_iconst d_Hb_berthOf_63 lt_iconst_m1 ?_
      refine G_goto (tgt := 77) d_Hb_berthOf_64 (by decide) ?_
      exact G_iret rfl (vp_nar_int _) d_Hb_berthOf_77 (hR _ (Ok_some h))
    replace h := Ok_f c h
    refine G_aload_n d_Hb_berthOf_24 rfl 1 rfl ?_
    refine gx_Hb_spans d_Hb_berthOf_25 w_350 ?_
    refine G_iload_n d_Hb_berthOf_28 rfl 2 rfl ?_
    refine G_iload_n d_Hb_berthOf_29 rfl 3 rfl ?_
    refine G_callVp (st := []) (As := [.int a1, .int a2]) (b := ad 4) d_Hb_berthOf_30 mi_Spans_find w_476 4 rfl rfl mv_Spans_find rfl (Nat.le_of_ble_eq_true rfl) (by decide) (c_Spans_find a1 a2 s (Ok_bind h)) (fun v5 h hnv5 => ?_)
    refine G_iconst d_Hb_berthOf_33 lt_iconst_m1 ?_
    refine G_icmp_ne (tgt := 41) d_Hb_berthOf_34 (by decide) (fun c => ?_) (fun c => ?_)
    · replace h := Ok_f c h
      refine G_iconst d_Hb_berthOf_41 lt_iconst_m1 ?_
      exact G_iret rfl (vp_nar_int _) d_Hb_berthOf_42 (hR _ (Ok_some h))
    replace h := Ok_t c h
    refine G_iload_n d_Hb_berthOf_37 rfl 0 rfl ?_
    refine G_goto (tgt := 42) d_Hb_berthOf_38 (by decide) ?_
    exact G_iret rfl (vp_nar_int _) d_Hb_berthOf_42 (hR _ (Ok_some h))
  replace h := Ok_t c h
  refine G_iconst d_Hb_berthOf_7 lt_iconst_m1 ?_
  exact G_iret rfl (vp_nar_int _) d_Hb_berthOf_8 (hR _ (Ok_some h))
theorem c_Hb_berthOf {l : Launch} {D : va_G} {cI cZ cJ : ClassId} {ad : Nat → Nat} (a1 a2 : Int32) (s : MS) {P : Int32 → Prop} (h : Ok (f_Hb_berthOf a1 a2 s) P) : Ct (XX l D cI cZ cJ ad) y_Hb_berthOf b_Hb_berthOf 5 (some .int) 1 [.ref (ad 0), .int a1, .int a2] s (fun r9 s9 => s9 = s ∧ P r9) :=
  Ct.of mi_Hb_berthOf (Nat.le_of_ble_eq_true rfl) (f_Hb_berthOf_w a1 a2 s (fun _ h => ⟨rfl, h⟩) h)
-- Rules_inForce
noncomputable def Rules_inForce_l4 (x1 : Int32) (s : MS) (x2 x3 : Int32) : Option ((Int32 × Int32) ⊕ Int32) :=
  if (s.1 28) ≤ x3 then (xit (some x2)) else (chk (inb x3 8) (bnd (s.2 39 x3.toNatClampNeg) fun v1 => if x1 < v1 then (bnd (x3 + (1 : Int32)) fun v2 => some (.inl (x2, v2))) else (if x2 = (-1 : Int32) then (bnd (x3 + (1 : Int32)) fun v3 => some (.inl (x3, v3))) else (chk (inb x3 8) (bnd (s.2 39 x3.toNatClampNeg) fun v4 => chk (inb x2 8) (bnd (s.2 39 x2.toNatClampNeg) fun v5 => if v4 < v5 then (bnd (x3 + (1 : Int32)) fun v6 => some (.inl (x2, v6))) else (bnd (x3 + (1 : Int32)) fun v7 => some (.inl (x3, v7)))))))))
theorem Rules_inForce_l4_w {l : Launch} {D : va_G} {cI cZ cJ : ClassId} {ad : Nat → Nat} (x1 x2 x3 : Int32) (s : MS) {Q : Int32 → MS → Prop} {Post : ((Int32 × Int32) ⊕ Int32) → Prop} (hR : ∀ (r9 : Int32), Post (.inr (r9)) → Q r9 s) (hL4 : ∀ (z2 z3 : Int32) , Post (.inl (z2, z3)) → G (XX l D cI cZ cJ ad) "SmallHarbour$Rules" b_Rules_inForce 4 (some .int) 0 4 [(0, .ref (ad 11)), (1, .int x1), (2, .int z2), (3, .int z3)] [] s Q) (h : Ok (Rules_inForce_l4 x1 s x2 x3) Post) : G (XX l D cI cZ cJ ad) "SmallHarbour$Rules" b_Rules_inForce 4 (some .int) 0 4 [(0, .ref (ad 11)), (1, .int x1), (2, .int x2), (3, .int x3)] [] s Q := by
  unfold Rules_inForce_l4 at h
  refine G_iload_n d_Rules_inForce_4 rfl 3 rfl ?_
  refine G_aload_n d_Rules_inForce_5 rfl 0 rfl ?_
  refine gx_Rules_count d_Rules_inForce_6 w_325 ?_
  refine G_icmp_ge (tgt := 50) d_Rules_inForce_9 (by decide) (fun c => ?_) (fun c => ?_)
  · replace h := Ok_t c h
    replace h := Ok_xit h
    refine G_iload_n d_Rules_inForce_50 rfl 2 rfl ?_
    exact G_iret rfl (vp_nar_int _) d_Rules_inForce_51 (hR _ (Ok_some h))
  replace h := Ok_f c h
  refine G_aload_n d_Rules_inForce_12 rfl 0 rfl ?_
  refine gx_Rules_from d_Rules_inForce_13 w_327 ?_
  refine G_iload_n d_Rules_inForce_16 rfl 3 rfl ?_
  refine lx_39 d_Rules_inForce_17 (Ok_ld h).1 (fun v1 e => ?_)
  replace h := (Ok_ld h).2 v1 e
  clear e
  refine G_iload_n d_Rules_inForce_18 rfl 1 rfl ?_
  refine G_icmp_gt (tgt := 44) d_Rules_inForce_19 (by decide) (fun c => ?_) (fun c => ?_)
  · replace h := Ok_t c h
    refine G_iinc d_Rules_inForce_44 3 rfl lt_iconst_1 rfl (Nat.le_of_ble_eq_true rfl) (fun x => [(3, .int x), (0, .ref (ad 11)), (1, .int x1), (2, .int x2)]) (fun _ => rfl) (fun v2 e => ?_)
    replace h := Ok_bnd h v2 e
    clear e
    refine G_goto (tgt := 4) d_Rules_inForce_47 (by decide) ?_
    refine G_lv [1, 2, 3, 0] rfl ?_
    exact hL4 x2 v2 (Ok_some h)
  replace h := Ok_f c h
  refine G_iload_n d_Rules_inForce_22 rfl 2 rfl ?_
  refine G_iconst d_Rules_inForce_23 lt_iconst_m1 ?_
  refine G_icmp_eq (tgt := 42) d_Rules_inForce_24 (by decide) (fun c => ?_) (fun c => ?_)
  · replace h := Ok_t c h
    refine G_iload_n d_Rules_inForce_42 rfl 3 rfl ?_
    refine G_istore_n d_Rules_inForce_43 rfl (Nat.le_of_ble_eq_true rfl) (fun x => [(2, .int x), (0, .ref (ad 11)), (1, .int x1), (3, .int x3)]) (fun _ => rfl) (fun x e => ?_)
    subst e
    refine G_iinc d_Rules_inForce_44 3 rfl lt_iconst_1 rfl (Nat.le_of_ble_eq_true rfl) (fun x => [(3, .int x), (2, .int x3), (0, .ref (ad 11)), (1, .int x1)]) (fun _ => rfl) (fun v3 e => ?_)
    replace h := Ok_bnd h v3 e
    clear e
    refine G_goto (tgt := 4) d_Rules_inForce_47 (by decide) ?_
    refine G_lv [2, 3, 1, 0] rfl ?_
    exact hL4 x3 v3 (Ok_some h)
  replace h := Ok_f c h
  refine G_aload_n d_Rules_inForce_27 rfl 0 rfl ?_
  refine gx_Rules_from d_Rules_inForce_28 w_327 ?_
  refine G_iload_n d_Rules_inForce_31 rfl 3 rfl ?_
  refine lx_39 d_Rules_inForce_32 (Ok_ld h).1 (fun v4 e => ?_)
  replace h := (Ok_ld h).2 v4 e
  clear e
  refine G_aload_n d_Rules_inForce_33 rfl 0 rfl ?_
  refine gx_Rules_from d_Rules_inForce_34 w_327 ?_
  refine G_iload_n d_Rules_inForce_37 rfl 2 rfl ?_
  refine lx_39 d_Rules_inForce_38 (Ok_ld h).1 (fun v5 e => ?_)
  replace h := (Ok_ld h).2 v5 e
  clear e
  refine G_icmp_lt (tgt := 44) d_Rules_inForce_39 (by decide) (fun c => ?_) (fun c => ?_)
  · replace h := Ok_t c h
    refine G_iinc d_Rules_inForce_44 3 rfl lt_iconst_1 rfl (Nat.le_of_ble_eq_true rfl) (fun x => [(3, .int x), (0, .ref (ad 11)), (1, .int x1), (2, .int x2)]) (fun _ => rfl) (fun v6 e => ?_)
    replace h := Ok_bnd h v6 e
    clear e
    refine G_goto (tgt := 4) d_Rules_inForce_47 (by decide) ?_
    refine G_lv [1, 2, 3, 0] rfl ?_
    exact hL4 x2 v6 (Ok_some h)
  replace h := Ok_f c h
  refine G_iload_n d_Rules_inForce_42 rfl 3 rfl ?_
  refine G_istore_n d_Rules_inForce_43 rfl (Nat.le_of_ble_eq_true rfl) (fun x => [(2, .int x), (0, .ref (ad 11)), (1, .int x1), (3, .int x3)]) (fun _ => rfl) (fun x e => ?_)
  subst e
  refine G_iinc d_Rules_inForce_44 3 rfl lt_iconst_1 rfl (Nat.le_of_ble_eq_true rfl) (fun x => [(3, .int x), (2, .int x3), (0, .ref (ad 11)), (1, .int x1)]) (fun _ => rfl) (fun v7 e => ?_)
  replace h := Ok_bnd h v7 e
  clear e
  refine G_goto (tgt := 4) d_Rules_inForce_47 (by decide) ?_
  refine G_lv [2, 3, 1, 0] rfl ?_
  exact hL4 x3 v7 (Ok_some h)
noncomputable def f_Rules_inForce (a1 : Int32) (s : MS) : Option Int32 :=
  loop (fun z => Rules_inForce_l4 a1 s z.1 z.2) ((-1 : Int32), (0 : Int32))
theorem f_Rules_inForce_w {l : Launch} {D : va_G} {cI cZ cJ : ClassId} {ad : Nat → Nat} (a1 : Int32) (s : MS) {Q : Int32 → MS → Prop} {Post : Int32 → Prop} (hR : ∀ (r9 : Int32), Post (r9) → Q r9 s) (h : Ok (f_Rules_inForce a1 s) Post) : G (XX l D cI cZ cJ ad) "SmallHarbour$Rules" b_Rules_inForce 4 (some .int) 0 0 [(0, .ref (ad 11)), (1, .int a1)] [] s Q := by
  unfold f_Rules_inForce at h
  refine G_iconst d_Rules_inForce_0 lt_iconst_m1 ?_
  refine G_istore_n d_Rules_inForce_1 rfl (Nat.le_of_ble_eq_true rfl) (fun x => [(2, .int x), (0, .ref (ad 11)), (1, .int a1)]) (fun _ => rfl) (fun x e => ?_)
  subst e
  refine G_iconst d_Rules_inForce_2 lt_iconst_0 ?_
  refine G_istore_n d_Rules_inForce_3 rfl (Nat.le_of_ble_eq_true rfl) (fun x => [(3, .int x), (2, .int (-1 : Int32)), (0, .ref (ad 11)), (1, .int a1)]) (fun _ => rfl) (fun x e => ?_)
  subst e
  refine G_lv [2, 3, 1, 0] rfl ?_
  exact G_loop (J := (fun z => G (XX l D cI cZ cJ ad) "SmallHarbour$Rules" b_Rules_inForce 4 (some .int) 0 4 [(0, .ref (ad 11)), (1, .int a1), (2, .int (z.1)), (3, .int (z.2))] [] s Q)) (fun z h => Rules_inForce_l4_w a1 z.1 z.2 s (Post := Sum.elim (fun z => G (XX l D cI cZ cJ ad) "SmallHarbour$Rules" b_Rules_inForce 4 (some .int) 0 4 [(0, .ref (ad 11)), (1, .int a1), (2, .int (z.1)), (3, .int (z.2))] [] s Q) _) hR (fun z2 z3 h => h) h) ((-1 : Int32), (0 : Int32)) h
theorem c_Rules_inForce {l : Launch} {D : va_G} {cI cZ cJ : ClassId} {ad : Nat → Nat} (a1 : Int32) (s : MS) {P : Int32 → Prop} (h : Ok (f_Rules_inForce a1 s) P) : Ct (XX l D cI cZ cJ ad) y_Rules_inForce b_Rules_inForce 4 (some .int) 0 [.ref (ad 11), .int a1] s (fun r9 s9 => s9 = s ∧ P r9) :=
  Ct.of mi_Rules_inForce (Nat.le_of_ble_eq_true rfl) (f_Rules_inForce_w a1 s (fun _ h => ⟨rfl, h⟩) h)
-- Rules_pop
noncomputable def f_Rules_pop (s : MS) : Option (Int32 × MS) :=
  if 0 < (s.1 29) then (bnd (pf s 29 ((s.1 29) - (1 : Int32))) fun s1 => chk (inb (s1.1 29) 60) (bnd (s1.2 42 (s1.1 29).toNatClampNeg) fun v2 => some (v2, s1))) else (some ((0 : Int32), s))
theorem f_Rules_pop_w {l : Launch} {D : va_G} {cI cZ cJ : ClassId} {ad : Nat → Nat} (s : MS) {Q : Int32 → MS → Prop} {Post : (Int32 × MS) → Prop} (hR : ∀ (r9 : Int32) (s9 : MS), Post ((r9, s9)) → Q r9 s9) (h : Ok (f_Rules_pop s) Post) : G (XX l D cI cZ cJ ad) "SmallHarbour$Rules" b_Rules_pop 1 (some .int) 0 0 [(0, .ref (ad 11))] [] s Q := by
  unfold f_Rules_pop at h
  refine G_aload_n d_Rules_pop_0 rfl 0 rfl ?_
  refine gx_Rules_top d_Rules_pop_1 w_331 ?_
  refine G_if_gt (tgt := 9) d_Rules_pop_4 (by decide) (fun c => ?_) (fun c => ?_)
  · replace h := Ok_t c h
    refine G_aload_n d_Rules_pop_9 rfl 0 rfl ?_
    refine G_dup d_Rules_pop_10 rfl ?_
    refine gx_Rules_top d_Rules_pop_11 w_331 ?_
    refine G_iconst d_Rules_pop_14 lt_iconst_1 ?_
    refine G_isub d_Rules_pop_15 ?_
    refine px_Rules_top d_Rules_pop_16 w_331 (fun s1 e => ?_)
    replace h := Ok_bnd h s1 e
    clear e
    refine G_aload_n d_Rules_pop_19 rfl 0 rfl ?_
    refine gx_Rules_stack d_Rules_pop_20 w_330 ?_
    refine G_aload_n d_Rules_pop_23 rfl 0 rfl ?_
    refine gx_Rules_top d_Rules_pop_24 w_331 ?_
    refine lx_42 d_Rules_pop_27 (Ok_ld h).1 (fun v2 e => ?_)
    replace h := (Ok_ld h).2 v2 e
    clear e
    exact G_iret rfl (vp_nar_int _) d_Rules_pop_28 (hR _ _ (Ok_some h))
  replace h := Ok_f c h
  refine G_iconst d_Rules_pop_7 lt_iconst_0 ?_
  exact G_iret rfl (vp_nar_int _) d_Rules_pop_8 (hR _ _ (Ok_some h))
theorem c_Rules_pop {l : Launch} {D : va_G} {cI cZ cJ : ClassId} {ad : Nat → Nat} (s : MS) {P : Int32 → MS → Prop} (h : Ok2 (f_Rules_pop  s) P) : Ct (XX l D cI cZ cJ ad) y_Rules_pop b_Rules_pop 1 (some .int) 0 [.ref (ad 11)] s (P) :=
  Ct.of mi_Rules_pop (Nat.le_of_ble_eq_true rfl) (f_Rules_pop_w  s (Post := fun q => P q.1 q.2) (fun _ _ h => h) (Ok2_ok h))
-- Rules_push
noncomputable def f_Rules_push (a1 : Int32) (s : MS) : Option MS :=
  if (60 : Int32) ≤ (s.1 29) then (some s) else (chk (inb (s.1 29) 60) (bnd (pa s 42 (s.1 29).toNatClampNeg a1) fun s1 => bnd (pf s1 29 ((s1.1 29) + (1 : Int32))) fun s2 => some s2))
theorem f_Rules_push_w {l : Launch} {D : va_G} {cI cZ cJ : ClassId} {ad : Nat → Nat} (a1 : Int32) (s : MS) {Q : Int32 → MS → Prop} {Post : MS → Prop} (hR : ∀ (s9 : MS), Post (s9) → Q 0 s9) (h : Ok (f_Rules_push a1 s) Post) : G (XX l D cI cZ cJ ad) "SmallHarbour$Rules" b_Rules_push 2 none 0 0 [(0, .ref (ad 11)), (1, .int a1)] [] s Q := by
  unfold f_Rules_push at h
  refine G_aload_n d_Rules_push_0 rfl 0 rfl ?_
  refine gx_Rules_top d_Rules_push_1 w_331 ?_
  refine G_bipush d_Rules_push_4 lt_bipush_60 ?_
  refine G_icmp_ge (tgt := 29) d_Rules_push_6 (by decide) (fun c => ?_) (fun c => ?_)
  · replace h := Ok_t c h
    exact G_vret rfl d_Rules_push_29 (hR _ (Ok_some h))
  replace h := Ok_f c h
  refine G_aload_n d_Rules_push_9 rfl 0 rfl ?_
  refine gx_Rules_stack d_Rules_push_10 w_330 ?_
  refine G_aload_n d_Rules_push_13 rfl 0 rfl ?_
  refine gx_Rules_top d_Rules_push_14 w_331 ?_
  refine G_iload_n d_Rules_push_17 rfl 1 rfl ?_
  refine sx_42 d_Rules_push_18 (Ok_ld h).1 (fun s1 e => ?_)
  replace h := (Ok_ld h).2 s1 e
  clear e
  refine G_aload_n d_Rules_push_19 rfl 0 rfl ?_
  refine G_dup d_Rules_push_20 rfl ?_
  refine gx_Rules_top d_Rules_push_21 w_331 ?_
  refine G_iconst d_Rules_push_24 lt_iconst_1 ?_
  refine G_iadd d_Rules_push_25 ?_
  refine px_Rules_top d_Rules_push_26 w_331 (fun s2 e => ?_)
  replace h := Ok_bnd h s2 e
  clear e
  exact G_vret rfl d_Rules_push_29 (hR _ (Ok_some h))
theorem c_Rules_push {l : Launch} {D : va_G} {cI cZ cJ : ClassId} {ad : Nat → Nat} (a1 : Int32) (s : MS) {P : MS → Prop} (h : Ok (f_Rules_push a1 s) P) : Ct (XX l D cI cZ cJ ad) y_Rules_push b_Rules_push 2 none 0 [.ref (ad 11), .int a1] s (fun _ s9 => P s9) :=
  Ct.of mi_Rules_push (Nat.le_of_ble_eq_true rfl) (f_Rules_push_w a1 s (fun _ h => h) h)
-- Rules_join
noncomputable def f_Rules_join (a1 a2 a3 : Int32) : Option Int32 :=
  bnd a1 fun v1 => if v1 = (37 : Int32) then (if a3 = 0 then (some (0 : Int32)) else (chk (decide (¬ a3 = 0)) (some (a2 - a2 / a3 * a3)))) else (if v1 = (42 : Int32) then (some (a2 * a3)) else (if v1 = (43 : Int32) then (some (a2 + a3)) else (if v1 = (45 : Int32) then (some (a2 - a3)) else (if v1 = (47 : Int32) then (if a3 = 0 then (some (0 : Int32)) else (chk (decide (¬ a3 = 0)) (some (a2 / a3)))) else (if v1 = (60 : Int32) then (if a3 ≤ a2 then (some (0 : Int32)) else (some (1 : Int32))) else (if a2 = a3 then (some (1 : Int32)) else (some (0 : Int32))))))))
theorem f_Rules_join_w {l : Launch} {D : va_G} {cI cZ cJ : ClassId} {ad : Nat → Nat} (a1 a2 a3 : Int32) (s : MS) {Q : Int32 → MS → Prop} {Post : Int32 → Prop} (hR : ∀ (r9 : Int32), Post (r9) → Q r9 s) (h : Ok (f_Rules_join a1 a2 a3) Post) : G (XX l D cI cZ cJ ad) "SmallHarbour$Rules" b_Rules_join 3 (some .int) 0 0 [(0, .int a1), (1, .int a2), (2, .int a3)] [] s Q := by
  unfold f_Rules_join at h
  refine G_iload_n d_Rules_join_0 rfl 0 rfl ?_
  refine G_topi (fun v1 e => ?_)
  replace h := Ok_bnd h v1 e
  clear e
  by_cases c0 : v1 = (37 : Int32)
  · replace h := Ok_t c0 h
    refine G_lookup (tgt := 84) d_Rules_join_1 (by decide) (by rw [c0]; decide) (by decide) ?_
    refine G_iload_n d_Rules_join_84 rfl 2 rfl ?_
    refine G_if_ne (tgt := 92) d_Rules_join_85 (by decide) (fun c => ?_) (fun c => ?_)
    · replace h := Ok_f c h
      refine G_iload_n d_Rules_join_92 rfl 1 rfl ?_
      refine G_iload_n d_Rules_join_93 rfl 2 rfl ?_
      refine G_irem d_Rules_join_94 (of_decide_eq_true (Ok_chk h).1) ?_
      replace h := (Ok_chk h).2
      exact G_iret rfl (vp_nar_int _) d_Rules_join_95 (hR _ (Ok_some h))
    replace h := Ok_t c h
    refine G_iconst d_Rules_join_88 lt_iconst_0 ?_
    refine G_goto (tgt := 95) d_Rules_join_89 (by decide) ?_
    exact G_iret rfl (vp_nar_int _) d_Rules_join_95 (hR _ (Ok_some h))
  replace h := Ok_f c0 h
  have n0 := ne_ti (z := 37) (by decide) c0
  by_cases c1 : v1 = (42 : Int32)
  · replace h := Ok_t c1 h
    refine G_lookup (tgt := 68) d_Rules_join_1 (by decide) (by rw [c1]; decide) (by decide) ?_
    refine G_iload_n d_Rules_join_68 rfl 1 rfl ?_
    refine G_iload_n d_Rules_join_69 rfl 2 rfl ?_
    refine G_imul d_Rules_join_70 ?_
    exact G_iret rfl (vp_nar_int _) d_Rules_join_71 (hR _ (Ok_some h))
  replace h := Ok_f c1 h
  have n1 := ne_ti (z := 42) (by decide) c1
  by_cases c2 : v1 = (43 : Int32)
  · replace h := Ok_t c2 h
    refine G_lookup (tgt := 60) d_Rules_join_1 (by decide) (by rw [c2]; decide) (by decide) ?_
    refine G_iload_n d_Rules_join_60 rfl 1 rfl ?_
    refine G_iload_n d_Rules_join_61 rfl 2 rfl ?_
    refine G_iadd d_Rules_join_62 ?_
    exact G_iret rfl (vp_nar_int _) d_Rules_join_63 (hR _ (Ok_some h))
  replace h := Ok_f c2 h
  have n2 := ne_ti (z := 43) (by decide) c2
  by_cases c3 : v1 = (45 : Int32)
  · replace h := Ok_t c3 h
    refine G_lookup (tgt := 64) d_Rules_join_1 (by decide) (by rw [c3]; decide) (by decide) ?_
    refine G_iload_n d_Rules_join_64 rfl 1 rfl ?_
    refine G_iload_n d_Rules_join_65 rfl 2 rfl ?_
    refine G_isub d_Rules_join_66 ?_
    exact G_iret rfl (vp_nar_int _) d_Rules_join_67 (hR _ (Ok_some h))
  replace h := Ok_f c3 h
  have n3 := ne_ti (z := 45) (by decide) c3
  by_cases c4 : v1 = (47 : Int32)
  · replace h := Ok_t c4 h
    refine G_lookup (tgt := 72) d_Rules_join_1 (by decide) (by rw [c4]; decide) (by decide) ?_
    refine G_iload_n d_Rules_join_72 rfl 2 rfl ?_
    refine G_if_ne (tgt := 80) d_Rules_join_73 (by decide) (fun c => ?_) (fun c => ?_)
    · replace h := Ok_f c h
      refine G_iload_n d_Rules_join_80 rfl 1 rfl ?_
      refine G_iload_n d_Rules_join_81 rfl 2 rfl ?_
      refine G_idiv d_Rules_join_82 (of_decide_eq_true (Ok_chk h).1) ?_
      replace h := (Ok_chk h).2
      exact G_iret rfl (vp_nar_int _) d_Rules_join_83 (hR _ (Ok_some h))
    replace h := Ok_t c h
    refine G_iconst d_Rules_join_76 lt_iconst_0 ?_
    refine G_goto (tgt := 83) d_Rules_join_77 (by decide) ?_
    exact G_iret rfl (vp_nar_int _) d_Rules_join_83 (hR _ (Ok_some h))
  replace h := Ok_f c4 h
  have n4 := ne_ti (z := 47) (by decide) c4
  by_cases c5 : v1 = (60 : Int32)
  · replace h := Ok_t c5 h
    refine G_lookup (tgt := 96) d_Rules_join_1 (by decide) (by rw [c5]; decide) (by decide) ?_
    refine G_iload_n d_Rules_join_96 rfl 1 rfl ?_
    refine G_iload_n d_Rules_join_97 rfl 2 rfl ?_
    refine G_icmp_ge (tgt := 105) d_Rules_join_98 (by decide) (fun c => ?_) (fun c => ?_)
    · replace h := Ok_t c h
      refine G_iconst d_Rules_join_105 lt_iconst_0 ?_
      exact G_iret rfl (vp_nar_int _) d_Rules_join_106 (hR _ (Ok_some h))
    replace h := Ok_f c h
    refine G_iconst d_Rules_join_101 lt_iconst_1 ?_
    refine G_goto (tgt := 106) d_Rules_join_102 (by decide) ?_
    exact G_iret rfl (vp_nar_int _) d_Rules_join_106 (hR _ (Ok_some h))
  replace h := Ok_f c5 h
  have n5 := ne_ti (z := 60) (by decide) c5
  refine G_lookup (off := 106) (tgt := 107) d_Rules_join_1 (by decide) (by simp [Op.lookupswitch.offset, n0, n1, n2, n3, n4, n5]) (by decide) ?_
  refine G_iload_n d_Rules_join_107 rfl 1 rfl ?_
  refine G_iload_n d_Rules_join_108 rfl 2 rfl ?_
  refine G_icmp_ne (tgt := 116) d_Rules_join_109 (by decide) (fun c => ?_) (fun c => ?_)
  · replace h := Ok_f c h
    refine G_iconst d_Rules_join_116 lt_iconst_0 ?_
    exact G_iret rfl (vp_nar_int _) d_Rules_join_117 (hR _ (Ok_some h))
  replace h := Ok_t c h
  refine G_iconst d_Rules_join_112 lt_iconst_1 ?_
  refine G_goto (tgt := 117) d_Rules_join_113 (by decide) ?_
  exact G_iret rfl (vp_nar_int _) d_Rules_join_117 (hR _ (Ok_some h))
theorem c_Rules_join {l : Launch} {D : va_G} {cI cZ cJ : ClassId} {ad : Nat → Nat} (a1 a2 a3 : Int32) (s : MS) {P : Int32 → Prop} (h : Ok (f_Rules_join a1 a2 a3) P) : Ct (XX l D cI cZ cJ ad) y_Rules_join b_Rules_join 3 (some .int) 0 [.int a1, .int a2, .int a3] s (fun r9 s9 => s9 = s ∧ P r9) :=
  Ct.of mi_Rules_join (Nat.le_of_ble_eq_true rfl) (f_Rules_join_w a1 a2 a3 s (fun _ h => ⟨rfl, h⟩) h)
-- Rules_workOn
noncomputable def f_Rules_workOn (a1 : Int32) (s : MS) : Option MS :=
  if a1 < 0 then (if a1 = (-126 : Int32) then (bd2 (f_Rules_pop s) fun v15 s16 => (f_Rules_push (-v15) s16).bind fun s17 => some s17) else (if a1 = (-63 : Int32) then (bd2 (f_Rules_pop s) fun v7 s8 => bd2 (f_Rules_pop s8) fun v9 s10 => bd2 (f_Rules_pop s10) fun v11 s12 => if v11 = 0 then ((f_Rules_push v7 s12).bind fun s13 => some s13) else ((f_Rules_push v9 s12).bind fun s14 => some s14)) else (bd2 (f_Rules_pop s) fun v1 s2 => bd2 (f_Rules_pop s2) fun v3 s4 => (f_Rules_join (-a1) v3 v1).bind fun v5 => (f_Rules_push v5 s4).bind fun s6 => some s6))) else ((f_Rules_push a1 s).bind fun s18 => some s18)
theorem f_Rules_workOn_w {l : Launch} {D : va_G} {cI cZ cJ : ClassId} {ad : Nat → Nat} (a1 : Int32) (s : MS) {Q : Int32 → MS → Prop} {Post : MS → Prop} (hR : ∀ (s9 : MS), Post (s9) → Q 0 s9) (h : Ok (f_Rules_workOn a1 s) Post) : G (XX l D cI cZ cJ ad) "SmallHarbour$Rules" b_Rules_workOn 4 none 1 0 [(0, .ref (ad 11)), (1, .int a1)] [] s Q := by
  unfold f_Rules_workOn at h
  refine G_iload_n d_Rules_workOn_0 rfl 1 rfl ?_
  refine G_if_lt (tgt := 12) d_Rules_workOn_1 (by decide) (fun c => ?_) (fun c => ?_)
  · replace h := Ok_t c h
    refine G_iload_n d_Rules_workOn_12 rfl 1 rfl ?_
    refine G_bipush d_Rules_workOn_13 lt_bipush_m126 ?_
    refine G_icmp_ne (tgt := 30) d_Rules_workOn_15 (by decide) (fun c => ?_) (fun c => ?_)
    · replace h := Ok_f c h
      refine G_iload_n d_Rules_workOn_30 rfl 1 rfl ?_
      refine G_bipush d_Rules_workOn_31 lt_bipush_m63 ?_
      refine G_icmp_ne (tgt := 65) d_Rules_workOn_33 (by decide) (fun c => ?_) (fun c => ?_)
      · replace h := Ok_f c h
        refine G_aload_n d_Rules_workOn_65 rfl 0 rfl ?_
        refine G_callVi (st := []) (As := []) (b := ad 11) d_Rules_workOn_66 mi_Rules_pop w_632 11 rfl rfl mv_Rules_pop rfl (Nat.le_of_ble_eq_true rfl) (by decide) (c_Rules_pop  s (Ok_bd2 h)) (fun v1 s2 h hnv1 => ?_)
        refine G_istore_n d_Rules_workOn_69 rfl (Nat.le_of_ble_eq_true rfl) (fun x => [(2, .int x), (0, .ref (ad 11)), (1, .int a1)]) (fun _ => rfl) (fun x e => ?_)
        subst e
        refine G_aload_n d_Rules_workOn_70 rfl 1 rfl ?_
        refine G_iload_n d_Rules_workOn_71 rfl 2 rfl ?_
        refine G_ineg d_Rules_workOn_72 ?_
        refine G_aload_n d_Rules_workOn_73 rfl 1 rfl ?_
        refine G_callVi (st := [.int (-a1), .ref (ad 11)]) (As := []) (b := ad 11) d_Rules_workOn_74 mi_Rules_pop w_632 11 rfl rfl mv_Rules_pop rfl (Nat.le_of_ble_eq_true rfl) (by decide) (c_Rules_pop  s2 (Ok_bd2 h)) (fun v3 s4 h hnv3 => ?_)
        refine G_iload_n d_Rules_workOn_77 rfl 0 rfl ?_
        refine G_callSp (st := [.ref (ad 11)]) (As := [.int (-a1), .int v3, .int v1]) d_Rules_workOn_78 mi_Rules_join w_636 w_637 rfl (Nat.le_of_ble_eq_true rfl) (by decide) (c_Rules_join (-a1) v3 v1 s4 (Ok_bind h)) (fun v5 h hnv5 => ?_)
        refine G_callVv (st := []) (As := [.int v5]) (b := ad 11) d_Rules_workOn_81 mi_Rules_push w_624 11 rfl rfl mv_Rules_push rfl (Nat.le_of_ble_eq_true rfl) (by decide) (c_Rules_push v5 s4 (Ok_bind h)) (fun s6 h => ?_)
        exact G_vret rfl d_Rules_workOn_84 (hR _ (Ok_some h))
      replace h := Ok_t c h
      refine G_aload_n d_Rules_workOn_36 rfl 0 rfl ?_
      refine G_callVi (st := []) (As := []) (b := ad 11) d_Rules_workOn_37 mi_Rules_pop w_632 11 rfl rfl mv_Rules_pop rfl (Nat.le_of_ble_eq_true rfl) (by decide) (c_Rules_pop  s (Ok_bd2 h)) (fun v7 s8 h hnv7 => ?_)
      refine G_istore_n d_Rules_workOn_40 rfl (Nat.le_of_ble_eq_true rfl) (fun x => [(2, .int x), (0, .ref (ad 11)), (1, .int a1)]) (fun _ => rfl) (fun x e => ?_)
      subst e
      refine G_aload_n d_Rules_workOn_41 rfl 1 rfl ?_
      refine G_callVi (st := []) (As := []) (b := ad 11) d_Rules_workOn_42 mi_Rules_pop w_632 11 rfl rfl mv_Rules_pop rfl (Nat.le_of_ble_eq_true rfl) (by decide) (c_Rules_pop  s8 (Ok_bd2 h)) (fun v9 s10 h hnv9 => ?_)
      refine G_istore_n d_Rules_workOn_45 rfl (Nat.le_of_ble_eq_true rfl) (fun x => [(3, .int x), (2, .int v7), (0, .ref (ad 11)), (1, .int a1)]) (fun _ => rfl) (fun x e => ?_)
      subst e
      refine G_aload_n d_Rules_workOn_46 rfl 2 rfl ?_
      refine G_aload_n d_Rules_workOn_47 rfl 2 rfl ?_
      refine G_callVi (st := [.ref (ad 11)]) (As := []) (b := ad 11) d_Rules_workOn_48 mi_Rules_pop w_632 11 rfl rfl mv_Rules_pop rfl (Nat.le_of_ble_eq_true rfl) (by decide) (c_Rules_pop  s10 (Ok_bd2 h)) (fun v11 s12 h hnv11 => ?_)
      refine G_if_eq (tgt := 58) d_Rules_workOn_51 (by decide) (fun c => ?_) (fun c => ?_)
      · replace h := Ok_t c h
        refine G_iload_n d_Rules_workOn_58 rfl 1 rfl ?_
        refine G_callVv (st := []) (As := [.int v7]) (b := ad 11) d_Rules_workOn_59 mi_Rules_push w_624 11 rfl rfl mv_Rules_push rfl (Nat.le_of_ble_eq_true rfl) (by decide) (c_Rules_push v7 s12 (Ok_bind h)) (fun s13 h => ?_)
        refine G_goto (tgt := 84) d_Rules_workOn_62 (by decide) ?_
        exact G_vret rfl d_Rules_workOn_84 (hR _ (Ok_some h))
      replace h := Ok_f c h
      refine G_iload_n d_Rules_workOn_54 rfl 0 rfl ?_
      refine G_goto (tgt := 59) d_Rules_workOn_55 (by decide) ?_
      refine G_callVv (st := []) (As := [.int v9]) (b := ad 11) d_Rules_workOn_59 mi_Rules_push w_624 11 rfl rfl mv_Rules_push rfl (Nat.le_of_ble_eq_true rfl) (by decide) (c_Rules_push v9 s12 (Ok_bind h)) (fun s14 h => ?_)
      refine G_goto (tgt := 84) d_Rules_workOn_62 (by decide) ?_
      exact G_vret rfl d_Rules_workOn_84 (hR _ (Ok_some h))
    replace h := Ok_t c h
    refine G_aload_n d_Rules_workOn_18 rfl 0 rfl ?_
    refine G_aload_n d_Rules_workOn_19 rfl 0 rfl ?_
    refine G_callVi (st := [.ref (ad 11)]) (As := []) (b := ad 11) d_Rules_workOn_20 mi_Rules_pop w_632 11 rfl rfl mv_Rules_pop rfl (Nat.le_of_ble_eq_true rfl) (by decide) (c_Rules_pop  s (Ok_bd2 h)) (fun v15 s16 h hnv15 => ?_)
    refine G_ineg d_Rules_workOn_23 ?_
    refine G_callVv (st := []) (As := [.int (-v15)]) (b := ad 11) d_Rules_workOn_24 mi_Rules_push w_624 11 rfl rfl mv_Rules_push rfl (Nat.le_of_ble_eq_true rfl) (by decide) (c_Rules_push (-v15) s16 (Ok_bind h)) (fun s17 h => ?_)
    refine G_goto (tgt := 84) d_Rules_workOn_27 (by decide) ?_
    exact G_vret rfl d_Rules_workOn_84 (hR _ (Ok_some h))
  replace h := Ok_f c h
  refine G_aload_n d_Rules_workOn_4 rfl 0 rfl ?_
  refine G_iload_n d_Rules_workOn_5 rfl 1 rfl ?_
  refine G_callVv (st := []) (As := [.int a1]) (b := ad 11) d_Rules_workOn_6 mi_Rules_push w_624 11 rfl rfl mv_Rules_push rfl (Nat.le_of_ble_eq_true rfl) (by decide) (c_Rules_push a1 s (Ok_bind h)) (fun s18 h => ?_)
  refine G_goto (tgt := 84) d_Rules_workOn_9 (by decide) ?_
  exact G_vret rfl d_Rules_workOn_84 (hR _ (Ok_some h))
theorem c_Rules_workOn {l : Launch} {D : va_G} {cI cZ cJ : ClassId} {ad : Nat → Nat} (a1 : Int32) (s : MS) {P : MS → Prop} (h : Ok (f_Rules_workOn a1 s) P) : Ct (XX l D cI cZ cJ ad) y_Rules_workOn b_Rules_workOn 4 none 1 [.ref (ad 11), .int a1] s (fun _ s9 => P s9) :=
  Ct.of mi_Rules_workOn (Nat.le_of_ble_eq_true rfl) (f_Rules_workOn_w a1 s (fun _ h => h) h)
-- Rules_reckon
noncomputable def Rules_reckon_l29 (x1 x2 x3 x4 x5 : Int32) (x6 : Int32) (s : MS) : Option ((Int32 × MS) ⊕ (Int32 × MS)) :=
  chk (inb x1 8) (bnd (s.2 40 x1.toNatClampNeg) fun v1 => if (x5 + v1) ≤ x6 then (xit (bd2 (f_Rules_pop s) fun v2 s3 => some (v2, s3))) else (chk (inb x6 480) (bnd (s.2 41 x6.toNatClampNeg) fun v4 => bnd v4 fun v5 => if v5 = (-110 : Int32) then ((f_Rules_push x3 s).bind fun s6 => bnd (x6 + (1 : Int32)) fun v7 => some (.inl (v7, s6))) else (if v5 = (-102 : Int32) then ((f_Rules_push x2 s).bind fun s8 => bnd (x6 + (1 : Int32)) fun v9 => some (.inl (v9, s8))) else (if v5 = (-100 : Int32) then ((f_Rules_push x4 s).bind fun s10 => bnd (x6 + (1 : Int32)) fun v11 => some (.inl (v11, s10))) else ((f_Rules_workOn v4 s).bind fun s12 => bnd (x6 + (1 : Int32)) fun v13 => some (.inl (v13, s12))))))))
theorem Rules_reckon_l29_w {l : Launch} {D : va_G} {cI cZ cJ : ClassId} {ad : Nat → Nat} (x1 x2 x3 x4 x5 x6 : Int32) (s : MS) {Q : Int32 → MS → Prop} {Post : ((Int32 × MS) ⊕ (Int32 × MS)) → Prop} (hR : ∀ (r9 : Int32) (s9 : MS), Post (.inr ((r9, s9))) → Q r9 s9) (hL29 : ∀ (z6 : Int32) (s9 : MS), Post (.inl (z6, s9)) → G (XX l D cI cZ cJ ad) "SmallHarbour$Rules" b_Rules_reckon 8 (some .int) 2 29 [(0, .ref (ad 11)), (1, .int x1), (2, .int x2), (3, .int x3), (4, .int x4), (5, .int x5), (6, .int z6)] [] s9 Q) (h : Ok (Rules_reckon_l29 x1 x2 x3 x4 x5 x6 s) Post) : G (XX l D cI cZ cJ ad) "SmallHarbour$Rules" b_Rules_reckon 8 (some .int) 2 29 [(0, .ref (ad 11)), (1, .int x1), (2, .int x2), (3, .int x3), (4, .int x4), (5, .int x5), (6, .int x6)] [] s Q := by
  unfold Rules_reckon_l29 at h
  refine G_iload d_Rules_reckon_29 6 rfl ?_
  refine G_iload d_Rules_reckon_31 5 rfl ?_
  refine G_aload_n d_Rules_reckon_33 rfl 0 rfl ?_
  refine gx_Rules_sizes d_Rules_reckon_34 w_328 ?_
  refine G_iload_n d_Rules_reckon_37 rfl 1 rfl ?_
  refine lx_40 d_Rules_reckon_38 (Ok_ld h).1 (fun v1 e => ?_)
  replace h := (Ok_ld h).2 v1 e
  clear e
  refine G_iadd d_Rules_reckon_39 ?_
  refine G_icmp_ge (tgt := 125) d_Rules_reckon_40 (by decide) (fun c => ?_) (fun c => ?_)
  · replace h := Ok_t c h
    replace h := Ok_xit h
    refine G_aload_n d_Rules_reckon_125 rfl 0 rfl ?_
    refine G_callVi (st := []) (As := []) (b := ad 11) d_Rules_reckon_126 mi_Rules_pop w_632 11 rfl rfl mv_Rules_pop rfl (Nat.le_of_ble_eq_true rfl) (by decide) (c_Rules_pop  s (Ok_bd2 h)) (fun v2 s3 h hnv2 => ?_)
    exact G_iret rfl (vp_nar_int _) d_Rules_reckon_129 (hR _ _ (Ok_some h))
  replace h := Ok_f c h
  refine G_aload_n d_Rules_reckon_43 rfl 0 rfl ?_
  refine gx_Rules_codes d_Rules_reckon_44 w_329 ?_
  refine G_iload d_Rules_reckon_47 6 rfl ?_
  refine lx_41 d_Rules_reckon_49 (Ok_ld h).1 (fun v4 e => ?_)
  replace h := (Ok_ld h).2 v4 e
  clear e
  refine G_istore d_Rules_reckon_50 (Nat.le_of_ble_eq_true rfl) (fun x => [(7, .int x), (0, .ref (ad 11)), (1, .int x1), (2, .int x2), (3, .int x3), (4, .int x4), (5, .int x5), (6, .int x6)]) (fun _ => rfl) (fun x e => ?_)
  subst e
  refine G_iload d_Rules_reckon_52 0 rfl ?_
  refine G_topi (fun v5 e => ?_)
  replace h := Ok_bnd h v5 e
  clear e
  by_cases c0 : v5 = (-110 : Int32)
  · replace h := Ok_t c0 h
    refine G_lookup (tgt := 96) d_Rules_reckon_54 (by decide) (by rw [c0]; decide) (by decide) ?_
    refine G_aload_n d_Rules_reckon_96 rfl 1 rfl ?_
    refine G_iload_n d_Rules_reckon_97 rfl 4 rfl ?_
    refine G_callVv (st := []) (As := [.int x3]) (b := ad 11) d_Rules_reckon_98 mi_Rules_push w_624 11 rfl rfl mv_Rules_push rfl (Nat.le_of_ble_eq_true rfl) (by decide) (c_Rules_push x3 s (Ok_bind h)) (fun s6 h => ?_)
    refine G_goto (tgt := 119) d_Rules_reckon_101 (by decide) ?_
    refine G_iinc d_Rules_reckon_119 7 rfl lt_iconst_1 rfl (Nat.le_of_ble_eq_true rfl) (fun x => [(6, .int x), (7, .int v4), (0, .ref (ad 11)), (1, .int x1), (2, .int x2), (3, .int x3), (4, .int x4), (5, .int x5)]) (fun _ => rfl) (fun v7 e => ?_)
    replace h := Ok_bnd h v7 e
    clear e
    refine G_goto (tgt := 29) d_Rules_reckon_122 (by decide) ?_
    refine G_lv [2, 3, 4, 5, 6, 7, 0] rfl ?_
    exact hL29 v7 s6 (Ok_some h)
  replace h := Ok_f c0 h
  have n0 := ne_ti (z := -110) (by decide) c0
  by_cases c1 : v5 = (-102 : Int32)
  · replace h := Ok_t c1 h
    refine G_lookup (tgt := 88) d_Rules_reckon_54 (by decide) (by rw [c1]; decide) (by decide) ?_
    refine G_aload_n d_Rules_reckon_88 rfl 1 rfl ?_
    refine G_iload_n d_Rules_reckon_89 rfl 3 rfl ?_
    refine G_callVv (st := []) (As := [.int x2]) (b := ad 11) d_Rules_reckon_90 mi_Rules_push w_624 11 rfl rfl mv_Rules_push rfl (Nat.le_of_ble_eq_true rfl) (by decide) (c_Rules_push x2 s (Ok_bind h)) (fun s8 h => ?_)
    refine G_goto (tgt := 119) d_Rules_reckon_93 (by decide) ?_
    refine G_iinc d_Rules_reckon_119 7 rfl lt_iconst_1 rfl (Nat.le_of_ble_eq_true rfl) (fun x => [(6, .int x), (7, .int v4), (0, .ref (ad 11)), (1, .int x1), (2, .int x2), (3, .int x3), (4, .int x4), (5, .int x5)]) (fun _ => rfl) (fun v9 e => ?_)
    replace h := Ok_bnd h v9 e
    clear e
    refine G_goto (tgt := 29) d_Rules_reckon_122 (by decide) ?_
    refine G_lv [2, 3, 4, 5, 6, 7, 0] rfl ?_
    exact hL29 v9 s8 (Ok_some h)
  replace h := Ok_f c1 h
  have n1 := ne_ti (z := -102) (by decide) c1
  by_cases c2 : v5 = (-100 : Int32)
  · replace h := Ok_t c2 h
    refine G_lookup (tgt := 104) d_Rules_reckon_54 (by decide) (by rw [c2]; decide) (by decide) ?_
    refine G_aload_n d_Rules_reckon_104 rfl 1 rfl ?_
    refine G_iload d_Rules_reckon_105 5 rfl ?_
    refine G_callVv (st := []) (As := [.int x4]) (b := ad 11) d_Rules_reckon_107 mi_Rules_push w_624 11 rfl rfl mv_Rules_push rfl (Nat.le_of_ble_eq_true rfl) (by decide) (c_Rules_push x4 s (Ok_bind h)) (fun s10 h => ?_)
    refine G_goto (tgt := 119) d_Rules_reckon_110 (by decide) ?_
    refine G_iinc d_Rules_reckon_119 7 rfl lt_iconst_1 rfl (Nat.le_of_ble_eq_true rfl) (fun x => [(6, .int x), (7, .int v4), (0, .ref (ad 11)), (1, .int x1), (2, .int x2), (3, .int x3), (4, .int x4), (5, .int x5)]) (fun _ => rfl) (fun v11 e => ?_)
    replace h := Ok_bnd h v11 e
    clear e
    refine G_goto (tgt := 29) d_Rules_reckon_122 (by decide) ?_
    refine G_lv [2, 3, 4, 5, 6, 7, 0] rfl ?_
    exact hL29 v11 s10 (Ok_some h)
  replace h := Ok_f c2 h
  have n2 := ne_ti (z := -100) (by decide) c2
  refine G_lookup (off := 59) (tgt := 113) d_Rules_reckon_54 (by decide) (by simp [Op.lookupswitch.offset, n0, n1, n2]) (by decide) ?_
  refine G_aload_n d_Rules_reckon_113 rfl 1 rfl ?_
  refine G_iload d_Rules_reckon_114 0 rfl ?_
  refine G_callVv (st := []) (As := [.int v4]) (b := ad 11) d_Rules_reckon_116 mi_Rules_workOn w_628 11 rfl rfl mv_Rules_workOn rfl (Nat.le_of_ble_eq_true rfl) (by decide) (c_Rules_workOn v4 s (Ok_bind h)) (fun s12 h => ?_)
  refine G_iinc d_Rules_reckon_119 7 rfl lt_iconst_1 rfl (Nat.le_of_ble_eq_true rfl) (fun x => [(6, .int x), (7, .int v4), (0, .ref (ad 11)), (1, .int x1), (2, .int x2), (3, .int x3), (4, .int x4), (5, .int x5)]) (fun _ => rfl) (fun v13 e => ?_)
  replace h := Ok_bnd h v13 e
  clear e
  refine G_goto (tgt := 29) d_Rules_reckon_122 (by decide) ?_
  refine G_lv [2, 3, 4, 5, 6, 7, 0] rfl ?_
  exact hL29 v13 s12 (Ok_some h)
noncomputable def f_Rules_reckon (a1 a2 a3 a4 : Int32) (s : MS) : Option (Int32 × MS) :=
  if a1 < 0 then (some ((0 : Int32), s)) else (if a1 < (s.1 28) then (bnd (pf s 29 (0 : Int32)) fun s1 => bnd (a1 * (60 : Int32)) fun v2 => loop (fun z => Rules_reckon_l29 a1 a2 a3 a4 v2 z.1 z.2) (v2, s1)) else (some ((0 : Int32), s)))
theorem f_Rules_reckon_w {l : Launch} {D : va_G} {cI cZ cJ : ClassId} {ad : Nat → Nat} (a1 a2 a3 a4 : Int32) (s : MS) {Q : Int32 → MS → Prop} {Post : (Int32 × MS) → Prop} (hR : ∀ (r9 : Int32) (s9 : MS), Post ((r9, s9)) → Q r9 s9) (h : Ok (f_Rules_reckon a1 a2 a3 a4 s) Post) : G (XX l D cI cZ cJ ad) "SmallHarbour$Rules" b_Rules_reckon 8 (some .int) 2 0 [(0, .ref (ad 11)), (1, .int a1), (2, .int a2), (3, .int a3), (4, .int a4)] [] s Q := by
  unfold f_Rules_reckon at h
  refine G_iload_n d_Rules_reckon_0 rfl 1 rfl ?_
  refine G_if_lt (tgt := 12) d_Rules_reckon_1 (by decide) (fun c => ?_) (fun c => ?_)
  · replace h := Ok_t c h
    refine G_iconst d_Rules_reckon_12 lt_iconst_0 ?_
    exact G_iret rfl (vp_nar_int _) d_Rules_reckon_13 (hR _ _ (Ok_some h))
  replace h := Ok_f c h
  refine G_iload_n d_Rules_reckon_4 rfl 1 rfl ?_
  refine G_aload_n d_Rules_reckon_5 rfl 0 rfl ?_
  refine gx_Rules_count d_Rules_reckon_6 w_325 ?_
  refine G_icmp_lt (tgt := 14) d_Rules_reckon_9 (by decide) (fun c => ?_) (fun c => ?_)
  · replace h := Ok_t c h
    refine G_aload_n d_Rules_reckon_14 rfl 0 rfl ?_
    refine G_iconst d_Rules_reckon_15 lt_iconst_0 ?_
    refine px_Rules_top d_Rules_reckon_16 w_331 (fun s1 e => ?_)
    replace h := Ok_bnd h s1 e
    clear e
    refine G_iload_n d_Rules_reckon_19 rfl 1 rfl ?_
    refine G_bipush d_Rules_reckon_20 lt_bipush_60 ?_
    refine G_imul d_Rules_reckon_22 ?_
    refine G_istore d_Rules_reckon_23 (Nat.le_of_ble_eq_true rfl) (fun x => [(5, .int x), (0, .ref (ad 11)), (1, .int a1), (2, .int a2), (3, .int a3), (4, .int a4)]) (fun _ => rfl) (fun v2 e => ?_)
    replace h := Ok_bnd h v2 e
    clear e
    refine G_iload d_Rules_reckon_25 0 rfl ?_
    refine G_istore d_Rules_reckon_27 (Nat.le_of_ble_eq_true rfl) (fun x => [(6, .int x), (5, .int v2), (0, .ref (ad 11)), (1, .int a1), (2, .int a2), (3, .int a3), (4, .int a4)]) (fun _ => rfl) (fun x e => ?_)
    subst e
    refine G_lv [2, 3, 4, 5, 6, 1, 0] rfl ?_
    exact G_loop (J := (fun z => G (XX l D cI cZ cJ ad) "SmallHarbour$Rules" b_Rules_reckon 8 (some .int) 2 29 [(0, .ref (ad 11)), (1, .int a1), (2, .int a2), (3, .int a3), (4, .int a4), (5, .int v2), (6, .int (z.1))] [] z.2 Q)) (fun z h => Rules_reckon_l29_w a1 a2 a3 a4 v2 z.1 z.2 (Post := Sum.elim (fun z => G (XX l D cI cZ cJ ad) "SmallHarbour$Rules" b_Rules_reckon 8 (some .int) 2 29 [(0, .ref (ad 11)), (1, .int a1), (2, .int a2), (3, .int a3), (4, .int a4), (5, .int v2), (6, .int (z.1))] [] z.2 Q) _) hR (fun z6 s9 h => h) h) (v2, s1) h
  replace h := Ok_f c h
  refine G_iconst d_Rules_reckon_12 lt_iconst_0 ?_
  exact G_iret rfl (vp_nar_int _) d_Rules_reckon_13 (hR _ _ (Ok_some h))
theorem c_Rules_reckon {l : Launch} {D : va_G} {cI cZ cJ : ClassId} {ad : Nat → Nat} (a1 a2 a3 a4 : Int32) (s : MS) {P : Int32 → MS → Prop} (h : Ok2 (f_Rules_reckon a1 a2 a3 a4 s) P) : Ct (XX l D cI cZ cJ ad) y_Rules_reckon b_Rules_reckon 8 (some .int) 2 [.ref (ad 11), .int a1, .int a2, .int a3, .int a4] s (P) :=
  Ct.of mi_Rules_reckon (Nat.le_of_ble_eq_true rfl) (f_Rules_reckon_w a1 a2 a3 a4 s (Post := fun q => P q.1 q.2) (fun _ _ h => h) (Ok2_ok h))
-- Hb_billOf
noncomputable def f_Hb_billOf (a1 : Int32) (s : MS) : Option (Int32 × MS) :=
  chk (inb a1 40) (bnd (s.2 16 a1.toNatClampNeg) fun v1 => chk (inb a1 40) (bnd (s.2 17 a1.toNatClampNeg) fun v2 => bnd (v2 - v1) fun v3 => (f_Rules_inForce v1 s).bind fun v4 => chk (inb a1 40) (bnd (s.2 14 a1.toNatClampNeg) fun v5 => chk (inb v5 30) (bnd (s.2 7 v5.toNatClampNeg) fun v6 => bd2 (f_Rules_reckon v4 v6 v3 v1 s) fun v7 s8 => some (v7, s8)))))
theorem f_Hb_billOf_w {l : Launch} {D : va_G} {cI cZ cJ : ClassId} {ad : Nat → Nat} (a1 : Int32) (s : MS) {Q : Int32 → MS → Prop} {Post : (Int32 × MS) → Prop} (hR : ∀ (r9 : Int32) (s9 : MS), Post ((r9, s9)) → Q r9 s9) (h : Ok (f_Hb_billOf a1 s) Post) : G (XX l D cI cZ cJ ad) "SmallHarbour" b_Hb_billOf 4 (some .int) 3 0 [(0, .ref (ad 0)), (1, .int a1)] [] s Q := by
  unfold f_Hb_billOf at h
  refine G_aload_n d_Hb_billOf_0 rfl 0 rfl ?_
  refine gx_Hb_stays d_Hb_billOf_1 w_351 ?_
  refine gx_Stays_from d_Hb_billOf_4 w_120 ?_
  refine G_iload_n d_Hb_billOf_7 rfl 1 rfl ?_
  refine lx_16 d_Hb_billOf_8 (Ok_ld h).1 (fun v1 e => ?_)
  replace h := (Ok_ld h).2 v1 e
  clear e
  refine G_istore_n d_Hb_billOf_9 rfl (Nat.le_of_ble_eq_true rfl) (fun x => [(2, .int x), (0, .ref (ad 0)), (1, .int a1)]) (fun _ => rfl) (fun x e => ?_)
  subst e
  refine G_aload_n d_Hb_billOf_10 rfl 1 rfl ?_
  refine gx_Hb_stays d_Hb_billOf_11 w_351 ?_
  refine gx_Stays_to d_Hb_billOf_14 w_122 ?_
  refine G_iload_n d_Hb_billOf_17 rfl 2 rfl ?_
  refine lx_17 d_Hb_billOf_18 (Ok_ld h).1 (fun v2 e => ?_)
  replace h := (Ok_ld h).2 v2 e
  clear e
  refine G_iload_n d_Hb_billOf_19 rfl 0 rfl ?_
  refine G_isub d_Hb_billOf_20 ?_
  refine G_istore_n d_Hb_billOf_21 rfl (Nat.le_of_ble_eq_true rfl) (fun x => [(3, .int x), (2, .int v1), (0, .ref (ad 0)), (1, .int a1)]) (fun _ => rfl) (fun v3 e => ?_)
  replace h := Ok_bnd h v3 e
  clear e
  refine G_aload_n d_Hb_billOf_22 rfl 2 rfl ?_
  refine gx_Hb_rules d_Hb_billOf_23 w_357 ?_
  refine G_aload_n d_Hb_billOf_26 rfl 2 rfl ?_
  refine gx_Hb_rules d_Hb_billOf_27 w_357 ?_
  refine G_iload_n d_Hb_billOf_30 rfl 1 rfl ?_
  refine G_callVp (st := [.ref (ad 11)]) (As := [.int v1]) (b := ad 11) d_Hb_billOf_31 mi_Rules_inForce w_616 11 rfl rfl mv_Rules_inForce rfl (Nat.le_of_ble_eq_true rfl) (by decide) (c_Rules_inForce v1 s (Ok_bind h)) (fun v4 h hnv4 => ?_)
  refine G_aload_n d_Hb_billOf_34 rfl 2 rfl ?_
  refine gx_Hb_boats d_Hb_billOf_35 w_349 ?_
  refine gx_Boats_length d_Hb_billOf_38 w_67 ?_
  refine G_aload_n d_Hb_billOf_41 rfl 2 rfl ?_
  refine gx_Hb_stays d_Hb_billOf_42 w_351 ?_
  refine gx_Stays_boat d_Hb_billOf_45 w_116 ?_
  refine G_iload_n d_Hb_billOf_48 rfl 3 rfl ?_
  refine lx_14 d_Hb_billOf_49 (Ok_ld h).1 (fun v5 e => ?_)
  replace h := (Ok_ld h).2 v5 e
  clear e
  refine lx_7 d_Hb_billOf_50 (Ok_ld h).1 (fun v6 e => ?_)
  replace h := (Ok_ld h).2 v6 e
  clear e
  refine G_iload_n d_Hb_billOf_51 rfl 0 rfl ?_
  refine G_iload_n d_Hb_billOf_52 rfl 1 rfl ?_
  refine G_callVi (st := []) (As := [.int v4, .int v6, .int v3, .int v1]) (b := ad 11) d_Hb_billOf_53 mi_Rules_reckon w_620 11 rfl rfl mv_Rules_reckon rfl (Nat.le_of_ble_eq_true rfl) (by decide) (c_Rules_reckon v4 v6 v3 v1 s (Ok_bd2 h)) (fun v7 s8 h hnv7 => ?_)
  exact G_iret rfl (vp_nar_int _) d_Hb_billOf_56 (hR _ _ (Ok_some h))
theorem c_Hb_billOf {l : Launch} {D : va_G} {cI cZ cJ : ClassId} {ad : Nat → Nat} (a1 : Int32) (s : MS) {P : Int32 → MS → Prop} (h : Ok2 (f_Hb_billOf a1 s) P) : Ct (XX l D cI cZ cJ ad) y_Hb_billOf b_Hb_billOf 4 (some .int) 3 [.ref (ad 0), .int a1] s (P) :=
  Ct.of mi_Hb_billOf (Nat.le_of_ble_eq_true rfl) (f_Hb_billOf_w a1 s (Post := fun q => P q.1 q.2) (fun _ _ h => h) (Ok2_ok h))
