-- Md_bill
noncomputable def Md_bill_l4 (x1 : Int32) (s : MS) (x2 x3 : Int32) : Option ((Int32 × Int32) ⊕ (Int32 × MS)) :=
  if (s.1 24) ≤ x3 then (xit (if 0 ≤ x2 then (chk (inb x1 40) (bnd (s.2 10 x1.toNatClampNeg) fun v1 => chk (inb v1 30) (bnd (s.2 3 v1.toNatClampNeg) fun v2 => chk (inb x1 40) (bnd (s.2 13 x1.toNatClampNeg) fun v3 => chk (inb x1 40) (bnd (s.2 12 x1.toNatClampNeg) fun v4 => chk (inb x1 40) (bnd (s.2 12 x1.toNatClampNeg) fun v5 => bd2 (f_Md_work x2 v2 (v3 - v4) v5 s) fun v6 s7 => some (v6, s7))))))) else (some ((0 : Int32), s)))) else (chk (inb x3 8) (bnd (s.2 30 x3.toNatClampNeg) fun v8 => chk (inb x1 40) (bnd (s.2 12 x1.toNatClampNeg) fun v9 => if v9 < v8 then (bnd (x3 + (1 : Int32)) fun v10 => some (.inl (x2, v10))) else (if x2 < 0 then (bnd (x3 + (1 : Int32)) fun v11 => some (.inl (x3, v11))) else (chk (inb x3 8) (bnd (s.2 30 x3.toNatClampNeg) fun v12 => chk (inb x2 8) (bnd (s.2 30 x2.toNatClampNeg) fun v13 => if v12 < v13 then (bnd (x3 + (1 : Int32)) fun v14 => some (.inl (x2, v14))) else (bnd (x3 + (1 : Int32)) fun v15 => some (.inl (x3, v15))))))))))
theorem Md_bill_l4_w {l : Launch} {D : va_G} {cI cZ cJ : ClassId} {ad : Nat → Nat} (x1 x2 x3 : Int32) (s : MS) {Q : Int32 → MS → Prop} {Post : ((Int32 × Int32) ⊕ (Int32 × MS)) → Prop} (hR : ∀ (r9 : Int32) (s9 : MS), Post (.inr ((r9, s9))) → Q r9 s9) (hL4 : ∀ (z2 z3 : Int32) , Post (.inl (z2, z3)) → G (XM l D cI cZ cJ ad) "SmallHarbourModel" b_Md_bill 4 (some .int) 2 4 [(0, .ref (ad 0)), (1, .int x1), (2, .int z2), (3, .int z3)] [] s Q) (h : Ok (Md_bill_l4 x1 s x2 x3) Post) : G (XM l D cI cZ cJ ad) "SmallHarbourModel" b_Md_bill 4 (some .int) 2 4 [(0, .ref (ad 0)), (1, .int x1), (2, .int x2), (3, .int x3)] [] s Q := by
  unfold Md_bill_l4 at h
  refine G_iload_n d_Md_bill_4 rfl 3 rfl ?_
  refine G_aload_n d_Md_bill_5 rfl 0 rfl ?_
  refine gm_Md_rules d_Md_bill_6 w_890 ?_
  refine G_icmp_ge (tgt := 54) d_Md_bill_9 (by decide) (fun c => ?_) (fun c => ?_)
  · replace h := Ok_t c h
    replace h := Ok_xit h
    refine G_iload_n d_Md_bill_54 rfl 2 rfl ?_
    refine G_if_ge (tgt := 62) d_Md_bill_55 (by decide) (fun c => ?_) (fun c => ?_)
    · replace h := Ok_t c h
      refine G_aload_n d_Md_bill_62 rfl 0 rfl ?_
      refine G_iload_n d_Md_bill_63 rfl 2 rfl ?_
      refine G_aload_n d_Md_bill_64 rfl 0 rfl ?_
      refine gm_Md_length d_Md_bill_65 w_842 ?_
      refine G_aload_n d_Md_bill_68 rfl 0 rfl ?_
      refine gm_Md_stayBoat d_Md_bill_69 w_851 ?_
      refine G_iload_n d_Md_bill_72 rfl 1 rfl ?_
      refine lm_10 d_Md_bill_73 (Ok_ld h).1 (fun v1 e => ?_)
      replace h := (Ok_ld h).2 v1 e
      clear e
      refine lm_3 d_Md_bill_74 (Ok_ld h).1 (fun v2 e => ?_)
      replace h := (Ok_ld h).2 v2 e
      clear e
      refine G_aload_n d_Md_bill_75 rfl 0 rfl ?_
      refine gm_Md_stayTo d_Md_bill_76 w_854 ?_
      refine G_iload_n d_Md_bill_79 rfl 1 rfl ?_
      refine lm_13 d_Md_bill_80 (Ok_ld h).1 (fun v3 e => ?_)
      replace h := (Ok_ld h).2 v3 e
      clear e
      refine G_aload_n d_Md_bill_81 rfl 0 rfl ?_
      refine gm_Md_stayFrom d_Md_bill_82 w_853 ?_
      refine G_iload_n d_Md_bill_85 rfl 1 rfl ?_
      refine lm_12 d_Md_bill_86 (Ok_ld h).1 (fun v4 e => ?_)
      replace h := (Ok_ld h).2 v4 e
      clear e
      refine G_isub d_Md_bill_87 ?_
      refine G_aload_n d_Md_bill_88 rfl 0 rfl ?_
      refine gm_Md_stayFrom d_Md_bill_89 w_853 ?_
      refine G_iload_n d_Md_bill_92 rfl 1 rfl ?_
      refine lm_12 d_Md_bill_93 (Ok_ld h).1 (fun v5 e => ?_)
      replace h := (Ok_ld h).2 v5 e
      clear e
      refine G_callVi (st := []) (As := [.int x2, .int v2, .int (v3 - v4), .int v5]) (b := ad 0) d_Md_bill_94 mi_Md_work w_1165 0 rfl rfl mv_Md_work rfl (Nat.le_of_ble_eq_true rfl) (by decide) (c_Md_work x2 v2 (v3 - v4) v5 s (Ok_bd2 h)) (fun v6 s7 h hnv6 => ?_)
      replace h := Ok_some h
      exact G_iret rfl (vp_nar_int _) d_Md_bill_97 (hR _ _ h)
    replace h := Ok_f c h
    refine G_iconst d_Md_bill_58 lt_iconst_0 ?_
    refine G_goto (tgt := 97) d_Md_bill_59 (by decide) ?_
    replace h := Ok_some h
    exact G_iret rfl (vp_nar_int _) d_Md_bill_97 (hR _ _ h)
  replace h := Ok_f c h
  refine G_aload_n d_Md_bill_12 rfl 0 rfl ?_
  refine gm_Md_ruleDay d_Md_bill_13 w_891 ?_
  refine G_iload_n d_Md_bill_16 rfl 3 rfl ?_
  refine lm_30 d_Md_bill_17 (Ok_ld h).1 (fun v8 e => ?_)
  replace h := (Ok_ld h).2 v8 e
  clear e
  refine G_aload_n d_Md_bill_18 rfl 0 rfl ?_
  refine gm_Md_stayFrom d_Md_bill_19 w_853 ?_
  refine G_iload_n d_Md_bill_22 rfl 1 rfl ?_
  refine lm_12 d_Md_bill_23 (Ok_ld h).1 (fun v9 e => ?_)
  replace h := (Ok_ld h).2 v9 e
  clear e
  refine G_icmp_gt (tgt := 48) d_Md_bill_24 (by decide) (fun c => ?_) (fun c => ?_)
  · replace h := Ok_t c h
    refine G_iinc d_Md_bill_48 3 rfl lt_iconst_1 rfl (Nat.le_of_ble_eq_true rfl) (fun x => [(3, .int x), (0, .ref (ad 0)), (1, .int x1), (2, .int x2)]) (fun _ => rfl) (fun v10 e => ?_)
    replace h := Ok_bnd h v10 e
    clear e
    refine G_goto (tgt := 4) d_Md_bill_51 (by decide) ?_
    refine G_lv [1, 2, 3, 0] rfl ?_
    replace h := Ok_some h
    exact hL4 x2 v10 h
  replace h := Ok_f c h
  refine G_iload_n d_Md_bill_27 rfl 2 rfl ?_
  refine G_if_lt (tgt := 46) d_Md_bill_28 (by decide) (fun c => ?_) (fun c => ?_)
  · replace h := Ok_t c h
    refine G_iload_n d_Md_bill_46 rfl 3 rfl ?_
    refine G_istore_n d_Md_bill_47 rfl (Nat.le_of_ble_eq_true rfl) (fun x => [(2, .int x), (0, .ref (ad 0)), (1, .int x1), (3, .int x3)]) (fun _ => rfl) (fun x e => ?_)
    subst e
    refine G_iinc d_Md_bill_48 3 rfl lt_iconst_1 rfl (Nat.le_of_ble_eq_true rfl) (fun x => [(3, .int x), (2, .int x3), (0, .ref (ad 0)), (1, .int x1)]) (fun _ => rfl) (fun v11 e => ?_)
    replace h := Ok_bnd h v11 e
    clear e
    refine G_goto (tgt := 4) d_Md_bill_51 (by decide) ?_
    refine G_lv [2, 3, 1, 0] rfl ?_
    replace h := Ok_some h
    exact hL4 x3 v11 h
  replace h := Ok_f c h
  refine G_aload_n d_Md_bill_31 rfl 0 rfl ?_
  refine gm_Md_ruleDay d_Md_bill_32 w_891 ?_
  refine G_iload_n d_Md_bill_35 rfl 3 rfl ?_
  refine lm_30 d_Md_bill_36 (Ok_ld h).1 (fun v12 e => ?_)
  replace h := (Ok_ld h).2 v12 e
  clear e
  refine G_aload_n d_Md_bill_37 rfl 0 rfl ?_
  refine gm_Md_ruleDay d_Md_bill_38 w_891 ?_
  refine G_iload_n d_Md_bill_41 rfl 2 rfl ?_
  refine lm_30 d_Md_bill_42 (Ok_ld h).1 (fun v13 e => ?_)
  replace h := (Ok_ld h).2 v13 e
  clear e
  refine G_icmp_lt (tgt := 48) d_Md_bill_43 (by decide) (fun c => ?_) (fun c => ?_)
  · replace h := Ok_t c h
    refine G_iinc d_Md_bill_48 3 rfl lt_iconst_1 rfl (Nat.le_of_ble_eq_true rfl) (fun x => [(3, .int x), (0, .ref (ad 0)), (1, .int x1), (2, .int x2)]) (fun _ => rfl) (fun v14 e => ?_)
    replace h := Ok_bnd h v14 e
    clear e
    refine G_goto (tgt := 4) d_Md_bill_51 (by decide) ?_
    refine G_lv [1, 2, 3, 0] rfl ?_
    replace h := Ok_some h
    exact hL4 x2 v14 h
  replace h := Ok_f c h
  refine G_iload_n d_Md_bill_46 rfl 3 rfl ?_
  refine G_istore_n d_Md_bill_47 rfl (Nat.le_of_ble_eq_true rfl) (fun x => [(2, .int x), (0, .ref (ad 0)), (1, .int x1), (3, .int x3)]) (fun _ => rfl) (fun x e => ?_)
  subst e
  refine G_iinc d_Md_bill_48 3 rfl lt_iconst_1 rfl (Nat.le_of_ble_eq_true rfl) (fun x => [(3, .int x), (2, .int x3), (0, .ref (ad 0)), (1, .int x1)]) (fun _ => rfl) (fun v15 e => ?_)
  replace h := Ok_bnd h v15 e
  clear e
  refine G_goto (tgt := 4) d_Md_bill_51 (by decide) ?_
  refine G_lv [2, 3, 1, 0] rfl ?_
  replace h := Ok_some h
  exact hL4 x3 v15 h
noncomputable def f_Md_bill (a1 : Int32) (s : MS) : Option (Int32 × MS) :=
  loop (fun z => Md_bill_l4 a1 s z.1 z.2) ((-1 : Int32), (0 : Int32))
theorem f_Md_bill_w {l : Launch} {D : va_G} {cI cZ cJ : ClassId} {ad : Nat → Nat} (a1 : Int32) (s : MS) {Q : Int32 → MS → Prop} {Post : (Int32 × MS) → Prop} (hR : ∀ (r9 : Int32) (s9 : MS), Post ((r9, s9)) → Q r9 s9) (h : Ok (f_Md_bill a1 s) Post) : G (XM l D cI cZ cJ ad) "SmallHarbourModel" b_Md_bill 4 (some .int) 2 0 [(0, .ref (ad 0)), (1, .int a1)] [] s Q := by
  unfold f_Md_bill at h
  refine G_iconst d_Md_bill_0 lt_iconst_m1 ?_
  refine G_istore_n d_Md_bill_1 rfl (Nat.le_of_ble_eq_true rfl) (fun x => [(2, .int x), (0, .ref (ad 0)), (1, .int a1)]) (fun _ => rfl) (fun x e => ?_)
  subst e
  refine G_iconst d_Md_bill_2 lt_iconst_0 ?_
  refine G_istore_n d_Md_bill_3 rfl (Nat.le_of_ble_eq_true rfl) (fun x => [(3, .int x), (2, .int (-1 : Int32)), (0, .ref (ad 0)), (1, .int a1)]) (fun _ => rfl) (fun x e => ?_)
  subst e
  refine G_lv [2, 3, 1, 0] rfl ?_
  refine G_loop (J := (fun z => G (XM l D cI cZ cJ ad) "SmallHarbourModel" b_Md_bill 4 (some .int) 2 4 [(0, .ref (ad 0)), (1, .int a1), (2, .int (z.1)), (3, .int (z.2))] [] s Q)) (fun z h => ?_) ((-1 : Int32), (0 : Int32)) h
  refine Md_bill_l4_w a1 z.1 z.2 s ?_ ?_ h
  · exact hR
  · exact (fun z2 z3 h => h)
theorem c_Md_bill {l : Launch} {D : va_G} {cI cZ cJ : ClassId} {ad : Nat → Nat} (a1 : Int32) (s : MS) {P : Int32 → MS → Prop} (h : Ok2 (f_Md_bill a1 s) P) : Ct (XM l D cI cZ cJ ad) y_Md_bill b_Md_bill 4 (some .int) 2 [.ref (ad 0), .int a1] s (P) :=
  Ct.of mi_Md_bill (Nat.le_of_ble_eq_true rfl) (f_Md_bill_w a1 s (Post := fun q => P q.1 q.2) (fun _ _ h => h) (Ok2_ok h))
-- Md_isFit
noncomputable def f_Md_isFit (a1 a2 a3 a4 : Int32) (s : MS) : Option Int32 :=
  chk (inb a3 10) (bnd (s.2 1 a3.toNatClampNeg) fun v1 => if v1 < a1 then (some (0 : Int32)) else (chk (inb a3 10) (bnd (s.2 2 a3.toNatClampNeg) fun v2 => chk (decide (¬ (s.1 0) = 0)) (chk (inb (a4 - a4 / (s.1 0) * (s.1 0)) 30) (bnd (s.2 0 (a4 - a4 / (s.1 0) * (s.1 0)).toNatClampNeg) fun v3 => if (v2 + v3) < a2 then (some (0 : Int32)) else (some (1 : Int32)))))))
theorem f_Md_isFit_w {l : Launch} {D : va_G} {cI cZ cJ : ClassId} {ad : Nat → Nat} (a1 a2 a3 a4 : Int32) (s : MS) {Q : Int32 → MS → Prop} {Post : Int32 → Prop} (hR : ∀ (r9 : Int32), Post (r9) → Q r9 s) (h : Ok (f_Md_isFit a1 a2 a3 a4 s) Post) : G (XM l D cI cZ cJ ad) "SmallHarbourModel" b_Md_isFit 5 (some .boolean) 0 0 [(0, .ref (ad 0)), (1, .int a1), (2, .int a2), (3, .int a3), (4, .int a4)] [] s Q := by
  unfold f_Md_isFit at h
  refine G_iload_n d_Md_isFit_0 rfl 1 rfl ?_
  refine G_aload_n d_Md_isFit_1 rfl 0 rfl ?_
  refine gm_Md_berthLength d_Md_isFit_2 w_839 ?_
  refine G_iload_n d_Md_isFit_5 rfl 3 rfl ?_
  refine lm_1 d_Md_isFit_6 (Ok_ld h).1 (fun v1 e => ?_)
  replace h := (Ok_ld h).2 v1 e
  clear e
  refine G_icmp_gt (tgt := 37) d_Md_isFit_7 (by decide) (fun c => ?_) (fun c => ?_)
  · replace h := Ok_t c h
    refine G_iconst d_Md_isFit_37 lt_iconst_0 ?_
    replace h := Ok_some h
    exact G_iret rfl rfl d_Md_isFit_38 (hR _ h)
  replace h := Ok_f c h
  refine G_iload_n d_Md_isFit_10 rfl 2 rfl ?_
  refine G_aload_n d_Md_isFit_11 rfl 0 rfl ?_
  refine gm_Md_berthDepth d_Md_isFit_12 w_840 ?_
  refine G_iload_n d_Md_isFit_15 rfl 3 rfl ?_
  refine lm_2 d_Md_isFit_16 (Ok_ld h).1 (fun v2 e => ?_)
  replace h := (Ok_ld h).2 v2 e
  clear e
  refine G_aload_n d_Md_isFit_17 rfl 0 rfl ?_
  refine gm_Md_level d_Md_isFit_18 w_837 ?_
  refine G_iload d_Md_isFit_21 4 rfl ?_
  refine G_aload_n d_Md_isFit_23 rfl 0 rfl ?_
  refine gm_Md_levels d_Md_isFit_24 w_836 ?_
  refine G_irem d_Md_isFit_27 (of_decide_eq_true (Ok_chk h).1) ?_
  replace h := (Ok_chk h).2
  refine lm_0 d_Md_isFit_28 (Ok_ld h).1 (fun v3 e => ?_)
  replace h := (Ok_ld h).2 v3 e
  clear e
  refine G_iadd d_Md_isFit_29 ?_
  refine G_icmp_gt (tgt := 37) d_Md_isFit_30 (by decide) (fun c => ?_) (fun c => ?_)
  · replace h := Ok_t c h
    refine G_iconst d_Md_isFit_37 lt_iconst_0 ?_
    replace h := Ok_some h
    exact G_iret rfl rfl d_Md_isFit_38 (hR _ h)
  replace h := Ok_f c h
  refine G_iconst d_Md_isFit_33 lt_iconst_1 ?_
  refine G_goto (tgt := 38) d_Md_isFit_34 (by decide) ?_
  replace h := Ok_some h
  exact G_iret rfl rfl d_Md_isFit_38 (hR _ h)
theorem c_Md_isFit {l : Launch} {D : va_G} {cI cZ cJ : ClassId} {ad : Nat → Nat} (a1 a2 a3 a4 : Int32) (s : MS) {P : Int32 → Prop} (h : Ok (f_Md_isFit a1 a2 a3 a4 s) P) : Ct (XM l D cI cZ cJ ad) y_Md_isFit b_Md_isFit 5 (some .boolean) 0 [.ref (ad 0), .int a1, .int a2, .int a3, .int a4] s (fun r9 s9 => s9 = s ∧ P r9) :=
  Ct.of mi_Md_isFit (Nat.le_of_ble_eq_true rfl) (f_Md_isFit_w a1 a2 a3 a4 s (fun _ h => ⟨rfl, h⟩) h)
-- Md_canBeHome
noncomputable def Md_canBeHome_l65 (x1 x2 x3 : Int32) (s : MS) (x4 : Int32) : Option ((Int32) ⊕ Int32) :=
  if (400 : Int32) ≤ x4 then (xit (some (1 : Int32))) else ((f_Md_isFit x1 x2 x3 x4 s).bind fun v1 => if v1 = 0 then (xit (some (0 : Int32))) else (bnd (x4 + (1 : Int32)) fun v2 => some (.inl v2)))
theorem Md_canBeHome_l65_w {l : Launch} {D : va_G} {cI cZ cJ : ClassId} {ad : Nat → Nat} (x1 x2 x3 x4 : Int32) (s : MS) {Q : Int32 → MS → Prop} {Post : ((Int32) ⊕ Int32) → Prop} (hR : ∀ (r9 : Int32), Post (.inr (r9)) → Q r9 s) (hL65 : ∀ (z4 : Int32) , Post (.inl z4) → G (XM l D cI cZ cJ ad) "SmallHarbourModel" b_Md_canBeHome 5 (some .boolean) 1 65 [(0, .ref (ad 0)), (1, .int x1), (2, .int x2), (3, .int x3), (4, .int z4)] [] s Q) (h : Ok (Md_canBeHome_l65 x1 x2 x3 s x4) Post) : G (XM l D cI cZ cJ ad) "SmallHarbourModel" b_Md_canBeHome 5 (some .boolean) 1 65 [(0, .ref (ad 0)), (1, .int x1), (2, .int x2), (3, .int x3), (4, .int x4)] [] s Q := by
  unfold Md_canBeHome_l65 at h
  refine G_iload d_Md_canBeHome_65 4 rfl ?_
  refine G_sipush d_Md_canBeHome_67 lt_sipush_400 ?_
  refine G_icmp_ge (tgt := 93) d_Md_canBeHome_70 (by decide) (fun c => ?_) (fun c => ?_)
  · replace h := Ok_t c h
    replace h := Ok_xit h
    refine G_iconst d_Md_canBeHome_93 lt_iconst_1 ?_
    replace h := Ok_some h
    exact G_iret rfl rfl d_Md_canBeHome_94 (hR _ h)
  replace h := Ok_f c h
  refine G_aload_n d_Md_canBeHome_73 rfl 0 rfl ?_
  refine G_iload_n d_Md_canBeHome_74 rfl 1 rfl ?_
  refine G_iload_n d_Md_canBeHome_75 rfl 2 rfl ?_
  refine G_iload_n d_Md_canBeHome_76 rfl 3 rfl ?_
  refine G_iload d_Md_canBeHome_77 4 rfl ?_
  refine G_callVp (st := []) (As := [.int x1, .int x2, .int x3, .int x4]) (b := ad 0) d_Md_canBeHome_79 mi_Md_isFit w_1068 0 rfl rfl mv_Md_isFit rfl (Nat.le_of_ble_eq_true rfl) (by decide) (c_Md_isFit x1 x2 x3 x4 s (Ok_bind h)) (fun v1 h hnv1 => ?_)
  refine G_if_ne (tgt := 87) d_Md_canBeHome_82 (by decide) (fun c => ?_) (fun c => ?_)
  · replace h := Ok_f c h
    refine G_iinc d_Md_canBeHome_87 4 rfl lt_iconst_1 rfl (Nat.le_of_ble_eq_true rfl) (fun x => [(4, .int x), (0, .ref (ad 0)), (1, .int x1), (2, .int x2), (3, .int x3)]) (fun _ => rfl) (fun v2 e => ?_)
    replace h := Ok_bnd h v2 e
    clear e
    refine G_goto (tgt := 65) d_Md_canBeHome_90 (by decide) ?_
    refine G_lv [1, 2, 3, 4, 0] rfl ?_
    replace h := Ok_some h
    exact hL65 v2 h
  replace h := Ok_t c h
  replace h := Ok_xit h
  refine G_iconst d_Md_canBeHome_85 lt_iconst_0 ?_
  replace h := Ok_some h
  exact G_iret rfl rfl d_Md_canBeHome_86 (hR _ h)
noncomputable def Md_canBeHome_l34 (x1 x2 x3 : Int32) (s : MS) (x4 : Int32) : Option ((Int32) ⊕ Int32) :=
  if (s.1 4) ≤ x4 then (xit (loop (fun z => Md_canBeHome_l65 x1 x2 x3 s z) (0 : Int32))) else (chk (inb x4 40) (bnd (s.2 11 x4.toNatClampNeg) fun v1 => if v1 = x3 then (xit (some (0 : Int32))) else (bnd (x4 + (1 : Int32)) fun v2 => some (.inl v2))))
theorem Md_canBeHome_l34_w {l : Launch} {D : va_G} {cI cZ cJ : ClassId} {ad : Nat → Nat} (x1 x2 x3 x4 : Int32) (s : MS) {Q : Int32 → MS → Prop} {Post : ((Int32) ⊕ Int32) → Prop} (hR : ∀ (r9 : Int32), Post (.inr (r9)) → Q r9 s) (hL34 : ∀ (z4 : Int32) , Post (.inl z4) → G (XM l D cI cZ cJ ad) "SmallHarbourModel" b_Md_canBeHome 5 (some .boolean) 1 34 [(0, .ref (ad 0)), (1, .int x1), (2, .int x2), (3, .int x3), (4, .int z4)] [] s Q) (h : Ok (Md_canBeHome_l34 x1 x2 x3 s x4) Post) : G (XM l D cI cZ cJ ad) "SmallHarbourModel" b_Md_canBeHome 5 (some .boolean) 1 34 [(0, .ref (ad 0)), (1, .int x1), (2, .int x2), (3, .int x3), (4, .int x4)] [] s Q := by
  unfold Md_canBeHome_l34 at h
  refine G_iload d_Md_canBeHome_34 4 rfl ?_
  refine G_aload_n d_Md_canBeHome_36 rfl 0 rfl ?_
  refine gm_Md_stays d_Md_canBeHome_37 w_850 ?_
  refine G_icmp_ge (tgt := 62) d_Md_canBeHome_40 (by decide) (fun c => ?_) (fun c => ?_)
  · replace h := Ok_t c h
    replace h := Ok_xit h
    refine G_iconst d_Md_canBeHome_62 lt_iconst_0 ?_
    refine G_istore d_Md_canBeHome_63 (Nat.le_of_ble_eq_true rfl) (fun x => [(4, .int x), (0, .ref (ad 0)), (1, .int x1), (2, .int x2), (3, .int x3)]) (fun _ => rfl) (fun x e => ?_)
    subst e
    refine G_lv [1, 2, 3, 4, 0] rfl ?_
    refine G_loop (J := (fun z => G (XM l D cI cZ cJ ad) "SmallHarbourModel" b_Md_canBeHome 5 (some .boolean) 1 65 [(0, .ref (ad 0)), (1, .int x1), (2, .int x2), (3, .int x3), (4, .int z)] [] s Q)) (fun z h => ?_) (0 : Int32) h
    refine Md_canBeHome_l65_w x1 x2 x3 z s ?_ ?_ h
    · exact hR
    · exact (fun z4 h => h)
  replace h := Ok_f c h
  refine G_aload_n d_Md_canBeHome_43 rfl 0 rfl ?_
  refine gm_Md_stayBerth d_Md_canBeHome_44 w_852 ?_
  refine G_iload d_Md_canBeHome_47 4 rfl ?_
  refine lm_11 d_Md_canBeHome_49 (Ok_ld h).1 (fun v1 e => ?_)
  replace h := (Ok_ld h).2 v1 e
  clear e
  refine G_iload_n d_Md_canBeHome_50 rfl 3 rfl ?_
  refine G_icmp_ne (tgt := 56) d_Md_canBeHome_51 (by decide) (fun c => ?_) (fun c => ?_)
  · replace h := Ok_f c h
    refine G_iinc d_Md_canBeHome_56 4 rfl lt_iconst_1 rfl (Nat.le_of_ble_eq_true rfl) (fun x => [(4, .int x), (0, .ref (ad 0)), (1, .int x1), (2, .int x2), (3, .int x3)]) (fun _ => rfl) (fun v2 e => ?_)
    replace h := Ok_bnd h v2 e
    clear e
    refine G_goto (tgt := 34) d_Md_canBeHome_59 (by decide) ?_
    refine G_lv [1, 2, 3, 4, 0] rfl ?_
    replace h := Ok_some h
    exact hL34 v2 h
  replace h := Ok_t c h
  replace h := Ok_xit h
  refine G_iconst d_Md_canBeHome_54 lt_iconst_0 ?_
  replace h := Ok_some h
  exact G_iret rfl rfl d_Md_canBeHome_55 (hR _ h)
noncomputable def Md_canBeHome_l3 (x1 x2 x3 : Int32) (s : MS) (x4 : Int32) : Option ((Int32) ⊕ Int32) :=
  if (s.1 2) ≤ x4 then (xit (loop (fun z => Md_canBeHome_l34 x1 x2 x3 s z) (0 : Int32))) else (chk (inb x4 30) (bnd (s.2 6 x4.toNatClampNeg) fun v1 => if v1 = x3 then (xit (some (0 : Int32))) else (bnd (x4 + (1 : Int32)) fun v2 => some (.inl v2))))
theorem Md_canBeHome_l3_w {l : Launch} {D : va_G} {cI cZ cJ : ClassId} {ad : Nat → Nat} (x1 x2 x3 x4 : Int32) (s : MS) {Q : Int32 → MS → Prop} {Post : ((Int32) ⊕ Int32) → Prop} (hR : ∀ (r9 : Int32), Post (.inr (r9)) → Q r9 s) (hL3 : ∀ (z4 : Int32) , Post (.inl z4) → G (XM l D cI cZ cJ ad) "SmallHarbourModel" b_Md_canBeHome 5 (some .boolean) 1 3 [(0, .ref (ad 0)), (1, .int x1), (2, .int x2), (3, .int x3), (4, .int z4)] [] s Q) (h : Ok (Md_canBeHome_l3 x1 x2 x3 s x4) Post) : G (XM l D cI cZ cJ ad) "SmallHarbourModel" b_Md_canBeHome 5 (some .boolean) 1 3 [(0, .ref (ad 0)), (1, .int x1), (2, .int x2), (3, .int x3), (4, .int x4)] [] s Q := by
  unfold Md_canBeHome_l3 at h
  refine G_iload d_Md_canBeHome_3 4 rfl ?_
  refine G_aload_n d_Md_canBeHome_5 rfl 0 rfl ?_
  refine gm_Md_boats d_Md_canBeHome_6 w_841 ?_
  refine G_icmp_ge (tgt := 31) d_Md_canBeHome_9 (by decide) (fun c => ?_) (fun c => ?_)
  · replace h := Ok_t c h
    replace h := Ok_xit h
    refine G_iconst d_Md_canBeHome_31 lt_iconst_0 ?_
    refine G_istore d_Md_canBeHome_32 (Nat.le_of_ble_eq_true rfl) (fun x => [(4, .int x), (0, .ref (ad 0)), (1, .int x1), (2, .int x2), (3, .int x3)]) (fun _ => rfl) (fun x e => ?_)
    subst e
    refine G_lv [1, 2, 3, 4, 0] rfl ?_
    refine G_loop (J := (fun z => G (XM l D cI cZ cJ ad) "SmallHarbourModel" b_Md_canBeHome 5 (some .boolean) 1 34 [(0, .ref (ad 0)), (1, .int x1), (2, .int x2), (3, .int x3), (4, .int z)] [] s Q)) (fun z h => ?_) (0 : Int32) h
    refine Md_canBeHome_l34_w x1 x2 x3 z s ?_ ?_ h
    · exact hR
    · exact (fun z4 h => h)
  replace h := Ok_f c h
  refine G_aload_n d_Md_canBeHome_12 rfl 0 rfl ?_
  refine gm_Md_home d_Md_canBeHome_13 w_845 ?_
  refine G_iload d_Md_canBeHome_16 4 rfl ?_
  refine lm_6 d_Md_canBeHome_18 (Ok_ld h).1 (fun v1 e => ?_)
  replace h := (Ok_ld h).2 v1 e
  clear e
  refine G_iload_n d_Md_canBeHome_19 rfl 3 rfl ?_
  refine G_icmp_ne (tgt := 25) d_Md_canBeHome_20 (by decide) (fun c => ?_) (fun c => ?_)
  · replace h := Ok_f c h
    refine G_iinc d_Md_canBeHome_25 4 rfl lt_iconst_1 rfl (Nat.le_of_ble_eq_true rfl) (fun x => [(4, .int x), (0, .ref (ad 0)), (1, .int x1), (2, .int x2), (3, .int x3)]) (fun _ => rfl) (fun v2 e => ?_)
    replace h := Ok_bnd h v2 e
    clear e
    refine G_goto (tgt := 3) d_Md_canBeHome_28 (by decide) ?_
    refine G_lv [1, 2, 3, 4, 0] rfl ?_
    replace h := Ok_some h
    exact hL3 v2 h
  replace h := Ok_t c h
  replace h := Ok_xit h
  refine G_iconst d_Md_canBeHome_23 lt_iconst_0 ?_
  replace h := Ok_some h
  exact G_iret rfl rfl d_Md_canBeHome_24 (hR _ h)
noncomputable def f_Md_canBeHome (a1 a2 a3 : Int32) (s : MS) : Option Int32 :=
  loop (fun z => Md_canBeHome_l3 a1 a2 a3 s z) (0 : Int32)
theorem f_Md_canBeHome_w {l : Launch} {D : va_G} {cI cZ cJ : ClassId} {ad : Nat → Nat} (a1 a2 a3 : Int32) (s : MS) {Q : Int32 → MS → Prop} {Post : Int32 → Prop} (hR : ∀ (r9 : Int32), Post (r9) → Q r9 s) (h : Ok (f_Md_canBeHome a1 a2 a3 s) Post) : G (XM l D cI cZ cJ ad) "SmallHarbourModel" b_Md_canBeHome 5 (some .boolean) 1 0 [(0, .ref (ad 0)), (1, .int a1), (2, .int a2), (3, .int a3)] [] s Q := by
  unfold f_Md_canBeHome at h
  refine G_iconst d_Md_canBeHome_0 lt_iconst_0 ?_
  refine G_istore d_Md_canBeHome_1 (Nat.le_of_ble_eq_true rfl) (fun x => [(4, .int x), (0, .ref (ad 0)), (1, .int a1), (2, .int a2), (3, .int a3)]) (fun _ => rfl) (fun x e => ?_)
  subst e
  refine G_lv [1, 2, 3, 4, 0] rfl ?_
  refine G_loop (J := (fun z => G (XM l D cI cZ cJ ad) "SmallHarbourModel" b_Md_canBeHome 5 (some .boolean) 1 3 [(0, .ref (ad 0)), (1, .int a1), (2, .int a2), (3, .int a3), (4, .int z)] [] s Q)) (fun z h => ?_) (0 : Int32) h
  refine Md_canBeHome_l3_w a1 a2 a3 z s ?_ ?_ h
  · exact hR
  · exact (fun z4 h => h)
theorem c_Md_canBeHome {l : Launch} {D : va_G} {cI cZ cJ : ClassId} {ad : Nat → Nat} (a1 a2 a3 : Int32) (s : MS) {P : Int32 → Prop} (h : Ok (f_Md_canBeHome a1 a2 a3 s) P) : Ct (XM l D cI cZ cJ ad) y_Md_canBeHome b_Md_canBeHome 5 (some .boolean) 1 [.ref (ad 0), .int a1, .int a2, .int a3] s (fun r9 s9 => s9 = s ∧ P r9) :=
  Ct.of mi_Md_canBeHome (Nat.le_of_ble_eq_true rfl) (f_Md_canBeHome_w a1 a2 a3 s (fun _ h => ⟨rfl, h⟩) h)
-- Md_boat
noncomputable def Md_boat_j77 (x1 x2 x3 x4 : Int32) (s : MS) : Option (Int32 × MS) :=
  chk (inb (s.1 2) 30) (bnd (pa s 3 (s.1 2).toNatClampNeg x1) fun s1 => chk (inb (s1.1 2) 30) (bnd (pa s1 4 (s1.1 2).toNatClampNeg x2) fun s2 => chk (inb (s2.1 2) 30) (bnd (pa s2 5 (s2.1 2).toNatClampNeg x3) fun s3 => chk (inb (s3.1 2) 30) (bnd (pa s3 6 (s3.1 2).toNatClampNeg x4) fun s4 => bnd (pf s4 2 ((s4.1 2) + (1 : Int32))) fun s5 => some (((s5.1 2) - (1 : Int32)), s5)))))
theorem Md_boat_j77_w {l : Launch} {D : va_G} {cI cZ cJ : ClassId} {ad : Nat → Nat} (x1 x2 x3 x4 : Int32) (s : MS) {Q : Int32 → MS → Prop} {Post : (Int32 × MS) → Prop} (hR : ∀ (r9 : Int32) (s9 : MS), Post ((r9, s9)) → Q r9 s9) (h : Ok (Md_boat_j77 x1 x2 x3 x4 s) Post) : G (XM l D cI cZ cJ ad) "SmallHarbourModel" b_Md_boat 5 (some .int) 2 77 [(0, .ref (ad 0)), (1, .int x1), (2, .int x2), (3, .int x3), (4, .int x4)] [] s Q := by
  unfold Md_boat_j77 at h
  refine G_aload_n d_Md_boat_77 rfl 0 rfl ?_
  refine gm_Md_length d_Md_boat_78 w_842 ?_
  refine G_aload_n d_Md_boat_81 rfl 0 rfl ?_
  refine gm_Md_boats d_Md_boat_82 w_841 ?_
  refine G_iload_n d_Md_boat_85 rfl 1 rfl ?_
  refine sm_3 d_Md_boat_86 (Ok_ld h).1 (fun s1 e => ?_)
  replace h := (Ok_ld h).2 s1 e
  clear e
  refine G_aload_n d_Md_boat_87 rfl 0 rfl ?_
  refine gm_Md_draught d_Md_boat_88 w_843 ?_
  refine G_aload_n d_Md_boat_91 rfl 0 rfl ?_
  refine gm_Md_boats d_Md_boat_92 w_841 ?_
  refine G_iload_n d_Md_boat_95 rfl 2 rfl ?_
  refine sm_4 d_Md_boat_96 (Ok_ld h).1 (fun s2 e => ?_)
  replace h := (Ok_ld h).2 s2 e
  clear e
  refine G_aload_n d_Md_boat_97 rfl 0 rfl ?_
  refine gm_Md_weight d_Md_boat_98 w_844 ?_
  refine G_aload_n d_Md_boat_101 rfl 0 rfl ?_
  refine gm_Md_boats d_Md_boat_102 w_841 ?_
  refine G_iload_n d_Md_boat_105 rfl 3 rfl ?_
  refine sm_5 d_Md_boat_106 (Ok_ld h).1 (fun s3 e => ?_)
  replace h := (Ok_ld h).2 s3 e
  clear e
  refine G_aload_n d_Md_boat_107 rfl 0 rfl ?_
  refine gm_Md_home d_Md_boat_108 w_845 ?_
  refine G_aload_n d_Md_boat_111 rfl 0 rfl ?_
  refine gm_Md_boats d_Md_boat_112 w_841 ?_
  refine G_iload d_Md_boat_115 4 rfl ?_
  refine sm_6 d_Md_boat_117 (Ok_ld h).1 (fun s4 e => ?_)
  replace h := (Ok_ld h).2 s4 e
  clear e
  refine G_aload_n d_Md_boat_118 rfl 0 rfl ?_
  refine G_dup d_Md_boat_119 rfl ?_
  refine gm_Md_boats d_Md_boat_120 w_841 ?_
  refine G_iconst d_Md_boat_123 lt_iconst_1 ?_
  refine G_iadd d_Md_boat_124 ?_
  refine pm_Md_boats d_Md_boat_125 w_841 (fun s5 e => ?_)
  replace h := Ok_bnd h s5 e
  clear e
  refine G_aload_n d_Md_boat_128 rfl 0 rfl ?_
  refine gm_Md_boats d_Md_boat_129 w_841 ?_
  refine G_iconst d_Md_boat_132 lt_iconst_1 ?_
  refine G_isub d_Md_boat_133 ?_
  replace h := Ok_some h
  exact G_iret rfl (vp_nar_int _) d_Md_boat_134 (hR _ _ h)
noncomputable def f_Md_boat (a1 a2 a3 a4 : Int32) (s : MS) : Option (Int32 × MS) :=
  (f_Md_isIn a1 (10 : Int32) (400 : Int32)).bind fun v1 => if v1 = 0 then (some ((-1 : Int32), s)) else ((f_Md_isIn a2 (0 : Int32) (60 : Int32)).bind fun v2 => if v2 = 0 then (some ((-1 : Int32), s)) else ((f_Md_isIn a3 (1 : Int32) (500 : Int32)).bind fun v3 => if v3 = 0 then (some ((-1 : Int32), s)) else ((f_Md_isIn a4 (-1 : Int32) ((s.1 1) - (1 : Int32))).bind fun v4 => if v4 = 0 then (some ((-1 : Int32), s)) else (if (s.1 2) = (30 : Int32) then (some ((-1 : Int32), s)) else (if a4 < 0 then (Md_boat_j77 a1 a2 a3 a4 s) else ((f_Md_canBeHome a1 a2 a4 s).bind fun v5 => if v5 = 0 then (some ((-1 : Int32), s)) else (Md_boat_j77 a1 a2 a3 a4 s)))))))
theorem f_Md_boat_w {l : Launch} {D : va_G} {cI cZ cJ : ClassId} {ad : Nat → Nat} (a1 a2 a3 a4 : Int32) (s : MS) {Q : Int32 → MS → Prop} {Post : (Int32 × MS) → Prop} (hR : ∀ (r9 : Int32) (s9 : MS), Post ((r9, s9)) → Q r9 s9) (h : Ok (f_Md_boat a1 a2 a3 a4 s) Post) : G (XM l D cI cZ cJ ad) "SmallHarbourModel" b_Md_boat 5 (some .int) 2 0 [(0, .ref (ad 0)), (1, .int a1), (2, .int a2), (3, .int a3), (4, .int a4)] [] s Q := by
  unfold f_Md_boat at h
  refine G_iload_n d_Md_boat_0 rfl 1 rfl ?_
  refine G_bipush d_Md_boat_1 lt_bipush_10 ?_
  refine G_sipush d_Md_boat_3 lt_sipush_400 ?_
  refine G_callSp (st := []) (As := [.int a1, .int (10 : Int32), .int (400 : Int32)]) d_Md_boat_6 mi_Md_isIn w_1045 w_1046 rfl (Nat.le_of_ble_eq_true rfl) (by decide) (c_Md_isIn a1 (10 : Int32) (400 : Int32) s (Ok_bind h)) (fun v1 h hnv1 => ?_)
  refine G_if_eq (tgt := 57) d_Md_boat_9 (by decide) (fun c => ?_) (fun c => ?_)
  · replace h := Ok_t c h
    refine G_iconst d_Md_boat_57 lt_iconst_m1 ?_
    replace h := Ok_some h
    exact G_iret rfl (vp_nar_int _) d_Md_boat_58 (hR _ _ h)
  replace h := Ok_f c h
  refine G_iload_n d_Md_boat_12 rfl 2 rfl ?_
  refine G_iconst d_Md_boat_13 lt_iconst_0 ?_
  refine G_bipush d_Md_boat_14 lt_bipush_60 ?_
  refine G_callSp (st := []) (As := [.int a2, .int (0 : Int32), .int (60 : Int32)]) d_Md_boat_16 mi_Md_isIn w_1045 w_1046 rfl (Nat.le_of_ble_eq_true rfl) (by decide) (c_Md_isIn a2 (0 : Int32) (60 : Int32) s (Ok_bind h)) (fun v2 h hnv2 => ?_)
  refine G_if_eq (tgt := 57) d_Md_boat_19 (by decide) (fun c => ?_) (fun c => ?_)
  · replace h := Ok_t c h
    refine G_iconst d_Md_boat_57 lt_iconst_m1 ?_
    replace h := Ok_some h
    exact G_iret rfl (vp_nar_int _) d_Md_boat_58 (hR _ _ h)
  replace h := Ok_f c h
  refine G_iload_n d_Md_boat_22 rfl 3 rfl ?_
  refine G_iconst d_Md_boat_23 lt_iconst_1 ?_
  refine G_sipush d_Md_boat_24 lt_sipush_500 ?_
  refine G_callSp (st := []) (As := [.int a3, .int (1 : Int32), .int (500 : Int32)]) d_Md_boat_27 mi_Md_isIn w_1045 w_1046 rfl (Nat.le_of_ble_eq_true rfl) (by decide) (c_Md_isIn a3 (1 : Int32) (500 : Int32) s (Ok_bind h)) (fun v3 h hnv3 => ?_)
  refine G_if_eq (tgt := 57) d_Md_boat_30 (by decide) (fun c => ?_) (fun c => ?_)
  · replace h := Ok_t c h
    refine G_iconst d_Md_boat_57 lt_iconst_m1 ?_
    replace h := Ok_some h
    exact G_iret rfl (vp_nar_int _) d_Md_boat_58 (hR _ _ h)
  replace h := Ok_f c h
  refine G_iload d_Md_boat_33 4 rfl ?_
  refine G_iconst d_Md_boat_35 lt_iconst_m1 ?_
  refine G_aload_n d_Md_boat_36 rfl 0 rfl ?_
  refine gm_Md_berths d_Md_boat_37 w_838 ?_
  refine G_iconst d_Md_boat_40 lt_iconst_1 ?_
  refine G_isub d_Md_boat_41 ?_
  refine G_callSp (st := []) (As := [.int a4, .int (-1 : Int32), .int ((s.1 1) - (1 : Int32))]) d_Md_boat_42 mi_Md_isIn w_1045 w_1046 rfl (Nat.le_of_ble_eq_true rfl) (by decide) (c_Md_isIn a4 (-1 : Int32) ((s.1 1) - (1 : Int32)) s (Ok_bind h)) (fun v4 h hnv4 => ?_)
  refine G_if_eq (tgt := 57) d_Md_boat_45 (by decide) (fun c => ?_) (fun c => ?_)
  · replace h := Ok_t c h
    refine G_iconst d_Md_boat_57 lt_iconst_m1 ?_
    replace h := Ok_some h
    exact G_iret rfl (vp_nar_int _) d_Md_boat_58 (hR _ _ h)
  replace h := Ok_f c h
  refine G_aload_n d_Md_boat_48 rfl 0 rfl ?_
  refine gm_Md_boats d_Md_boat_49 w_841 ?_
  refine G_bipush d_Md_boat_52 lt_bipush_30 ?_
  refine G_icmp_ne (tgt := 59) d_Md_boat_54 (by decide) (fun c => ?_) (fun c => ?_)
  · replace h := Ok_f c h
    refine G_iload d_Md_boat_59 4 rfl ?_
    refine G_if_lt (tgt := 77) d_Md_boat_61 (by decide) (fun c => ?_) (fun c => ?_)
    · replace h := Ok_t c h
      refine Md_boat_j77_w a1 a2 a3 a4 s ?_ h
      · exact hR
    replace h := Ok_f c h
    refine G_aload_n d_Md_boat_64 rfl 0 rfl ?_
    refine G_iload_n d_Md_boat_65 rfl 1 rfl ?_
    refine G_iload_n d_Md_boat_66 rfl 2 rfl ?_
    refine G_iload d_Md_boat_67 4 rfl ?_
    refine G_callVp (st := []) (As := [.int a1, .int a2, .int a4]) (b := ad 0) d_Md_boat_69 mi_Md_canBeHome w_1064 0 rfl rfl mv_Md_canBeHome rfl (Nat.le_of_ble_eq_true rfl) (by decide) (c_Md_canBeHome a1 a2 a4 s (Ok_bind h)) (fun v5 h hnv5 => ?_)
    refine G_if_ne (tgt := 77) d_Md_boat_72 (by decide) (fun c => ?_) (fun c => ?_)
    · replace h := Ok_f c h
      refine Md_boat_j77_w a1 a2 a3 a4 s ?_ h
      · exact hR
    replace h := Ok_t c h
    refine G_iconst d_Md_boat_75 lt_iconst_m1 ?_
    replace h := Ok_some h
    exact G_iret rfl (vp_nar_int _) d_Md_boat_76 (hR _ _ h)
  replace h := Ok_t c h
  refine G_iconst d_Md_boat_57 lt_iconst_m1 ?_
  replace h := Ok_some h
  exact G_iret rfl (vp_nar_int _) d_Md_boat_58 (hR _ _ h)
theorem c_Md_boat {l : Launch} {D : va_G} {cI cZ cJ : ClassId} {ad : Nat → Nat} (a1 a2 a3 a4 : Int32) (s : MS) {P : Int32 → MS → Prop} (h : Ok2 (f_Md_boat a1 a2 a3 a4 s) P) : Ct (XM l D cI cZ cJ ad) y_Md_boat b_Md_boat 5 (some .int) 2 [.ref (ad 0), .int a1, .int a2, .int a3, .int a4] s (P) :=
  Ct.of mi_Md_boat (Nat.le_of_ble_eq_true rfl) (f_Md_boat_w a1 a2 a3 a4 s (Post := fun q => P q.1 q.2) (fun _ _ h => h) (Ok2_ok h))
-- Md_boatOf
noncomputable def Md_boatOf_l59 (x1 x3 : Int32) (s : MS) (x4 : Int32) : Option ((Int32) ⊕ Int32) :=
  if (s.1 4) ≤ x4 then (xit (some (-1 : Int32))) else (chk (inb x4 40) (bnd (s.2 10 x4.toNatClampNeg) fun v1 => if v1 = x1 then ((f_Md_isNight x4 x3 s).bind fun v3 => if v3 = 0 then (bnd (x4 + (1 : Int32)) fun v4 => some (.inl v4)) else (xit (chk (inb x4 40) (bnd (s.2 11 x4.toNatClampNeg) fun v5 => some v5)))) else (bnd (x4 + (1 : Int32)) fun v2 => some (.inl v2))))
theorem Md_boatOf_l59_w {l : Launch} {D : va_G} {cI cZ cJ : ClassId} {ad : Nat → Nat} (x1 x3 x4 : Int32) (s : MS) {Q : Int32 → MS → Prop} {Post : ((Int32) ⊕ Int32) → Prop} (hR : ∀ (r9 : Int32), Post (.inr (r9)) → Q r9 s) (hL59 : ∀ (z4 : Int32) , Post (.inl z4) → G (XM l D cI cZ cJ ad) "SmallHarbourModel" b_Md_boatOf 5 (some .int) 2 59 [(0, .ref (ad 0)), (1, .int x1), (3, .int x3), (4, .int z4)] [] s Q) (h : Ok (Md_boatOf_l59 x1 x3 s x4) Post) : G (XM l D cI cZ cJ ad) "SmallHarbourModel" b_Md_boatOf 5 (some .int) 2 59 [(0, .ref (ad 0)), (1, .int x1), (3, .int x3), (4, .int x4)] [] s Q := by
  unfold Md_boatOf_l59 at h
  refine G_iload d_Md_boatOf_59 3 rfl ?_
  refine G_aload_n d_Md_boatOf_61 rfl 0 rfl ?_
  refine gm_Md_stays d_Md_boatOf_62 w_850 ?_
  refine G_icmp_ge (tgt := 103) d_Md_boatOf_65 (by decide) (fun c => ?_) (fun c => ?_)
  · replace h := Ok_t c h
    replace h := Ok_xit h
    refine G_iconst d_Md_boatOf_103 lt_iconst_m1 ?_
    replace h := Ok_some h
    exact G_iret rfl (vp_nar_int _) d_Md_boatOf_104 (hR _ h)
  replace h := Ok_f c h
  refine G_aload_n d_Md_boatOf_68 rfl 0 rfl ?_
  refine gm_Md_stayBoat d_Md_boatOf_69 w_851 ?_
  refine G_iload d_Md_boatOf_72 3 rfl ?_
  refine lm_10 d_Md_boatOf_74 (Ok_ld h).1 (fun v1 e => ?_)
  replace h := (Ok_ld h).2 v1 e
  clear e
  refine G_iload_n d_Md_boatOf_75 rfl 1 rfl ?_
  refine G_icmp_ne (tgt := 97) d_Md_boatOf_76 (by decide) (fun c => ?_) (fun c => ?_)
  · replace h := Ok_f c h
    refine G_iinc d_Md_boatOf_97 3 rfl lt_iconst_1 rfl (Nat.le_of_ble_eq_true rfl) (fun x => [(4, .int x), (0, .ref (ad 0)), (1, .int x1), (3, .int x3)]) (fun _ => rfl) (fun v2 e => ?_)
    replace h := Ok_bnd h v2 e
    clear e
    refine G_goto (tgt := 59) d_Md_boatOf_100 (by decide) ?_
    refine G_lv [1, 2, 3, 0] rfl ?_
    replace h := Ok_some h
    exact hL59 v2 h
  replace h := Ok_t c h
  refine G_aload_n d_Md_boatOf_79 rfl 0 rfl ?_
  refine G_iload d_Md_boatOf_80 3 rfl ?_
  refine G_iload_n d_Md_boatOf_82 rfl 2 rfl ?_
  refine G_callVp (st := []) (As := [.int x4, .int x3]) (b := ad 0) d_Md_boatOf_83 mi_Md_isNight w_1108 0 rfl rfl mv_Md_isNight rfl (Nat.le_of_ble_eq_true rfl) (by decide) (c_Md_isNight x4 x3 s (Ok_bind h)) (fun v3 h hnv3 => ?_)
  refine G_if_eq (tgt := 97) d_Md_boatOf_86 (by decide) (fun c => ?_) (fun c => ?_)
  · replace h := Ok_t c h
    refine G_iinc d_Md_boatOf_97 3 rfl lt_iconst_1 rfl (Nat.le_of_ble_eq_true rfl) (fun x => [(4, .int x), (0, .ref (ad 0)), (1, .int x1), (3, .int x3)]) (fun _ => rfl) (fun v4 e => ?_)
    replace h := Ok_bnd h v4 e
    clear e
    refine G_goto (tgt := 59) d_Md_boatOf_100 (by decide) ?_
    refine G_lv [1, 2, 3, 0] rfl ?_
    replace h := Ok_some h
    exact hL59 v4 h
  replace h := Ok_f c h
  replace h := Ok_xit h
  refine G_aload_n d_Md_boatOf_89 rfl 0 rfl ?_
  refine gm_Md_stayBerth d_Md_boatOf_90 w_852 ?_
  refine G_iload d_Md_boatOf_93 3 rfl ?_
  refine lm_11 d_Md_boatOf_95 (Ok_ld h).1 (fun v5 e => ?_)
  replace h := (Ok_ld h).2 v5 e
  clear e
  replace h := Ok_some h
  exact G_iret rfl (vp_nar_int _) d_Md_boatOf_96 (hR _ h)
noncomputable def f_Md_boatOf (a1 a2 : Int32) (s : MS) : Option Int32 :=
  (f_Md_isBoat a1 s).bind fun v1 => if v1 = 0 then (some (-1 : Int32)) else ((f_Md_isIn a2 (100 : Int32) (499 : Int32)).bind fun v2 => if v2 = 0 then (if a2 = 0 then (chk (inb a1 30) (bnd (s.2 3 a1.toNatClampNeg) fun v6 => some v6)) else (if a2 = (1 : Int32) then (chk (inb a1 30) (bnd (s.2 4 a1.toNatClampNeg) fun v5 => some v5)) else (if a2 = (2 : Int32) then (chk (inb a1 30) (bnd (s.2 5 a1.toNatClampNeg) fun v4 => some v4)) else (if a2 = (3 : Int32) then (chk (inb a1 30) (bnd (s.2 6 a1.toNatClampNeg) fun v3 => some v3)) else (some (-1 : Int32)))))) else (bnd (a2 - (100 : Int32)) fun v7 => chk (inb a1 30) (bnd (s.2 6 a1.toNatClampNeg) fun v8 => if v8 < 0 then (loop (fun z => Md_boatOf_l59 a1 v7 s z) (0 : Int32)) else ((f_Md_isAway a1 v7 s).bind fun v9 => if v9 = 0 then (chk (inb a1 30) (bnd (s.2 6 a1.toNatClampNeg) fun v10 => some v10)) else (some (-1 : Int32))))))
theorem f_Md_boatOf_w {l : Launch} {D : va_G} {cI cZ cJ : ClassId} {ad : Nat → Nat} (a1 a2 : Int32) (s : MS) {Q : Int32 → MS → Prop} {Post : Int32 → Prop} (hR : ∀ (r9 : Int32), Post (r9) → Q r9 s) (h : Ok (f_Md_boatOf a1 a2 s) Post) : G (XM l D cI cZ cJ ad) "SmallHarbourModel" b_Md_boatOf 5 (some .int) 2 0 [(0, .ref (ad 0)), (1, .int a1), (2, .int a2)] [] s Q := by
  unfold f_Md_boatOf at h
  refine G_aload_n d_Md_boatOf_0 rfl 0 rfl ?_
  refine G_iload_n d_Md_boatOf_1 rfl 1 rfl ?_
  refine G_callVp (st := []) (As := [.int a1]) (b := ad 0) d_Md_boatOf_2 mi_Md_isBoat w_1076 0 rfl rfl mv_Md_isBoat rfl (Nat.le_of_ble_eq_true rfl) (by decide) (c_Md_isBoat a1 s (Ok_bind h)) (fun v1 h hnv1 => ?_)
  refine G_if_ne (tgt := 10) d_Md_boatOf_5 (by decide) (fun c => ?_) (fun c => ?_)
  · replace h := Ok_f c h
    refine G_iload_n d_Md_boatOf_10 rfl 2 rfl ?_
    refine G_bipush d_Md_boatOf_11 lt_bipush_100 ?_
    refine G_sipush d_Md_boatOf_13 lt_sipush_499 ?_
    refine G_callSp (st := []) (As := [.int a2, .int (100 : Int32), .int (499 : Int32)]) d_Md_boatOf_16 mi_Md_isIn w_1045 w_1046 rfl (Nat.le_of_ble_eq_true rfl) (by decide) (c_Md_isIn a2 (100 : Int32) (499 : Int32) s (Ok_bind h)) (fun v2 h hnv2 => ?_)
    refine G_if_eq (tgt := 105) d_Md_boatOf_19 (by decide) (fun c => ?_) (fun c => ?_)
    · replace h := Ok_t c h
      refine G_iload_n d_Md_boatOf_105 rfl 2 rfl ?_
      refine G_if_ne (tgt := 118) d_Md_boatOf_106 (by decide) (fun c => ?_) (fun c => ?_)
      · replace h := Ok_f c h
        refine G_iload_n d_Md_boatOf_118 rfl 2 rfl ?_
        refine G_iconst d_Md_boatOf_119 lt_iconst_1 ?_
        refine G_icmp_ne (tgt := 132) d_Md_boatOf_120 (by decide) (fun c => ?_) (fun c => ?_)
        · replace h := Ok_f c h
          refine G_iload_n d_Md_boatOf_132 rfl 2 rfl ?_
          refine G_iconst d_Md_boatOf_133 lt_iconst_2 ?_
          refine G_icmp_ne (tgt := 146) d_Md_boatOf_134 (by decide) (fun c => ?_) (fun c => ?_)
          · replace h := Ok_f c h
            refine G_iload_n d_Md_boatOf_146 rfl 2 rfl ?_
            refine G_iconst d_Md_boatOf_147 lt_iconst_3 ?_
            refine G_icmp_ne (tgt := 160) d_Md_boatOf_148 (by decide) (fun c => ?_) (fun c => ?_)
            · replace h := Ok_f c h
              refine G_iconst d_Md_boatOf_160 lt_iconst_m1 ?_
              replace h := Ok_some h
              exact G_iret rfl (vp_nar_int _) d_Md_boatOf_161 (hR _ h)
            replace h := Ok_t c h
            refine G_aload_n d_Md_boatOf_151 rfl 0 rfl ?_
            refine gm_Md_home d_Md_boatOf_152 w_845 ?_
            refine G_iload_n d_Md_boatOf_155 rfl 1 rfl ?_
            refine lm_6 d_Md_boatOf_156 (Ok_ld h).1 (fun v3 e => ?_)
            replace h := (Ok_ld h).2 v3 e
            clear e
            refine G_goto (tgt := 161) d_Md_boatOf_157 (by decide) ?_
            replace h := Ok_some h
            exact G_iret rfl (vp_nar_int _) d_Md_boatOf_161 (hR _ h)
          replace h := Ok_t c h
          refine G_aload_n d_Md_boatOf_137 rfl 0 rfl ?_
          refine gm_Md_weight d_Md_boatOf_138 w_844 ?_
          refine G_iload_n d_Md_boatOf_141 rfl 1 rfl ?_
          refine lm_5 d_Md_boatOf_142 (Ok_ld h).1 (fun v4 e => ?_)
          replace h := (Ok_ld h).2 v4 e
          clear e
          refine G_goto (tgt := 161) d_Md_boatOf_143 (by decide) ?_
          replace h := Ok_some h
          exact G_iret rfl (vp_nar_int _) d_Md_boatOf_161 (hR _ h)
        replace h := Ok_t c h
        refine G_aload_n d_Md_boatOf_123 rfl 0 rfl ?_
        refine gm_Md_draught d_Md_boatOf_124 w_843 ?_
        refine G_iload_n d_Md_boatOf_127 rfl 1 rfl ?_
        refine lm_4 d_Md_boatOf_128 (Ok_ld h).1 (fun v5 e => ?_)
        replace h := (Ok_ld h).2 v5 e
        clear e
        refine G_goto (tgt := 161) d_Md_boatOf_129 (by decide) ?_
        replace h := Ok_some h
        exact G_iret rfl (vp_nar_int _) d_Md_boatOf_161 (hR _ h)
      replace h := Ok_t c h
      refine G_aload_n d_Md_boatOf_109 rfl 0 rfl ?_
      refine gm_Md_length d_Md_boatOf_110 w_842 ?_
      refine G_iload_n d_Md_boatOf_113 rfl 1 rfl ?_
      refine lm_3 d_Md_boatOf_114 (Ok_ld h).1 (fun v6 e => ?_)
      replace h := (Ok_ld h).2 v6 e
      clear e
      refine G_goto (tgt := 161) d_Md_boatOf_115 (by decide) ?_
      replace h := Ok_some h
      exact G_iret rfl (vp_nar_int _) d_Md_boatOf_161 (hR _ h)
    replace h := Ok_f c h
    refine G_iload_n d_Md_boatOf_22 rfl 2 rfl ?_
    refine G_bipush d_Md_boatOf_23 lt_bipush_100 ?_
    refine G_isub d_Md_boatOf_25 ?_
    refine G_istore_n d_Md_boatOf_26 rfl (Nat.le_of_ble_eq_true rfl) (fun x => [(3, .int x), (0, .ref (ad 0)), (1, .int a1), (2, .int a2)]) (fun _ => rfl) (fun v7 e => ?_)
    replace h := Ok_bnd h v7 e.symm
    clear e
    refine G_aload_n d_Md_boatOf_27 rfl 1 rfl ?_
    refine gm_Md_home d_Md_boatOf_28 w_845 ?_
    refine G_iload_n d_Md_boatOf_31 rfl 2 rfl ?_
    refine lm_6 d_Md_boatOf_32 (Ok_ld h).1 (fun v8 e => ?_)
    replace h := (Ok_ld h).2 v8 e
    clear e
    refine G_if_lt (tgt := 56) d_Md_boatOf_33 (by decide) (fun c => ?_) (fun c => ?_)
    · replace h := Ok_t c h
      refine G_iconst d_Md_boatOf_56 lt_iconst_0 ?_
      refine G_istore d_Md_boatOf_57 (Nat.le_of_ble_eq_true rfl) (fun x => [(4, .int x), (3, .int v7), (0, .ref (ad 0)), (1, .int a1), (2, .int a2)]) (fun _ => rfl) (fun x e => ?_)
      subst e
      refine G_lv [2, 3, 1, 0] rfl ?_
      refine G_loop (J := (fun z => G (XM l D cI cZ cJ ad) "SmallHarbourModel" b_Md_boatOf 5 (some .int) 2 59 [(0, .ref (ad 0)), (1, .int a1), (3, .int v7), (4, .int z)] [] s Q)) (fun z h => ?_) (0 : Int32) h
      refine Md_boatOf_l59_w a1 v7 z s ?_ ?_ h
      · exact hR
      · exact (fun z4 h => h)
    replace h := Ok_f c h
    refine G_aload_n d_Md_boatOf_36 rfl 1 rfl ?_
    refine G_iload_n d_Md_boatOf_37 rfl 2 rfl ?_
    refine G_iload_n d_Md_boatOf_38 rfl 0 rfl ?_
    refine G_callVp (st := []) (As := [.int a1, .int v7]) (b := ad 0) d_Md_boatOf_39 mi_Md_isAway w_1080 0 rfl rfl mv_Md_isAway rfl (Nat.le_of_ble_eq_true rfl) (by decide) (c_Md_isAway a1 v7 s (Ok_bind h)) (fun v9 h hnv9 => ?_)
    refine G_if_eq (tgt := 49) d_Md_boatOf_42 (by decide) (fun c => ?_) (fun c => ?_)
    · replace h := Ok_t c h
      refine G_aload_n d_Md_boatOf_49 rfl 1 rfl ?_
      refine gm_Md_home d_Md_boatOf_50 w_845 ?_
      refine G_iload_n d_Md_boatOf_53 rfl 2 rfl ?_
      refine lm_6 d_Md_boatOf_54 (Ok_ld h).1 (fun v10 e => ?_)
      replace h := (Ok_ld h).2 v10 e
      clear e
      replace h := Ok_some h
      exact G_iret rfl (vp_nar_int _) d_Md_boatOf_55 (hR _ h)
    replace h := Ok_f c h
    refine G_iconst d_Md_boatOf_45 lt_iconst_m1 ?_
    refine G_goto (tgt := 55) d_Md_boatOf_46 (by decide) ?_
    replace h := Ok_some h
    exact G_iret rfl (vp_nar_int _) d_Md_boatOf_55 (hR _ h)
  replace h := Ok_t c h
  refine G_iconst d_Md_boatOf_8 lt_iconst_m1 ?_
  replace h := Ok_some h
  exact G_iret rfl (vp_nar_int _) d_Md_boatOf_9 (hR _ h)
theorem c_Md_boatOf {l : Launch} {D : va_G} {cI cZ cJ : ClassId} {ad : Nat → Nat} (a1 a2 : Int32) (s : MS) {P : Int32 → Prop} (h : Ok (f_Md_boatOf a1 a2 s) P) : Ct (XM l D cI cZ cJ ad) y_Md_boatOf b_Md_boatOf 5 (some .int) 2 [.ref (ad 0), .int a1, .int a2] s (fun r9 s9 => s9 = s ∧ P r9) :=
  Ct.of mi_Md_boatOf (Nat.le_of_ble_eq_true rfl) (f_Md_boatOf_w a1 a2 s (fun _ h => ⟨rfl, h⟩) h)
-- Md_broken
noncomputable def f_Md_broken (a1 a2 : Int32) (s : MS) : Option (Int32 × MS) :=
  (f_Md_isIn a1 (0 : Int32) (399 : Int32)).bind fun v1 => if v1 = 0 then (some ((0 : Int32), s)) else (chk (inb a1 400) (bnd (pa s 20 a1.toNatClampNeg (vp_nar .boolean a2)) fun s2 => some ((1 : Int32), s2)))
theorem f_Md_broken_w {l : Launch} {D : va_G} {cI cZ cJ : ClassId} {ad : Nat → Nat} (a1 a2 : Int32) (s : MS) {Q : Int32 → MS → Prop} {Post : (Int32 × MS) → Prop} (hR : ∀ (r9 : Int32) (s9 : MS), Post ((r9, s9)) → Q r9 s9) (h : Ok (f_Md_broken a1 a2 s) Post) : G (XM l D cI cZ cJ ad) "SmallHarbourModel" b_Md_broken 3 (some .boolean) 1 0 [(0, .ref (ad 0)), (1, .int a1), (2, .int a2)] [] s Q := by
  unfold f_Md_broken at h
  refine G_iload_n d_Md_broken_0 rfl 1 rfl ?_
  refine G_iconst d_Md_broken_1 lt_iconst_0 ?_
  refine G_sipush d_Md_broken_2 lt_sipush_399 ?_
  refine G_callSp (st := []) (As := [.int a1, .int (0 : Int32), .int (399 : Int32)]) d_Md_broken_5 mi_Md_isIn w_1045 w_1046 rfl (Nat.le_of_ble_eq_true rfl) (by decide) (c_Md_isIn a1 (0 : Int32) (399 : Int32) s (Ok_bind h)) (fun v1 h hnv1 => ?_)
  refine G_if_ne (tgt := 13) d_Md_broken_8 (by decide) (fun c => ?_) (fun c => ?_)
  · replace h := Ok_f c h
    refine G_aload_n d_Md_broken_13 rfl 0 rfl ?_
    refine gm_Md_broken d_Md_broken_14 w_871 ?_
    refine G_iload_n d_Md_broken_17 rfl 1 rfl ?_
    refine G_iload_n d_Md_broken_18 rfl 2 rfl ?_
    refine sm_20 d_Md_broken_19 (Ok_ld h).1 (fun s2 e => ?_)
    replace h := (Ok_ld h).2 s2 e
    clear e
    refine G_iconst d_Md_broken_20 lt_iconst_1 ?_
    replace h := Ok_some h
    exact G_iret rfl rfl d_Md_broken_21 (hR _ _ h)
  replace h := Ok_t c h
  refine G_iconst d_Md_broken_11 lt_iconst_0 ?_
  replace h := Ok_some h
  exact G_iret rfl rfl d_Md_broken_12 (hR _ _ h)
theorem c_Md_broken {l : Launch} {D : va_G} {cI cZ cJ : ClassId} {ad : Nat → Nat} (a1 a2 : Int32) (s : MS) {P : Int32 → MS → Prop} (h : Ok2 (f_Md_broken a1 a2 s) P) : Ct (XM l D cI cZ cJ ad) y_Md_broken b_Md_broken 3 (some .boolean) 1 [.ref (ad 0), .int a1, .int a2] s (P) :=
  Ct.of mi_Md_broken (Nat.le_of_ble_eq_true rfl) (f_Md_broken_w a1 a2 s (Post := fun q => P q.1 q.2) (fun _ _ h => h) (Ok2_ok h))
-- Md_end
noncomputable def f_Md_end (a1 : Int32) (s : MS) : Option (Int32 × MS) :=
  (f_Md_isIn a1 (0 : Int32) (s.1 19)).bind fun v1 => if v1 = 0 then (some ((-1 : Int32), s)) else (bnd (pf s 19 a1) fun s2 => some (a1, s2))
theorem f_Md_end_w {l : Launch} {D : va_G} {cI cZ cJ : ClassId} {ad : Nat → Nat} (a1 : Int32) (s : MS) {Q : Int32 → MS → Prop} {Post : (Int32 × MS) → Prop} (hR : ∀ (r9 : Int32) (s9 : MS), Post ((r9, s9)) → Q r9 s9) (h : Ok (f_Md_end a1 s) Post) : G (XM l D cI cZ cJ ad) "SmallHarbourModel" b_Md_end 2 (some .int) 1 0 [(0, .ref (ad 0)), (1, .int a1)] [] s Q := by
  unfold f_Md_end at h
  refine G_iload_n d_Md_end_0 rfl 1 rfl ?_
  refine G_iconst d_Md_end_1 lt_iconst_0 ?_
  refine G_aload_n d_Md_end_2 rfl 0 rfl ?_
  refine gm_Md_taped d_Md_end_3 w_885 ?_
  refine G_callSp (st := []) (As := [.int a1, .int (0 : Int32), .int (s.1 19)]) d_Md_end_6 mi_Md_isIn w_1045 w_1046 rfl (Nat.le_of_ble_eq_true rfl) (by decide) (c_Md_isIn a1 (0 : Int32) (s.1 19) s (Ok_bind h)) (fun v1 h hnv1 => ?_)
  refine G_if_ne (tgt := 14) d_Md_end_9 (by decide) (fun c => ?_) (fun c => ?_)
  · replace h := Ok_f c h
    refine G_aload_n d_Md_end_14 rfl 0 rfl ?_
    refine G_iload_n d_Md_end_15 rfl 1 rfl ?_
    refine pm_Md_taped d_Md_end_16 w_885 (fun s2 e => ?_)
    replace h := Ok_bnd h s2 e
    clear e
    refine G_iload_n d_Md_end_19 rfl 1 rfl ?_
    replace h := Ok_some h
    exact G_iret rfl (vp_nar_int _) d_Md_end_20 (hR _ _ h)
  replace h := Ok_t c h
  refine G_iconst d_Md_end_12 lt_iconst_m1 ?_
  replace h := Ok_some h
  exact G_iret rfl (vp_nar_int _) d_Md_end_13 (hR _ _ h)
theorem c_Md_end {l : Launch} {D : va_G} {cI cZ cJ : ClassId} {ad : Nat → Nat} (a1 : Int32) (s : MS) {P : Int32 → MS → Prop} (h : Ok2 (f_Md_end a1 s) P) : Ct (XM l D cI cZ cJ ad) y_Md_end b_Md_end 2 (some .int) 1 [.ref (ad 0), .int a1] s (P) :=
  Ct.of mi_Md_end (Nat.le_of_ble_eq_true rfl) (f_Md_end_w a1 s (Post := fun q => P q.1 q.2) (fun _ _ h => h) (Ok2_ok h))
-- Md_endSpan
noncomputable def Md_endSpan_l20 (x3 : Int32) (s : MS) : Option ((Int32 × MS) ⊕ MS) :=
  if ((s.1 3) - (1 : Int32)) ≤ x3 then (xit (bnd (pf s 3 ((s.1 3) - (1 : Int32))) fun s1 => some s1)) else (chk (inb (x3 + (1 : Int32)) 60) (bnd (s.2 7 (x3 + (1 : Int32)).toNatClampNeg) fun v2 => chk (inb x3 60) (bnd (pa s 7 x3.toNatClampNeg v2) fun s3 => chk (inb (x3 + (1 : Int32)) 60) (bnd (s3.2 8 (x3 + (1 : Int32)).toNatClampNeg) fun v4 => chk (inb x3 60) (bnd (pa s3 8 x3.toNatClampNeg v4) fun s5 => chk (inb (x3 + (1 : Int32)) 60) (bnd (s5.2 9 (x3 + (1 : Int32)).toNatClampNeg) fun v6 => chk (inb x3 60) (bnd (pa s5 9 x3.toNatClampNeg v6) fun s7 => bnd (x3 + (1 : Int32)) fun v8 => some (.inl (v8, s7)))))))))
theorem Md_endSpan_l20_w {l : Launch} {D : va_G} {cI cZ cJ : ClassId} {ad : Nat → Nat} (x3 : Int32) (s : MS) {Q : Int32 → MS → Prop} {Post : ((Int32 × MS) ⊕ MS) → Prop} (hR : ∀ (s9 : MS), Post (.inr (s9)) → Q 0 s9) (hL20 : ∀ (z3 : Int32) (s9 : MS), Post (.inl (z3, s9)) → G (XM l D cI cZ cJ ad) "SmallHarbourModel" b_Md_endSpan 4 none 0 20 [(0, .ref (ad 0)), (3, .int z3)] [] s9 Q) (h : Ok (Md_endSpan_l20 x3 s) Post) : G (XM l D cI cZ cJ ad) "SmallHarbourModel" b_Md_endSpan 4 none 0 20 [(0, .ref (ad 0)), (3, .int x3)] [] s Q := by
  unfold Md_endSpan_l20 at h
  refine G_iload_n d_Md_endSpan_20 rfl 1 rfl ?_
  refine G_aload_n d_Md_endSpan_21 rfl 0 rfl ?_
  refine gm_Md_spans d_Md_endSpan_22 w_846 ?_
  refine G_iconst d_Md_endSpan_25 lt_iconst_1 ?_
  refine G_isub d_Md_endSpan_26 ?_
  refine G_icmp_ge (tgt := 78) d_Md_endSpan_27 (by decide) (fun c => ?_) (fun c => ?_)
  · replace h := Ok_t c h
    replace h := Ok_xit h
    refine G_aload_n d_Md_endSpan_78 rfl 0 rfl ?_
    refine G_dup d_Md_endSpan_79 rfl ?_
    refine gm_Md_spans d_Md_endSpan_80 w_846 ?_
    refine G_iconst d_Md_endSpan_83 lt_iconst_1 ?_
    refine G_isub d_Md_endSpan_84 ?_
    refine pm_Md_spans d_Md_endSpan_85 w_846 (fun s1 e => ?_)
    replace h := Ok_bnd h s1 e
    clear e
    replace h := Ok_some h
    exact G_vret rfl d_Md_endSpan_88 (hR _ h)
  replace h := Ok_f c h
  refine G_aload_n d_Md_endSpan_30 rfl 0 rfl ?_
  refine gm_Md_spanBoat d_Md_endSpan_31 w_847 ?_
  refine G_iload_n d_Md_endSpan_34 rfl 1 rfl ?_
  refine G_aload_n d_Md_endSpan_35 rfl 0 rfl ?_
  refine gm_Md_spanBoat d_Md_endSpan_36 w_847 ?_
  refine G_iload_n d_Md_endSpan_39 rfl 1 rfl ?_
  refine G_iconst d_Md_endSpan_40 lt_iconst_1 ?_
  refine G_iadd d_Md_endSpan_41 ?_
  refine lm_7 d_Md_endSpan_42 (Ok_ld h).1 (fun v2 e => ?_)
  replace h := (Ok_ld h).2 v2 e
  clear e
  refine sm_7 d_Md_endSpan_43 (Ok_ld h).1 (fun s3 e => ?_)
  replace h := (Ok_ld h).2 s3 e
  clear e
  refine G_aload_n d_Md_endSpan_44 rfl 0 rfl ?_
  refine gm_Md_spanFrom d_Md_endSpan_45 w_848 ?_
  refine G_iload_n d_Md_endSpan_48 rfl 1 rfl ?_
  refine G_aload_n d_Md_endSpan_49 rfl 0 rfl ?_
  refine gm_Md_spanFrom d_Md_endSpan_50 w_848 ?_
  refine G_iload_n d_Md_endSpan_53 rfl 1 rfl ?_
  refine G_iconst d_Md_endSpan_54 lt_iconst_1 ?_
  refine G_iadd d_Md_endSpan_55 ?_
  refine lm_8 d_Md_endSpan_56 (Ok_ld h).1 (fun v4 e => ?_)
  replace h := (Ok_ld h).2 v4 e
  clear e
  refine sm_8 d_Md_endSpan_57 (Ok_ld h).1 (fun s5 e => ?_)
  replace h := (Ok_ld h).2 s5 e
  clear e
  refine G_aload_n d_Md_endSpan_58 rfl 0 rfl ?_
  refine gm_Md_spanTo d_Md_endSpan_59 w_849 ?_
  refine G_iload_n d_Md_endSpan_62 rfl 1 rfl ?_
  refine G_aload_n d_Md_endSpan_63 rfl 0 rfl ?_
  refine gm_Md_spanTo d_Md_endSpan_64 w_849 ?_
  refine G_iload_n d_Md_endSpan_67 rfl 1 rfl ?_
  refine G_iconst d_Md_endSpan_68 lt_iconst_1 ?_
  refine G_iadd d_Md_endSpan_69 ?_
  refine lm_9 d_Md_endSpan_70 (Ok_ld h).1 (fun v6 e => ?_)
  replace h := (Ok_ld h).2 v6 e
  clear e
  refine sm_9 d_Md_endSpan_71 (Ok_ld h).1 (fun s7 e => ?_)
  replace h := (Ok_ld h).2 s7 e
  clear e
  refine G_iinc d_Md_endSpan_72 1 rfl lt_iconst_1 rfl (Nat.le_of_ble_eq_true rfl) (fun x => [(3, .int x), (0, .ref (ad 0))]) (fun _ => rfl) (fun v8 e => ?_)
  replace h := Ok_bnd h v8 e
  clear e
  refine G_goto (tgt := 20) d_Md_endSpan_75 (by decide) ?_
  refine G_lv [1, 0] rfl ?_
  replace h := Ok_some h
  exact hL20 v8 s7 h
noncomputable def f_Md_endSpan (a1 a2 : Int32) (s : MS) : Option MS :=
  chk (inb a1 60) (bnd (pa s 9 a1.toNatClampNeg a2) fun s1 => chk (inb a1 60) (bnd (s1.2 8 a1.toNatClampNeg) fun v2 => if a2 ≤ v2 then (loop (fun z => Md_endSpan_l20 z.1 z.2) (a1, s1)) else (some s1)))
theorem f_Md_endSpan_w {l : Launch} {D : va_G} {cI cZ cJ : ClassId} {ad : Nat → Nat} (a1 a2 : Int32) (s : MS) {Q : Int32 → MS → Prop} {Post : MS → Prop} (hR : ∀ (s9 : MS), Post (s9) → Q 0 s9) (h : Ok (f_Md_endSpan a1 a2 s) Post) : G (XM l D cI cZ cJ ad) "SmallHarbourModel" b_Md_endSpan 4 none 0 0 [(0, .ref (ad 0)), (1, .int a1), (2, .int a2)] [] s Q := by
  unfold f_Md_endSpan at h
  refine G_aload_n d_Md_endSpan_0 rfl 0 rfl ?_
  refine gm_Md_spanTo d_Md_endSpan_1 w_849 ?_
  refine G_iload_n d_Md_endSpan_4 rfl 1 rfl ?_
  refine G_iload_n d_Md_endSpan_5 rfl 2 rfl ?_
  refine sm_9 d_Md_endSpan_6 (Ok_ld h).1 (fun s1 e => ?_)
  replace h := (Ok_ld h).2 s1 e
  clear e
  refine G_aload_n d_Md_endSpan_7 rfl 0 rfl ?_
  refine gm_Md_spanFrom d_Md_endSpan_8 w_848 ?_
  refine G_iload_n d_Md_endSpan_11 rfl 1 rfl ?_
  refine lm_8 d_Md_endSpan_12 (Ok_ld h).1 (fun v2 e => ?_)
  replace h := (Ok_ld h).2 v2 e
  clear e
  refine G_iload_n d_Md_endSpan_13 rfl 2 rfl ?_
  refine G_icmp_ge (tgt := 18) d_Md_endSpan_14 (by decide) (fun c => ?_) (fun c => ?_)
  · replace h := Ok_t c h
    refine G_iload_n d_Md_endSpan_18 rfl 1 rfl ?_
    refine G_istore_n d_Md_endSpan_19 rfl (Nat.le_of_ble_eq_true rfl) (fun x => [(3, .int x), (0, .ref (ad 0)), (1, .int a1), (2, .int a2)]) (fun _ => rfl) (fun x e => ?_)
    subst e
    refine G_lv [1, 0] rfl ?_
    refine G_loop (J := (fun z => G (XM l D cI cZ cJ ad) "SmallHarbourModel" b_Md_endSpan 4 none 0 20 [(0, .ref (ad 0)), (3, .int (z.1))] [] z.2 Q)) (fun z h => ?_) (a1, s1) h
    refine Md_endSpan_l20_w z.1 z.2 ?_ ?_ h
    · exact hR
    · exact (fun z3 s9 h => h)
  replace h := Ok_f c h
  replace h := Ok_some h
  exact G_vret rfl d_Md_endSpan_17 (hR _ h)
theorem c_Md_endSpan {l : Launch} {D : va_G} {cI cZ cJ : ClassId} {ad : Nat → Nat} (a1 a2 : Int32) (s : MS) {P : MS → Prop} (h : Ok (f_Md_endSpan a1 a2 s) P) : Ct (XM l D cI cZ cJ ad) y_Md_endSpan b_Md_endSpan 4 none 0 [.ref (ad 0), .int a1, .int a2] s (fun _ s9 => P s9) :=
  Ct.of mi_Md_endSpan (Nat.le_of_ble_eq_true rfl) (f_Md_endSpan_w a1 a2 s (fun _ h => h) h)
-- Md_fault
noncomputable def f_Md_fault (a1 : Int32) (s : MS) : Option Int32 :=
  if a1 = 0 then (some (s.1 26)) else (if a1 = (1 : Int32) then (some (s.1 27)) else (some (-1 : Int32)))
theorem f_Md_fault_w {l : Launch} {D : va_G} {cI cZ cJ : ClassId} {ad : Nat → Nat} (a1 : Int32) (s : MS) {Q : Int32 → MS → Prop} {Post : Int32 → Prop} (hR : ∀ (r9 : Int32), Post (r9) → Q r9 s) (h : Ok (f_Md_fault a1 s) Post) : G (XM l D cI cZ cJ ad) "SmallHarbourModel" b_Md_fault 2 (some .int) 0 0 [(0, .ref (ad 0)), (1, .int a1)] [] s Q := by
  unfold f_Md_fault at h
  refine G_iload_n d_Md_fault_0 rfl 1 rfl ?_
  refine G_if_ne (tgt := 11) d_Md_fault_1 (by decide) (fun c => ?_) (fun c => ?_)
  · replace h := Ok_f c h
    refine G_iload_n d_Md_fault_11 rfl 1 rfl ?_
    refine G_iconst d_Md_fault_12 lt_iconst_1 ?_
    refine G_icmp_ne (tgt := 23) d_Md_fault_13 (by decide) (fun c => ?_) (fun c => ?_)
    · replace h := Ok_f c h
      refine G_iconst d_Md_fault_23 lt_iconst_m1 ?_
      replace h := Ok_some h
      exact G_iret rfl (vp_nar_int _) d_Md_fault_24 (hR _ h)
    replace h := Ok_t c h
    refine G_aload_n d_Md_fault_16 rfl 0 rfl ?_
    refine gm_Md_faultPlace d_Md_fault_17 w_897 ?_
    refine G_goto (tgt := 24) d_Md_fault_20 (by decide) ?_
    replace h := Ok_some h
    exact G_iret rfl (vp_nar_int _) d_Md_fault_24 (hR _ h)
  replace h := Ok_t c h
  refine G_aload_n d_Md_fault_4 rfl 0 rfl ?_
  refine gm_Md_fault d_Md_fault_5 w_896 ?_
  refine G_goto (tgt := 24) d_Md_fault_8 (by decide) ?_
  replace h := Ok_some h
  exact G_iret rfl (vp_nar_int _) d_Md_fault_24 (hR _ h)
theorem c_Md_fault {l : Launch} {D : va_G} {cI cZ cJ : ClassId} {ad : Nat → Nat} (a1 : Int32) (s : MS) {P : Int32 → Prop} (h : Ok (f_Md_fault a1 s) P) : Ct (XM l D cI cZ cJ ad) y_Md_fault b_Md_fault 2 (some .int) 0 [.ref (ad 0), .int a1] s (fun r9 s9 => s9 = s ∧ P r9) :=
  Ct.of mi_Md_fault (Nat.le_of_ble_eq_true rfl) (f_Md_fault_w a1 s (fun _ h => ⟨rfl, h⟩) h)
-- Md_four
noncomputable def Md_four_l3 (x1 : Int32) (x2 : Int32) (s : MS) : Option ((Int32 × MS) ⊕ MS) :=
  if x2 < 0 then (xit (some s)) else (chk (inb (s.1 19) 200) (bnd (pa s 29 (s.1 19).toNatClampNeg ((x1 >>> (x2 &&& 31)) &&& (255 : Int32))) fun s1 => bnd (pf s1 19 ((s1.1 19) + (1 : Int32))) fun s2 => bnd (x2 + (-8 : Int32)) fun v3 => some (.inl (v3, s2))))
theorem Md_four_l3_w {l : Launch} {D : va_G} {cI cZ cJ : ClassId} {ad : Nat → Nat} (x1 x2 : Int32) (s : MS) {Q : Int32 → MS → Prop} {Post : ((Int32 × MS) ⊕ MS) → Prop} (hR : ∀ (s9 : MS), Post (.inr (s9)) → Q 0 s9) (hL3 : ∀ (z2 : Int32) (s9 : MS), Post (.inl (z2, s9)) → G (XM l D cI cZ cJ ad) "SmallHarbourModel" b_Md_four 3 none 0 3 [(0, .ref (ad 0)), (1, .int x1), (2, .int z2)] [] s9 Q) (h : Ok (Md_four_l3 x1 x2 s) Post) : G (XM l D cI cZ cJ ad) "SmallHarbourModel" b_Md_four 3 none 0 3 [(0, .ref (ad 0)), (1, .int x1), (2, .int x2)] [] s Q := by
  unfold Md_four_l3 at h
  refine G_iload_n d_Md_four_3 rfl 2 rfl ?_
  refine G_if_lt (tgt := 39) d_Md_four_4 (by decide) (fun c => ?_) (fun c => ?_)
  · replace h := Ok_t c h
    replace h := Ok_xit h
    replace h := Ok_some h
    exact G_vret rfl d_Md_four_39 (hR _ h)
  replace h := Ok_f c h
  refine G_aload_n d_Md_four_7 rfl 0 rfl ?_
  refine gm_Md_tape d_Md_four_8 w_884 ?_
  refine G_aload_n d_Md_four_11 rfl 0 rfl ?_
  refine gm_Md_taped d_Md_four_12 w_885 ?_
  refine G_iload_n d_Md_four_15 rfl 1 rfl ?_
  refine G_iload_n d_Md_four_16 rfl 2 rfl ?_
  refine G_ishr d_Md_four_17 ?_
  refine G_sipush d_Md_four_18 lt_sipush_255 ?_
  refine G_iand d_Md_four_21 ?_
  refine sm_29 d_Md_four_22 (Ok_ld h).1 (fun s1 e => ?_)
  replace h := (Ok_ld h).2 s1 e
  clear e
  refine G_aload_n d_Md_four_23 rfl 0 rfl ?_
  refine G_dup d_Md_four_24 rfl ?_
  refine gm_Md_taped d_Md_four_25 w_885 ?_
  refine G_iconst d_Md_four_28 lt_iconst_1 ?_
  refine G_iadd d_Md_four_29 ?_
  refine pm_Md_taped d_Md_four_30 w_885 (fun s2 e => ?_)
  replace h := Ok_bnd h s2 e
  clear e
  refine G_iinc d_Md_four_33 2 rfl lt_iconst_m8 rfl (Nat.le_of_ble_eq_true rfl) (fun x => [(2, .int x), (0, .ref (ad 0)), (1, .int x1)]) (fun _ => rfl) (fun v3 e => ?_)
  replace h := Ok_bnd h v3 e
  clear e
  refine G_goto (tgt := 3) d_Md_four_36 (by decide) ?_
  refine G_lv [1, 2, 0] rfl ?_
  replace h := Ok_some h
  exact hL3 v3 s2 h
noncomputable def f_Md_four (a1 : Int32) (s : MS) : Option MS :=
  loop (fun z => Md_four_l3 a1 z.1 z.2) ((24 : Int32), s)
theorem f_Md_four_w {l : Launch} {D : va_G} {cI cZ cJ : ClassId} {ad : Nat → Nat} (a1 : Int32) (s : MS) {Q : Int32 → MS → Prop} {Post : MS → Prop} (hR : ∀ (s9 : MS), Post (s9) → Q 0 s9) (h : Ok (f_Md_four a1 s) Post) : G (XM l D cI cZ cJ ad) "SmallHarbourModel" b_Md_four 3 none 0 0 [(0, .ref (ad 0)), (1, .int a1)] [] s Q := by
  unfold f_Md_four at h
  refine G_bipush d_Md_four_0 lt_bipush_24 ?_
  refine G_istore_n d_Md_four_2 rfl (Nat.le_of_ble_eq_true rfl) (fun x => [(2, .int x), (0, .ref (ad 0)), (1, .int a1)]) (fun _ => rfl) (fun x e => ?_)
  subst e
  refine G_lv [1, 2, 0] rfl ?_
  refine G_loop (J := (fun z => G (XM l D cI cZ cJ ad) "SmallHarbourModel" b_Md_four 3 none 0 3 [(0, .ref (ad 0)), (1, .int a1), (2, .int (z.1))] [] z.2 Q)) (fun z h => ?_) ((24 : Int32), s) h
  refine Md_four_l3_w a1 z.1 z.2 ?_ ?_ h
  · exact hR
  · exact (fun z2 s9 h => h)
theorem c_Md_four {l : Launch} {D : va_G} {cI cZ cJ : ClassId} {ad : Nat → Nat} (a1 : Int32) (s : MS) {P : MS → Prop} (h : Ok (f_Md_four a1 s) P) : Ct (XM l D cI cZ cJ ad) y_Md_four b_Md_four 3 none 0 [.ref (ad 0), .int a1] s (fun _ s9 => P s9) :=
  Ct.of mi_Md_four (Nat.le_of_ble_eq_true rfl) (f_Md_four_w a1 s (fun _ h => h) h)
-- Md_feed
noncomputable def f_Md_feed (a1 a2 a3 a4 a5 : Int32) (s : MS) : Option (Int32 × MS) :=
  if ((s.1 19) + (20 : Int32)) ≤ (200 : Int32) then ((f_Md_four a1 s).bind fun s1 => (f_Md_four a2 s1).bind fun s2 => (f_Md_four a3 s2).bind fun s3 => (f_Md_four a4 s3).bind fun s4 => (f_Md_four a5 s4).bind fun s5 => some ((s5.1 19), s5)) else (some ((-1 : Int32), s))
theorem f_Md_feed_w {l : Launch} {D : va_G} {cI cZ cJ : ClassId} {ad : Nat → Nat} (a1 a2 a3 a4 a5 : Int32) (s : MS) {Q : Int32 → MS → Prop} {Post : (Int32 × MS) → Prop} (hR : ∀ (r9 : Int32) (s9 : MS), Post ((r9, s9)) → Q r9 s9) (h : Ok (f_Md_feed a1 a2 a3 a4 a5 s) Post) : G (XM l D cI cZ cJ ad) "SmallHarbourModel" b_Md_feed 6 (some .int) 1 0 [(0, .ref (ad 0)), (1, .int a1), (2, .int a2), (3, .int a3), (4, .int a4), (5, .int a5)] [] s Q := by
  unfold f_Md_feed at h
  refine G_aload_n d_Md_feed_0 rfl 0 rfl ?_
  refine gm_Md_taped d_Md_feed_1 w_885 ?_
  refine G_bipush d_Md_feed_4 lt_bipush_20 ?_
  refine G_iadd d_Md_feed_6 ?_
  refine G_sipush d_Md_feed_7 lt_sipush_200 ?_
  refine G_icmp_le (tgt := 15) d_Md_feed_10 (by decide) (fun c => ?_) (fun c => ?_)
  · replace h := Ok_t c h
    refine G_aload_n d_Md_feed_15 rfl 0 rfl ?_
    refine G_iload_n d_Md_feed_16 rfl 1 rfl ?_
    refine G_callVv (st := []) (As := [.int a1]) (b := ad 0) d_Md_feed_17 mi_Md_four w_1232 0 rfl rfl mv_Md_four rfl (Nat.le_of_ble_eq_true rfl) (by decide) (c_Md_four a1 s (Ok_bind h)) (fun s1 h => ?_)
    refine G_aload_n d_Md_feed_20 rfl 0 rfl ?_
    refine G_iload_n d_Md_feed_21 rfl 2 rfl ?_
    refine G_callVv (st := []) (As := [.int a2]) (b := ad 0) d_Md_feed_22 mi_Md_four w_1232 0 rfl rfl mv_Md_four rfl (Nat.le_of_ble_eq_true rfl) (by decide) (c_Md_four a2 s1 (Ok_bind h)) (fun s2 h => ?_)
    refine G_aload_n d_Md_feed_25 rfl 0 rfl ?_
    refine G_iload_n d_Md_feed_26 rfl 3 rfl ?_
    refine G_callVv (st := []) (As := [.int a3]) (b := ad 0) d_Md_feed_27 mi_Md_four w_1232 0 rfl rfl mv_Md_four rfl (Nat.le_of_ble_eq_true rfl) (by decide) (c_Md_four a3 s2 (Ok_bind h)) (fun s3 h => ?_)
    refine G_aload_n d_Md_feed_30 rfl 0 rfl ?_
    refine G_iload d_Md_feed_31 4 rfl ?_
    refine G_callVv (st := []) (As := [.int a4]) (b := ad 0) d_Md_feed_33 mi_Md_four w_1232 0 rfl rfl mv_Md_four rfl (Nat.le_of_ble_eq_true rfl) (by decide) (c_Md_four a4 s3 (Ok_bind h)) (fun s4 h => ?_)
    refine G_aload_n d_Md_feed_36 rfl 0 rfl ?_
    refine G_iload d_Md_feed_37 5 rfl ?_
    refine G_callVv (st := []) (As := [.int a5]) (b := ad 0) d_Md_feed_39 mi_Md_four w_1232 0 rfl rfl mv_Md_four rfl (Nat.le_of_ble_eq_true rfl) (by decide) (c_Md_four a5 s4 (Ok_bind h)) (fun s5 h => ?_)
    refine G_aload_n d_Md_feed_42 rfl 0 rfl ?_
    refine gm_Md_taped d_Md_feed_43 w_885 ?_
    replace h := Ok_some h
    exact G_iret rfl (vp_nar_int _) d_Md_feed_46 (hR _ _ h)
  replace h := Ok_f c h
  refine G_iconst d_Md_feed_13 lt_iconst_m1 ?_
  replace h := Ok_some h
  exact G_iret rfl (vp_nar_int _) d_Md_feed_14 (hR _ _ h)
theorem c_Md_feed {l : Launch} {D : va_G} {cI cZ cJ : ClassId} {ad : Nat → Nat} (a1 a2 a3 a4 a5 : Int32) (s : MS) {P : Int32 → MS → Prop} (h : Ok2 (f_Md_feed a1 a2 a3 a4 a5 s) P) : Ct (XM l D cI cZ cJ ad) y_Md_feed b_Md_feed 6 (some .int) 1 [.ref (ad 0), .int a1, .int a2, .int a3, .int a4, .int a5] s (P) :=
  Ct.of mi_Md_feed (Nat.le_of_ble_eq_true rfl) (f_Md_feed_w a1 a2 a3 a4 a5 s (Post := fun q => P q.1 q.2) (fun _ _ h => h) (Ok2_ok h))
-- Md_movesOf
noncomputable def Md_movesOf_l90 (x2 : Int32) (s : MS) (x1 x3 : Int32) : Option ((Int32 × Int32) ⊕ ((Int32 × Int32) ⊕ Int32)) :=
  if x2 ≤ x3 then (xit (bnd (x2 + (1 : Int32)) fun v1 => some (.inl (x1, v1)))) else (chk (inb x3 9) (bnd (s.2 27 x3.toNatClampNeg) fun v2 => chk (inb x2 9) (bnd (s.2 27 x2.toNatClampNeg) fun v3 => if v2 = v3 then (chk (inb x3 9) (bnd (s.2 26 x3.toNatClampNeg) fun v6 => chk (inb x2 9) (bnd (s.2 26 x2.toNatClampNeg) fun v7 => if v7 ≤ v6 then (bnd (x1 + (0 : Int32)) fun v8 => bnd (x3 + (1 : Int32)) fun v9 => some (.inl (v8, v9))) else (bnd (x1 + (1 : Int32)) fun v10 => bnd (x3 + (1 : Int32)) fun v11 => some (.inl (v10, v11)))))) else (bnd (x1 + (0 : Int32)) fun v4 => bnd (x3 + (1 : Int32)) fun v5 => some (.inl (v4, v5))))))
theorem Md_movesOf_l90_w {l : Launch} {D : va_G} {cI cZ cJ : ClassId} {ad : Nat → Nat} (x2 x1 x3 : Int32) (s : MS) {Q : Int32 → MS → Prop} {Post : ((Int32 × Int32) ⊕ ((Int32 × Int32) ⊕ Int32)) → Prop} (hR : ∀ (r9 : Int32), Post (.inr (.inr (r9))) → Q r9 s) (hL80 : ∀ (z1 z2 : Int32) , Post (.inr (.inl (z1, z2))) → G (XM l D cI cZ cJ ad) "SmallHarbourModel" b_Md_movesOf 5 (some .int) 0 80 [(0, .ref (ad 0)), (1, .int z1), (2, .int z2)] [] s Q) (hL90 : ∀ (z1 z3 : Int32) , Post (.inl (z1, z3)) → G (XM l D cI cZ cJ ad) "SmallHarbourModel" b_Md_movesOf 5 (some .int) 0 90 [(0, .ref (ad 0)), (1, .int z1), (2, .int x2), (3, .int z3)] [] s Q) (h : Ok (Md_movesOf_l90 x2 s x1 x3) Post) : G (XM l D cI cZ cJ ad) "SmallHarbourModel" b_Md_movesOf 5 (some .int) 0 90 [(0, .ref (ad 0)), (1, .int x1), (2, .int x2), (3, .int x3)] [] s Q := by
  unfold Md_movesOf_l90 at h
  refine G_iload_n d_Md_movesOf_90 rfl 3 rfl ?_
  refine G_iload_n d_Md_movesOf_91 rfl 2 rfl ?_
  refine G_icmp_ge (tgt := 139) d_Md_movesOf_92 (by decide) (fun c => ?_) (fun c => ?_)
  · replace h := Ok_t c h
    replace h := Ok_xit h
    refine G_iinc d_Md_movesOf_139 2 rfl lt_iconst_1 rfl (Nat.le_of_ble_eq_true rfl) (fun x => [(2, .int x), (0, .ref (ad 0)), (1, .int x1), (3, .int x3)]) (fun _ => rfl) (fun v1 e => ?_)
    replace h := Ok_bnd h v1 e
    clear e
    refine G_goto (tgt := 80) d_Md_movesOf_142 (by decide) ?_
    refine G_lv [1, 2, 0] rfl ?_
    replace h := Ok_some h
    exact hL80 x1 v1 h
  replace h := Ok_f c h
  refine G_iload_n d_Md_movesOf_95 rfl 1 rfl ?_
  refine G_aload_n d_Md_movesOf_96 rfl 0 rfl ?_
  refine gm_Md_laneOf d_Md_movesOf_97 w_882 ?_
  refine G_iload_n d_Md_movesOf_100 rfl 3 rfl ?_
  refine lm_27 d_Md_movesOf_101 (Ok_ld h).1 (fun v2 e => ?_)
  replace h := (Ok_ld h).2 v2 e
  clear e
  refine G_aload_n d_Md_movesOf_102 rfl 0 rfl ?_
  refine gm_Md_laneOf d_Md_movesOf_103 w_882 ?_
  refine G_iload_n d_Md_movesOf_106 rfl 2 rfl ?_
  refine lm_27 d_Md_movesOf_107 (Ok_ld h).1 (fun v3 e => ?_)
  replace h := (Ok_ld h).2 v3 e
  clear e
  refine G_icmp_ne (tgt := 130) d_Md_movesOf_108 (by decide) (fun c => ?_) (fun c => ?_)
  · replace h := Ok_f c h
    refine G_iconst d_Md_movesOf_130 lt_iconst_0 ?_
    refine G_iadd d_Md_movesOf_131 ?_
    refine G_istore_n d_Md_movesOf_132 rfl (Nat.le_of_ble_eq_true rfl) (fun x => [(1, .int x), (0, .ref (ad 0)), (2, .int x2), (3, .int x3)]) (fun _ => rfl) (fun v4 e => ?_)
    replace h := Ok_bnd h v4 e.symm
    clear e
    refine G_iinc d_Md_movesOf_133 3 rfl lt_iconst_1 rfl (Nat.le_of_ble_eq_true rfl) (fun x => [(3, .int x), (1, .int v4), (0, .ref (ad 0)), (2, .int x2)]) (fun _ => rfl) (fun v5 e => ?_)
    replace h := Ok_bnd h v5 e
    clear e
    refine G_goto (tgt := 90) d_Md_movesOf_136 (by decide) ?_
    refine G_lv [2, 1, 3, 0] rfl ?_
    replace h := Ok_some h
    exact hL90 v4 v5 h
  replace h := Ok_t c h
  refine G_aload_n d_Md_movesOf_111 rfl 0 rfl ?_
  refine gm_Md_shedOut d_Md_movesOf_112 w_881 ?_
  refine G_iload_n d_Md_movesOf_115 rfl 3 rfl ?_
  refine lm_26 d_Md_movesOf_116 (Ok_ld h).1 (fun v6 e => ?_)
  replace h := (Ok_ld h).2 v6 e
  clear e
  refine G_aload_n d_Md_movesOf_117 rfl 0 rfl ?_
  refine gm_Md_shedOut d_Md_movesOf_118 w_881 ?_
  refine G_iload_n d_Md_movesOf_121 rfl 2 rfl ?_
  refine lm_26 d_Md_movesOf_122 (Ok_ld h).1 (fun v7 e => ?_)
  replace h := (Ok_ld h).2 v7 e
  clear e
  refine G_icmp_ge (tgt := 130) d_Md_movesOf_123 (by decide) (fun c => ?_) (fun c => ?_)
  · replace h := Ok_t c h
    refine G_iconst d_Md_movesOf_130 lt_iconst_0 ?_
    refine G_iadd d_Md_movesOf_131 ?_
    refine G_istore_n d_Md_movesOf_132 rfl (Nat.le_of_ble_eq_true rfl) (fun x => [(1, .int x), (0, .ref (ad 0)), (2, .int x2), (3, .int x3)]) (fun _ => rfl) (fun v8 e => ?_)
    replace h := Ok_bnd h v8 e.symm
    clear e
    refine G_iinc d_Md_movesOf_133 3 rfl lt_iconst_1 rfl (Nat.le_of_ble_eq_true rfl) (fun x => [(3, .int x), (1, .int v8), (0, .ref (ad 0)), (2, .int x2)]) (fun _ => rfl) (fun v9 e => ?_)
    replace h := Ok_bnd h v9 e
    clear e
    refine G_goto (tgt := 90) d_Md_movesOf_136 (by decide) ?_
    refine G_lv [2, 1, 3, 0] rfl ?_
    replace h := Ok_some h
    exact hL90 v8 v9 h
  replace h := Ok_f c h
  refine G_iconst d_Md_movesOf_126 lt_iconst_1 ?_
  refine G_goto (tgt := 131) d_Md_movesOf_127 (by decide) ?_
  refine G_iadd d_Md_movesOf_131 ?_
  refine G_istore_n d_Md_movesOf_132 rfl (Nat.le_of_ble_eq_true rfl) (fun x => [(1, .int x), (0, .ref (ad 0)), (2, .int x2), (3, .int x3)]) (fun _ => rfl) (fun v10 e => ?_)
  replace h := Ok_bnd h v10 e.symm
  clear e
  refine G_iinc d_Md_movesOf_133 3 rfl lt_iconst_1 rfl (Nat.le_of_ble_eq_true rfl) (fun x => [(3, .int x), (1, .int v10), (0, .ref (ad 0)), (2, .int x2)]) (fun _ => rfl) (fun v11 e => ?_)
  replace h := Ok_bnd h v11 e
  clear e
  refine G_goto (tgt := 90) d_Md_movesOf_136 (by decide) ?_
  refine G_lv [2, 1, 3, 0] rfl ?_
  replace h := Ok_some h
  exact hL90 v10 v11 h
noncomputable def Md_movesOf_l80 (s : MS) (x1 x2 : Int32) : Option ((Int32 × Int32) ⊕ Int32) :=
  if (s.1 18) ≤ x2 then (xit (some x1)) else (loop (fun z => Md_movesOf_l90 x2 s z.1 z.2) (x1, (0 : Int32)))
theorem Md_movesOf_l80_w {l : Launch} {D : va_G} {cI cZ cJ : ClassId} {ad : Nat → Nat} (x1 x2 : Int32) (s : MS) {Q : Int32 → MS → Prop} {Post : ((Int32 × Int32) ⊕ Int32) → Prop} (hR : ∀ (r9 : Int32), Post (.inr (r9)) → Q r9 s) (hL80 : ∀ (z1 z2 : Int32) , Post (.inl (z1, z2)) → G (XM l D cI cZ cJ ad) "SmallHarbourModel" b_Md_movesOf 5 (some .int) 0 80 [(0, .ref (ad 0)), (1, .int z1), (2, .int z2)] [] s Q) (h : Ok (Md_movesOf_l80 s x1 x2) Post) : G (XM l D cI cZ cJ ad) "SmallHarbourModel" b_Md_movesOf 5 (some .int) 0 80 [(0, .ref (ad 0)), (1, .int x1), (2, .int x2)] [] s Q := by
  unfold Md_movesOf_l80 at h
  refine G_iload_n d_Md_movesOf_80 rfl 2 rfl ?_
  refine G_aload_n d_Md_movesOf_81 rfl 0 rfl ?_
  refine gm_Md_inShed d_Md_movesOf_82 w_879 ?_
  refine G_icmp_ge (tgt := 145) d_Md_movesOf_85 (by decide) (fun c => ?_) (fun c => ?_)
  · replace h := Ok_t c h
    replace h := Ok_xit h
    refine G_iload_n d_Md_movesOf_145 rfl 1 rfl ?_
    replace h := Ok_some h
    exact G_iret rfl (vp_nar_int _) d_Md_movesOf_146 (hR _ h)
  replace h := Ok_f c h
  refine G_iconst d_Md_movesOf_88 lt_iconst_0 ?_
  refine G_istore_n d_Md_movesOf_89 rfl (Nat.le_of_ble_eq_true rfl) (fun x => [(3, .int x), (0, .ref (ad 0)), (1, .int x1), (2, .int x2)]) (fun _ => rfl) (fun x e => ?_)
  subst e
  refine G_lv [1, 2, 3, 0] rfl ?_
  refine G_loop (J := (fun z => G (XM l D cI cZ cJ ad) "SmallHarbourModel" b_Md_movesOf 5 (some .int) 0 90 [(0, .ref (ad 0)), (1, .int (z.1)), (2, .int x2), (3, .int (z.2))] [] s Q)) (fun z h => ?_) (x1, (0 : Int32)) h
  refine Md_movesOf_l90_w x2 z.1 z.2 s ?_ ?_ ?_ h
  · exact hR
  · exact hL80
  · exact (fun z1 z3 h => h)
noncomputable def Md_movesOf_l17 (x1 x2 : Int32) (s : MS) (x3 x4 : Int32) : Option ((Int32 × Int32) ⊕ ((Int32) ⊕ Int32)) :=
  if (s.1 18) ≤ x4 then (xit (if x3 ≤ (s.1 17) then (bnd (x2 + (1 : Int32)) fun v1 => some (.inl v1)) else (xit (some (-1 : Int32))))) else (chk (inb x4 9) (bnd (s.2 27 x4.toNatClampNeg) fun v2 => if v2 = x2 then (chk (inb x4 9) (bnd (s.2 25 x4.toNatClampNeg) fun v5 => chk (inb v5 30) (bnd (s.2 3 v5.toNatClampNeg) fun v6 => bnd (x3 + v6) fun v7 => bnd (x4 + (1 : Int32)) fun v8 => some (.inl (v7, v8))))) else (bnd (x3 + (0 : Int32)) fun v3 => bnd (x4 + (1 : Int32)) fun v4 => some (.inl (v3, v4)))))
theorem Md_movesOf_l17_w {l : Launch} {D : va_G} {cI cZ cJ : ClassId} {ad : Nat → Nat} (x1 x2 x3 x4 : Int32) (s : MS) {Q : Int32 → MS → Prop} {Post : ((Int32 × Int32) ⊕ ((Int32) ⊕ Int32)) → Prop} (hR : ∀ (r9 : Int32), Post (.inr (.inr (r9))) → Q r9 s) (hL4 : ∀ (z2 : Int32) , Post (.inr (.inl z2)) → G (XM l D cI cZ cJ ad) "SmallHarbourModel" b_Md_movesOf 5 (some .int) 0 4 [(0, .ref (ad 0)), (1, .int x1), (2, .int z2)] [] s Q) (hL17 : ∀ (z3 z4 : Int32) , Post (.inl (z3, z4)) → G (XM l D cI cZ cJ ad) "SmallHarbourModel" b_Md_movesOf 5 (some .int) 0 17 [(0, .ref (ad 0)), (1, .int x1), (2, .int x2), (3, .int z3), (4, .int z4)] [] s Q) (h : Ok (Md_movesOf_l17 x1 x2 s x3 x4) Post) : G (XM l D cI cZ cJ ad) "SmallHarbourModel" b_Md_movesOf 5 (some .int) 0 17 [(0, .ref (ad 0)), (1, .int x1), (2, .int x2), (3, .int x3), (4, .int x4)] [] s Q := by
  unfold Md_movesOf_l17 at h
  refine G_iload d_Md_movesOf_17 4 rfl ?_
  refine G_aload_n d_Md_movesOf_19 rfl 0 rfl ?_
  refine gm_Md_inShed d_Md_movesOf_20 w_879 ?_
  refine G_icmp_ge (tgt := 62) d_Md_movesOf_23 (by decide) (fun c => ?_) (fun c => ?_)
  · replace h := Ok_t c h
    replace h := Ok_xit h
    refine G_iload_n d_Md_movesOf_62 rfl 3 rfl ?_
    refine G_aload_n d_Md_movesOf_63 rfl 0 rfl ?_
    refine gm_Md_laneLength d_Md_movesOf_64 w_878 ?_
    refine G_icmp_le (tgt := 72) d_Md_movesOf_67 (by decide) (fun c => ?_) (fun c => ?_)
    · replace h := Ok_t c h
      refine G_iinc d_Md_movesOf_72 2 rfl lt_iconst_1 rfl (Nat.le_of_ble_eq_true rfl) (fun x => [(2, .int x), (0, .ref (ad 0)), (1, .int x1), (3, .int x3), (4, .int x4)]) (fun _ => rfl) (fun v1 e => ?_)
      replace h := Ok_bnd h v1 e
      clear e
      refine G_goto (tgt := 4) d_Md_movesOf_75 (by decide) ?_
      refine G_lv [1, 2, 0] rfl ?_
      replace h := Ok_some h
      exact hL4 v1 h
    replace h := Ok_f c h
    replace h := Ok_xit h
    refine G_iconst d_Md_movesOf_70 lt_iconst_m1 ?_
    replace h := Ok_some h
    exact G_iret rfl (vp_nar_int _) d_Md_movesOf_71 (hR _ h)
  replace h := Ok_f c h
  refine G_iload_n d_Md_movesOf_26 rfl 3 rfl ?_
  refine G_aload_n d_Md_movesOf_27 rfl 0 rfl ?_
  refine gm_Md_laneOf d_Md_movesOf_28 w_882 ?_
  refine G_iload d_Md_movesOf_31 4 rfl ?_
  refine lm_27 d_Md_movesOf_33 (Ok_ld h).1 (fun v2 e => ?_)
  replace h := (Ok_ld h).2 v2 e
  clear e
  refine G_iload_n d_Md_movesOf_34 rfl 2 rfl ?_
  refine G_icmp_ne (tgt := 53) d_Md_movesOf_35 (by decide) (fun c => ?_) (fun c => ?_)
  · replace h := Ok_f c h
    refine G_iconst d_Md_movesOf_53 lt_iconst_0 ?_
    refine G_iadd d_Md_movesOf_54 ?_
    refine G_istore_n d_Md_movesOf_55 rfl (Nat.le_of_ble_eq_true rfl) (fun x => [(3, .int x), (0, .ref (ad 0)), (1, .int x1), (2, .int x2), (4, .int x4)]) (fun _ => rfl) (fun v3 e => ?_)
    replace h := Ok_bnd h v3 e.symm
    clear e
    refine G_iinc d_Md_movesOf_56 4 rfl lt_iconst_1 rfl (Nat.le_of_ble_eq_true rfl) (fun x => [(4, .int x), (3, .int v3), (0, .ref (ad 0)), (1, .int x1), (2, .int x2)]) (fun _ => rfl) (fun v4 e => ?_)
    replace h := Ok_bnd h v4 e
    clear e
    refine G_goto (tgt := 17) d_Md_movesOf_59 (by decide) ?_
    refine G_lv [2, 3, 4, 1, 0] rfl ?_
    replace h := Ok_some h
    exact hL17 v3 v4 h
  replace h := Ok_t c h
  refine G_aload_n d_Md_movesOf_38 rfl 0 rfl ?_
  refine gm_Md_length d_Md_movesOf_39 w_842 ?_
  refine G_aload_n d_Md_movesOf_42 rfl 0 rfl ?_
  refine gm_Md_shedBoat d_Md_movesOf_43 w_880 ?_
  refine G_iload d_Md_movesOf_46 4 rfl ?_
  refine lm_25 d_Md_movesOf_48 (Ok_ld h).1 (fun v5 e => ?_)
  replace h := (Ok_ld h).2 v5 e
  clear e
  refine lm_3 d_Md_movesOf_49 (Ok_ld h).1 (fun v6 e => ?_)
  replace h := (Ok_ld h).2 v6 e
  clear e
  refine G_goto (tgt := 54) d_Md_movesOf_50 (by decide) ?_
  refine G_iadd d_Md_movesOf_54 ?_
  refine G_istore_n d_Md_movesOf_55 rfl (Nat.le_of_ble_eq_true rfl) (fun x => [(3, .int x), (0, .ref (ad 0)), (1, .int x1), (2, .int x2), (4, .int x4)]) (fun _ => rfl) (fun v7 e => ?_)
  replace h := Ok_bnd h v7 e.symm
  clear e
  refine G_iinc d_Md_movesOf_56 4 rfl lt_iconst_1 rfl (Nat.le_of_ble_eq_true rfl) (fun x => [(4, .int x), (3, .int v7), (0, .ref (ad 0)), (1, .int x1), (2, .int x2)]) (fun _ => rfl) (fun v8 e => ?_)
  replace h := Ok_bnd h v8 e
  clear e
  refine G_goto (tgt := 17) d_Md_movesOf_59 (by decide) ?_
  refine G_lv [2, 3, 4, 1, 0] rfl ?_
  replace h := Ok_some h
  exact hL17 v7 v8 h
noncomputable def Md_movesOf_l4 (x1 : Int32) (s : MS) (x2 : Int32) : Option ((Int32) ⊕ Int32) :=
  if (s.1 16) ≤ x2 then (xit (loop (fun z => Md_movesOf_l80 s z.1 z.2) (x1, (0 : Int32)))) else (loop (fun z => Md_movesOf_l17 x1 x2 s z.1 z.2) ((0 : Int32), (0 : Int32)))
theorem Md_movesOf_l4_w {l : Launch} {D : va_G} {cI cZ cJ : ClassId} {ad : Nat → Nat} (x1 x2 : Int32) (s : MS) {Q : Int32 → MS → Prop} {Post : ((Int32) ⊕ Int32) → Prop} (hR : ∀ (r9 : Int32), Post (.inr (r9)) → Q r9 s) (hL4 : ∀ (z2 : Int32) , Post (.inl z2) → G (XM l D cI cZ cJ ad) "SmallHarbourModel" b_Md_movesOf 5 (some .int) 0 4 [(0, .ref (ad 0)), (1, .int x1), (2, .int z2)] [] s Q) (h : Ok (Md_movesOf_l4 x1 s x2) Post) : G (XM l D cI cZ cJ ad) "SmallHarbourModel" b_Md_movesOf 5 (some .int) 0 4 [(0, .ref (ad 0)), (1, .int x1), (2, .int x2)] [] s Q := by
  unfold Md_movesOf_l4 at h
  refine G_iload_n d_Md_movesOf_4 rfl 2 rfl ?_
  refine G_aload_n d_Md_movesOf_5 rfl 0 rfl ?_
  refine gm_Md_lanes d_Md_movesOf_6 w_877 ?_
  refine G_icmp_ge (tgt := 78) d_Md_movesOf_9 (by decide) (fun c => ?_) (fun c => ?_)
  · replace h := Ok_t c h
    replace h := Ok_xit h
    refine G_iconst d_Md_movesOf_78 lt_iconst_0 ?_
    refine G_istore_n d_Md_movesOf_79 rfl (Nat.le_of_ble_eq_true rfl) (fun x => [(2, .int x), (0, .ref (ad 0)), (1, .int x1)]) (fun _ => rfl) (fun x e => ?_)
    subst e
    refine G_lv [1, 2, 0] rfl ?_
    refine G_loop (J := (fun z => G (XM l D cI cZ cJ ad) "SmallHarbourModel" b_Md_movesOf 5 (some .int) 0 80 [(0, .ref (ad 0)), (1, .int (z.1)), (2, .int (z.2))] [] s Q)) (fun z h => ?_) (x1, (0 : Int32)) h
    refine Md_movesOf_l80_w z.1 z.2 s ?_ ?_ h
    · exact hR
    · exact (fun z1 z2 h => h)
  replace h := Ok_f c h
  refine G_iconst d_Md_movesOf_12 lt_iconst_0 ?_
  refine G_istore_n d_Md_movesOf_13 rfl (Nat.le_of_ble_eq_true rfl) (fun x => [(3, .int x), (0, .ref (ad 0)), (1, .int x1), (2, .int x2)]) (fun _ => rfl) (fun x e => ?_)
  subst e
  refine G_iconst d_Md_movesOf_14 lt_iconst_0 ?_
  refine G_istore d_Md_movesOf_15 (Nat.le_of_ble_eq_true rfl) (fun x => [(4, .int x), (3, .int (0 : Int32)), (0, .ref (ad 0)), (1, .int x1), (2, .int x2)]) (fun _ => rfl) (fun x e => ?_)
  subst e
  refine G_lv [2, 3, 4, 1, 0] rfl ?_
  refine G_loop (J := (fun z => G (XM l D cI cZ cJ ad) "SmallHarbourModel" b_Md_movesOf 5 (some .int) 0 17 [(0, .ref (ad 0)), (1, .int x1), (2, .int x2), (3, .int (z.1)), (4, .int (z.2))] [] s Q)) (fun z h => ?_) ((0 : Int32), (0 : Int32)) h
  refine Md_movesOf_l17_w x1 x2 z.1 z.2 s ?_ ?_ ?_ h
  · exact hR
  · exact hL4
  · exact (fun z3 z4 h => h)
noncomputable def f_Md_movesOf (s : MS) : Option Int32 :=
  loop (fun z => Md_movesOf_l4 (0 : Int32) s z) (0 : Int32)
theorem f_Md_movesOf_w {l : Launch} {D : va_G} {cI cZ cJ : ClassId} {ad : Nat → Nat} (s : MS) {Q : Int32 → MS → Prop} {Post : Int32 → Prop} (hR : ∀ (r9 : Int32), Post (r9) → Q r9 s) (h : Ok (f_Md_movesOf s) Post) : G (XM l D cI cZ cJ ad) "SmallHarbourModel" b_Md_movesOf 5 (some .int) 0 0 [(0, .ref (ad 0))] [] s Q := by
  unfold f_Md_movesOf at h
  refine G_iconst d_Md_movesOf_0 lt_iconst_0 ?_
  refine G_istore_n d_Md_movesOf_1 rfl (Nat.le_of_ble_eq_true rfl) (fun x => [(1, .int x), (0, .ref (ad 0))]) (fun _ => rfl) (fun x e => ?_)
  subst e
  refine G_iconst d_Md_movesOf_2 lt_iconst_0 ?_
  refine G_istore_n d_Md_movesOf_3 rfl (Nat.le_of_ble_eq_true rfl) (fun x => [(2, .int x), (1, .int (0 : Int32)), (0, .ref (ad 0))]) (fun _ => rfl) (fun x e => ?_)
  subst e
  refine G_lv [2, 1, 0] rfl ?_
  refine G_loop (J := (fun z => G (XM l D cI cZ cJ ad) "SmallHarbourModel" b_Md_movesOf 5 (some .int) 0 4 [(0, .ref (ad 0)), (1, .int (0 : Int32)), (2, .int z)] [] s Q)) (fun z h => ?_) (0 : Int32) h
  refine Md_movesOf_l4_w (0 : Int32) z s ?_ ?_ h
  · exact hR
  · exact (fun z2 h => h)
theorem c_Md_movesOf {l : Launch} {D : va_G} {cI cZ cJ : ClassId} {ad : Nat → Nat} (s : MS) {P : Int32 → Prop} (h : Ok (f_Md_movesOf  s) P) : Ct (XM l D cI cZ cJ ad) y_Md_movesOf b_Md_movesOf 5 (some .int) 0 [.ref (ad 0)] s (fun r9 s9 => s9 = s ∧ P r9) :=
  Ct.of mi_Md_movesOf (Nat.le_of_ble_eq_true rfl) (f_Md_movesOf_w  s (fun _ h => ⟨rfl, h⟩) h)
-- Md_fewest
noncomputable def Md_fewest_j134 (x1 x4 t0 : Int32) (s : MS) : Option ((Int32 × Int32 × MS) ⊕ (Int32 × MS)) :=
  if t0 = 0 then (some (.inl (x1, t0, s))) else (chk (inb x4 9) (bnd (s.2 27 x4.toNatClampNeg) fun v1 => chk (inb x4 9) (bnd (pa s 27 x4.toNatClampNeg (v1 + (1 : Int32))) fun s2 => some (.inl (x1, t0, s2)))))
theorem Md_fewest_j134_w {l : Launch} {D : va_G} {cI cZ cJ : ClassId} {ad : Nat → Nat} (x1 x4 t0 : Int32) (s : MS) {Q : Int32 → MS → Prop} {Post : ((Int32 × Int32 × MS) ⊕ (Int32 × MS)) → Prop} (hR : ∀ (r9 : Int32) (s9 : MS), Post (.inr ((r9, s9))) → Q r9 s9) (hL25 : ∀ (z1 z2 : Int32) (s9 : MS), Post (.inl (z1, z2, s9)) → G (XM l D cI cZ cJ ad) "SmallHarbourModel" b_Md_fewest 5 (some .int) 1 25 [(0, .ref (ad 0)), (1, .int z1), (2, .int z2)] [] s9 Q) (h : Ok (Md_fewest_j134 x1 x4 t0 s) Post) : G (XM l D cI cZ cJ ad) "SmallHarbourModel" b_Md_fewest 5 (some .int) 1 134 [(0, .ref (ad 0)), (1, .int x1), (4, .int x4)] [.int t0] s Q := by
  unfold Md_fewest_j134 at h
  refine G_istore_n d_Md_fewest_134 rfl (Nat.le_of_ble_eq_true rfl) (fun x => [(2, .int x), (0, .ref (ad 0)), (1, .int x1), (4, .int x4)]) (fun _ => rfl) (fun x e => ?_)
  subst e
  refine G_iload_n d_Md_fewest_135 rfl 0 rfl ?_
  refine G_if_eq (tgt := 150) d_Md_fewest_136 (by decide) (fun c => ?_) (fun c => ?_)
  · replace h := Ok_t c h
    refine G_goto (tgt := 25) d_Md_fewest_150 (by decide) ?_
    refine G_lv [1, 2, 0] rfl ?_
    replace h := Ok_some h
    exact hL25 x1 t0 s h
  replace h := Ok_f c h
  refine G_aload_n d_Md_fewest_139 rfl 1 rfl ?_
  refine gm_Md_laneOf d_Md_fewest_140 w_882 ?_
  refine G_iload d_Md_fewest_143 3 rfl ?_
  refine G_dup2 d_Md_fewest_145 rfl rfl ?_
  refine lm_27 d_Md_fewest_146 (Ok_ld h).1 (fun v1 e => ?_)
  replace h := (Ok_ld h).2 v1 e
  clear e
  refine G_iconst d_Md_fewest_147 lt_iconst_1 ?_
  refine G_iadd d_Md_fewest_148 ?_
  refine sm_27 d_Md_fewest_149 (Ok_ld h).1 (fun s2 e => ?_)
  replace h := (Ok_ld h).2 s2 e
  clear e
  refine G_goto (tgt := 25) d_Md_fewest_150 (by decide) ?_
  refine G_lv [1, 2, 0] rfl ?_
  replace h := Ok_some h
  exact hL25 x1 t0 s2 h
noncomputable def Md_fewest_j124 (x1 x4 : Int32) (s : MS) : Option ((Int32 × Int32 × MS) ⊕ (Int32 × MS)) :=
  if x4 < 0 then (Md_fewest_j134 x1 x4 (0 : Int32) s) else (Md_fewest_j134 x1 x4 (1 : Int32) s)
theorem Md_fewest_j124_w {l : Launch} {D : va_G} {cI cZ cJ : ClassId} {ad : Nat → Nat} (x1 x4 : Int32) (s : MS) {Q : Int32 → MS → Prop} {Post : ((Int32 × Int32 × MS) ⊕ (Int32 × MS)) → Prop} (hR : ∀ (r9 : Int32) (s9 : MS), Post (.inr ((r9, s9))) → Q r9 s9) (hL25 : ∀ (z1 z2 : Int32) (s9 : MS), Post (.inl (z1, z2, s9)) → G (XM l D cI cZ cJ ad) "SmallHarbourModel" b_Md_fewest 5 (some .int) 1 25 [(0, .ref (ad 0)), (1, .int z1), (2, .int z2)] [] s9 Q) (h : Ok (Md_fewest_j124 x1 x4 s) Post) : G (XM l D cI cZ cJ ad) "SmallHarbourModel" b_Md_fewest 5 (some .int) 1 124 [(0, .ref (ad 0)), (1, .int x1), (4, .int x4)] [] s Q := by
  unfold Md_fewest_j124 at h
  refine G_iload d_Md_fewest_124 2 rfl ?_
  refine G_if_lt (tgt := 133) d_Md_fewest_126 (by decide) (fun c => ?_) (fun c => ?_)
  · replace h := Ok_t c h
    refine G_iconst d_Md_fewest_133 lt_iconst_0 ?_
    refine Md_fewest_j134_w x1 x4 (0 : Int32) s ?_ ?_ h
    · exact hR
    · exact hL25
  replace h := Ok_f c h
  refine G_iconst d_Md_fewest_129 lt_iconst_1 ?_
  refine G_goto (tgt := 134) d_Md_fewest_130 (by decide) ?_
  refine Md_fewest_j134_w x1 x4 (1 : Int32) s ?_ ?_ h
  · exact hR
  · exact hL25
noncomputable def Md_fewest_l89 (x1 : Int32) (x4 : Int32) (s : MS) : Option ((Int32 × MS) ⊕ ((Int32 × Int32 × MS) ⊕ (Int32 × MS))) :=
  if x4 < 0 then (xit (Md_fewest_j124 x1 x4 s)) else (chk (inb x4 9) (bnd (s.2 27 x4.toNatClampNeg) fun v1 => if v1 = ((s.1 16) - (1 : Int32)) then (chk (inb x4 9) (bnd (pa s 27 x4.toNatClampNeg (0 : Int32)) fun s2 => bnd (x4 + (-1 : Int32)) fun v3 => some (.inl (v3, s2)))) else (xit (Md_fewest_j124 x1 x4 s))))
theorem Md_fewest_l89_w {l : Launch} {D : va_G} {cI cZ cJ : ClassId} {ad : Nat → Nat} (x1 x4 : Int32) (s : MS) {Q : Int32 → MS → Prop} {Post : ((Int32 × MS) ⊕ ((Int32 × Int32 × MS) ⊕ (Int32 × MS))) → Prop} (hR : ∀ (r9 : Int32) (s9 : MS), Post (.inr (.inr ((r9, s9)))) → Q r9 s9) (hL25 : ∀ (z1 z2 : Int32) (s9 : MS), Post (.inr (.inl (z1, z2, s9))) → G (XM l D cI cZ cJ ad) "SmallHarbourModel" b_Md_fewest 5 (some .int) 1 25 [(0, .ref (ad 0)), (1, .int z1), (2, .int z2)] [] s9 Q) (hL89 : ∀ (z4 : Int32) (s9 : MS), Post (.inl (z4, s9)) → G (XM l D cI cZ cJ ad) "SmallHarbourModel" b_Md_fewest 5 (some .int) 1 89 [(0, .ref (ad 0)), (1, .int x1), (4, .int z4)] [] s9 Q) (h : Ok (Md_fewest_l89 x1 x4 s) Post) : G (XM l D cI cZ cJ ad) "SmallHarbourModel" b_Md_fewest 5 (some .int) 1 89 [(0, .ref (ad 0)), (1, .int x1), (4, .int x4)] [] s Q := by
  unfold Md_fewest_l89 at h
  refine G_iload d_Md_fewest_89 2 rfl ?_
  refine G_if_lt (tgt := 124) d_Md_fewest_91 (by decide) (fun c => ?_) (fun c => ?_)
  · replace h := Ok_t c h
    replace h := Ok_xit h
    refine Md_fewest_j124_w x1 x4 s ?_ ?_ h
    · exact hR
    · exact hL25
  replace h := Ok_f c h
  refine G_aload_n d_Md_fewest_94 rfl 0 rfl ?_
  refine gm_Md_laneOf d_Md_fewest_95 w_882 ?_
  refine G_iload d_Md_fewest_98 2 rfl ?_
  refine lm_27 d_Md_fewest_100 (Ok_ld h).1 (fun v1 e => ?_)
  replace h := (Ok_ld h).2 v1 e
  clear e
  refine G_aload_n d_Md_fewest_101 rfl 0 rfl ?_
  refine gm_Md_lanes d_Md_fewest_102 w_877 ?_
  refine G_iconst d_Md_fewest_105 lt_iconst_1 ?_
  refine G_isub d_Md_fewest_106 ?_
  refine G_icmp_ne (tgt := 124) d_Md_fewest_107 (by decide) (fun c => ?_) (fun c => ?_)
  · replace h := Ok_f c h
    replace h := Ok_xit h
    refine Md_fewest_j124_w x1 x4 s ?_ ?_ h
    · exact hR
    · exact hL25
  replace h := Ok_t c h
  refine G_aload_n d_Md_fewest_110 rfl 0 rfl ?_
  refine gm_Md_laneOf d_Md_fewest_111 w_882 ?_
  refine G_iload d_Md_fewest_114 2 rfl ?_
  refine G_iconst d_Md_fewest_116 lt_iconst_0 ?_
  refine sm_27 d_Md_fewest_117 (Ok_ld h).1 (fun s2 e => ?_)
  replace h := (Ok_ld h).2 s2 e
  clear e
  refine G_iinc d_Md_fewest_118 2 rfl lt_iconst_m1 rfl (Nat.le_of_ble_eq_true rfl) (fun x => [(4, .int x), (0, .ref (ad 0)), (1, .int x1)]) (fun _ => rfl) (fun v3 e => ?_)
  replace h := Ok_bnd h v3 e
  clear e
  refine G_goto (tgt := 89) d_Md_fewest_121 (by decide) ?_
  refine G_lv [1, 2, 0] rfl ?_
  replace h := Ok_some h
  exact hL89 v3 s2 h
noncomputable def Md_fewest_l52 (x1 : Int32) (x4 : Int32) (s : MS) : Option ((Int32 × MS) ⊕ ((Int32 × Int32 × MS) ⊕ (Int32 × MS))) :=
  if (s.1 18) ≤ x4 then (xit (bnd ((s.1 18) - (1 : Int32)) fun v1 => loop (fun z => Md_fewest_l89 x1 z.1 z.2) (v1, s))) else (chk (inb x4 9) (bnd (s.2 27 x4.toNatClampNeg) fun v2 => chk (inb x4 9) (bnd (pa s 28 x4.toNatClampNeg v2) fun s3 => bnd (x4 + (1 : Int32)) fun v4 => some (.inl (v4, s3)))))
theorem Md_fewest_l52_w {l : Launch} {D : va_G} {cI cZ cJ : ClassId} {ad : Nat → Nat} (x1 x4 : Int32) (s : MS) {Q : Int32 → MS → Prop} {Post : ((Int32 × MS) ⊕ ((Int32 × Int32 × MS) ⊕ (Int32 × MS))) → Prop} (hR : ∀ (r9 : Int32) (s9 : MS), Post (.inr (.inr ((r9, s9)))) → Q r9 s9) (hL25 : ∀ (z1 z2 : Int32) (s9 : MS), Post (.inr (.inl (z1, z2, s9))) → G (XM l D cI cZ cJ ad) "SmallHarbourModel" b_Md_fewest 5 (some .int) 1 25 [(0, .ref (ad 0)), (1, .int z1), (2, .int z2)] [] s9 Q) (hL52 : ∀ (z4 : Int32) (s9 : MS), Post (.inl (z4, s9)) → G (XM l D cI cZ cJ ad) "SmallHarbourModel" b_Md_fewest 5 (some .int) 1 52 [(0, .ref (ad 0)), (1, .int x1), (4, .int z4)] [] s9 Q) (h : Ok (Md_fewest_l52 x1 x4 s) Post) : G (XM l D cI cZ cJ ad) "SmallHarbourModel" b_Md_fewest 5 (some .int) 1 52 [(0, .ref (ad 0)), (1, .int x1), (4, .int x4)] [] s Q := by
  unfold Md_fewest_l52 at h
  refine G_iload d_Md_fewest_52 2 rfl ?_
  refine G_aload_n d_Md_fewest_54 rfl 0 rfl ?_
  refine gm_Md_inShed d_Md_fewest_55 w_879 ?_
  refine G_icmp_ge (tgt := 81) d_Md_fewest_58 (by decide) (fun c => ?_) (fun c => ?_)
  · replace h := Ok_t c h
    replace h := Ok_xit h
    refine G_aload_n d_Md_fewest_81 rfl 0 rfl ?_
    refine gm_Md_inShed d_Md_fewest_82 w_879 ?_
    refine G_iconst d_Md_fewest_85 lt_iconst_1 ?_
    refine G_isub d_Md_fewest_86 ?_
    refine G_istore d_Md_fewest_87 (Nat.le_of_ble_eq_true rfl) (fun x => [(4, .int x), (0, .ref (ad 0)), (1, .int x1)]) (fun _ => rfl) (fun v1 e => ?_)
    replace h := Ok_bnd h v1 e.symm
    clear e
    refine G_lv [1, 2, 0] rfl ?_
    refine G_loop (J := (fun z => G (XM l D cI cZ cJ ad) "SmallHarbourModel" b_Md_fewest 5 (some .int) 1 89 [(0, .ref (ad 0)), (1, .int x1), (4, .int (z.1))] [] z.2 Q)) (fun z h => ?_) (v1, s) h
    refine Md_fewest_l89_w x1 z.1 z.2 ?_ ?_ ?_ h
    · exact hR
    · exact hL25
    · exact (fun z4 s9 h => h)
  replace h := Ok_f c h
  refine G_aload_n d_Md_fewest_61 rfl 0 rfl ?_
  refine gm_Md_bestLane d_Md_fewest_62 w_883 ?_
  refine G_iload d_Md_fewest_65 2 rfl ?_
  refine G_aload_n d_Md_fewest_67 rfl 0 rfl ?_
  refine gm_Md_laneOf d_Md_fewest_68 w_882 ?_
  refine G_iload d_Md_fewest_71 2 rfl ?_
  refine lm_27 d_Md_fewest_73 (Ok_ld h).1 (fun v2 e => ?_)
  replace h := (Ok_ld h).2 v2 e
  clear e
  refine sm_28 d_Md_fewest_74 (Ok_ld h).1 (fun s3 e => ?_)
  replace h := (Ok_ld h).2 s3 e
  clear e
  refine G_iinc d_Md_fewest_75 2 rfl lt_iconst_1 rfl (Nat.le_of_ble_eq_true rfl) (fun x => [(4, .int x), (0, .ref (ad 0)), (1, .int x1)]) (fun _ => rfl) (fun v4 e => ?_)
  replace h := Ok_bnd h v4 e
  clear e
  refine G_goto (tgt := 52) d_Md_fewest_78 (by decide) ?_
  refine G_lv [1, 2, 0] rfl ?_
  replace h := Ok_some h
  exact hL52 v4 s3 h
noncomputable def Md_fewest_l25 (x1 x2 : Int32) (s : MS) : Option ((Int32 × Int32 × MS) ⊕ (Int32 × MS)) :=
  if x2 = 0 then (xit (some (x1, s))) else ((f_Md_movesOf s).bind fun v1 => if v1 < 0 then (bnd ((s.1 18) - (1 : Int32)) fun v2 => loop (fun z => Md_fewest_l89 x1 z.1 z.2) (v2, s)) else (if x1 < 0 then (loop (fun z => Md_fewest_l52 v1 z.1 z.2) ((0 : Int32), s)) else (if x1 ≤ v1 then (bnd ((s.1 18) - (1 : Int32)) fun v3 => loop (fun z => Md_fewest_l89 x1 z.1 z.2) (v3, s)) else (loop (fun z => Md_fewest_l52 v1 z.1 z.2) ((0 : Int32), s)))))
theorem Md_fewest_l25_w {l : Launch} {D : va_G} {cI cZ cJ : ClassId} {ad : Nat → Nat} (x1 x2 : Int32) (s : MS) {Q : Int32 → MS → Prop} {Post : ((Int32 × Int32 × MS) ⊕ (Int32 × MS)) → Prop} (hR : ∀ (r9 : Int32) (s9 : MS), Post (.inr ((r9, s9))) → Q r9 s9) (hL25 : ∀ (z1 z2 : Int32) (s9 : MS), Post (.inl (z1, z2, s9)) → G (XM l D cI cZ cJ ad) "SmallHarbourModel" b_Md_fewest 5 (some .int) 1 25 [(0, .ref (ad 0)), (1, .int z1), (2, .int z2)] [] s9 Q) (h : Ok (Md_fewest_l25 x1 x2 s) Post) : G (XM l D cI cZ cJ ad) "SmallHarbourModel" b_Md_fewest 5 (some .int) 1 25 [(0, .ref (ad 0)), (1, .int x1), (2, .int x2)] [] s Q := by
  unfold Md_fewest_l25 at h
  refine G_iload_n d_Md_fewest_25 rfl 2 rfl ?_
  refine G_if_eq (tgt := 153) d_Md_fewest_26 (by decide) (fun c => ?_) (fun c => ?_)
  · replace h := Ok_t c h
    replace h := Ok_xit h
    refine G_iload_n d_Md_fewest_153 rfl 1 rfl ?_
    replace h := Ok_some h
    exact G_iret rfl (vp_nar_int _) d_Md_fewest_154 (hR _ _ h)
  replace h := Ok_f c h
  refine G_aload_n d_Md_fewest_29 rfl 0 rfl ?_
  refine G_callVp (st := []) (As := []) (b := ad 0) d_Md_fewest_30 mi_Md_movesOf w_1220 0 rfl rfl mv_Md_movesOf rfl (Nat.le_of_ble_eq_true rfl) (by decide) (c_Md_movesOf  s (Ok_bind h)) (fun v1 h hnv1 => ?_)
  refine G_istore_n d_Md_fewest_33 rfl (Nat.le_of_ble_eq_true rfl) (fun x => [(3, .int x), (0, .ref (ad 0)), (1, .int x1), (2, .int x2)]) (fun _ => rfl) (fun x e => ?_)
  subst e
  refine G_iload_n d_Md_fewest_34 rfl 0 rfl ?_
  refine G_if_lt (tgt := 81) d_Md_fewest_35 (by decide) (fun c => ?_) (fun c => ?_)
  · replace h := Ok_t c h
    refine G_aload_n d_Md_fewest_81 rfl 1 rfl ?_
    refine gm_Md_inShed d_Md_fewest_82 w_879 ?_
    refine G_iconst d_Md_fewest_85 lt_iconst_1 ?_
    refine G_isub d_Md_fewest_86 ?_
    refine G_istore d_Md_fewest_87 (Nat.le_of_ble_eq_true rfl) (fun x => [(4, .int x), (3, .int v1), (0, .ref (ad 0)), (1, .int x1), (2, .int x2)]) (fun _ => rfl) (fun v2 e => ?_)
    replace h := Ok_bnd h v2 e.symm
    clear e
    refine G_lv [2, 3, 0] rfl ?_
    refine G_loop (J := (fun z => G (XM l D cI cZ cJ ad) "SmallHarbourModel" b_Md_fewest 5 (some .int) 1 89 [(0, .ref (ad 0)), (1, .int x1), (4, .int (z.1))] [] z.2 Q)) (fun z h => ?_) (v2, s) h
    refine Md_fewest_l89_w x1 z.1 z.2 ?_ ?_ ?_ h
    · exact hR
    · exact hL25
    · exact (fun z4 s9 h => h)
  replace h := Ok_f c h
  refine G_iload_n d_Md_fewest_38 rfl 2 rfl ?_
  refine G_if_lt (tgt := 47) d_Md_fewest_39 (by decide) (fun c => ?_) (fun c => ?_)
  · replace h := Ok_t c h
    refine G_iload_n d_Md_fewest_47 rfl 0 rfl ?_
    refine G_istore_n d_Md_fewest_48 rfl (Nat.le_of_ble_eq_true rfl) (fun x => [(1, .int x), (3, .int v1), (0, .ref (ad 0)), (2, .int x2)]) (fun _ => rfl) (fun x e => ?_)
    subst e
    refine G_iconst d_Md_fewest_49 lt_iconst_0 ?_
    refine G_istore d_Md_fewest_50 (Nat.le_of_ble_eq_true rfl) (fun x => [(4, .int x), (1, .int v1), (3, .int v1), (0, .ref (ad 0)), (2, .int x2)]) (fun _ => rfl) (fun x e => ?_)
    subst e
    refine G_lv [3, 1, 0] rfl ?_
    refine G_loop (J := (fun z => G (XM l D cI cZ cJ ad) "SmallHarbourModel" b_Md_fewest 5 (some .int) 1 52 [(0, .ref (ad 0)), (1, .int v1), (4, .int (z.1))] [] z.2 Q)) (fun z h => ?_) ((0 : Int32), s) h
    refine Md_fewest_l52_w v1 z.1 z.2 ?_ ?_ ?_ h
    · exact hR
    · exact hL25
    · exact (fun z4 s9 h => h)
  replace h := Ok_f c h
  refine G_iload_n d_Md_fewest_42 rfl 0 rfl ?_
  refine G_iload_n d_Md_fewest_43 rfl 2 rfl ?_
  refine G_icmp_ge (tgt := 81) d_Md_fewest_44 (by decide) (fun c => ?_) (fun c => ?_)
  · replace h := Ok_t c h
    refine G_aload_n d_Md_fewest_81 rfl 1 rfl ?_
    refine gm_Md_inShed d_Md_fewest_82 w_879 ?_
    refine G_iconst d_Md_fewest_85 lt_iconst_1 ?_
    refine G_isub d_Md_fewest_86 ?_
    refine G_istore d_Md_fewest_87 (Nat.le_of_ble_eq_true rfl) (fun x => [(4, .int x), (3, .int v1), (0, .ref (ad 0)), (1, .int x1), (2, .int x2)]) (fun _ => rfl) (fun v3 e => ?_)
    replace h := Ok_bnd h v3 e.symm
    clear e
    refine G_lv [2, 3, 0] rfl ?_
    refine G_loop (J := (fun z => G (XM l D cI cZ cJ ad) "SmallHarbourModel" b_Md_fewest 5 (some .int) 1 89 [(0, .ref (ad 0)), (1, .int x1), (4, .int (z.1))] [] z.2 Q)) (fun z h => ?_) (v3, s) h
    refine Md_fewest_l89_w x1 z.1 z.2 ?_ ?_ ?_ h
    · exact hR
    · exact hL25
    · exact (fun z4 s9 h => h)
  replace h := Ok_f c h
  refine G_iload_n d_Md_fewest_47 rfl 0 rfl ?_
  refine G_istore_n d_Md_fewest_48 rfl (Nat.le_of_ble_eq_true rfl) (fun x => [(1, .int x), (3, .int v1), (0, .ref (ad 0)), (2, .int x2)]) (fun _ => rfl) (fun x e => ?_)
  subst e
  refine G_iconst d_Md_fewest_49 lt_iconst_0 ?_
  refine G_istore d_Md_fewest_50 (Nat.le_of_ble_eq_true rfl) (fun x => [(4, .int x), (1, .int v1), (3, .int v1), (0, .ref (ad 0)), (2, .int x2)]) (fun _ => rfl) (fun x e => ?_)
  subst e
  refine G_lv [3, 1, 0] rfl ?_
  refine G_loop (J := (fun z => G (XM l D cI cZ cJ ad) "SmallHarbourModel" b_Md_fewest 5 (some .int) 1 52 [(0, .ref (ad 0)), (1, .int v1), (4, .int (z.1))] [] z.2 Q)) (fun z h => ?_) ((0 : Int32), s) h
  refine Md_fewest_l52_w v1 z.1 z.2 ?_ ?_ ?_ h
  · exact hR
  · exact hL25
  · exact (fun z4 s9 h => h)
noncomputable def Md_fewest_l4 (x1 : Int32) (x2 : Int32) (s : MS) : Option ((Int32 × MS) ⊕ (Int32 × MS)) :=
  if (9 : Int32) ≤ x2 then (xit (loop (fun z => Md_fewest_l25 z.1 z.2.1 z.2.2) (x1, (1 : Int32), s))) else (chk (inb x2 9) (bnd (pa s 27 x2.toNatClampNeg (0 : Int32)) fun s1 => bnd (x2 + (1 : Int32)) fun v2 => some (.inl (v2, s1))))
theorem Md_fewest_l4_w {l : Launch} {D : va_G} {cI cZ cJ : ClassId} {ad : Nat → Nat} (x1 x2 : Int32) (s : MS) {Q : Int32 → MS → Prop} {Post : ((Int32 × MS) ⊕ (Int32 × MS)) → Prop} (hR : ∀ (r9 : Int32) (s9 : MS), Post (.inr ((r9, s9))) → Q r9 s9) (hL4 : ∀ (z2 : Int32) (s9 : MS), Post (.inl (z2, s9)) → G (XM l D cI cZ cJ ad) "SmallHarbourModel" b_Md_fewest 5 (some .int) 1 4 [(0, .ref (ad 0)), (1, .int x1), (2, .int z2)] [] s9 Q) (h : Ok (Md_fewest_l4 x1 x2 s) Post) : G (XM l D cI cZ cJ ad) "SmallHarbourModel" b_Md_fewest 5 (some .int) 1 4 [(0, .ref (ad 0)), (1, .int x1), (2, .int x2)] [] s Q := by
  unfold Md_fewest_l4 at h
  refine G_iload_n d_Md_fewest_4 rfl 2 rfl ?_
  refine G_bipush d_Md_fewest_5 lt_bipush_9 ?_
  refine G_icmp_ge (tgt := 23) d_Md_fewest_7 (by decide) (fun c => ?_) (fun c => ?_)
  · replace h := Ok_t c h
    replace h := Ok_xit h
    refine G_iconst d_Md_fewest_23 lt_iconst_1 ?_
    refine G_istore_n d_Md_fewest_24 rfl (Nat.le_of_ble_eq_true rfl) (fun x => [(2, .int x), (0, .ref (ad 0)), (1, .int x1)]) (fun _ => rfl) (fun x e => ?_)
    subst e
    refine G_lv [1, 2, 0] rfl ?_
    refine G_loop (J := (fun z => G (XM l D cI cZ cJ ad) "SmallHarbourModel" b_Md_fewest 5 (some .int) 1 25 [(0, .ref (ad 0)), (1, .int (z.1)), (2, .int (z.2.1))] [] z.2.2 Q)) (fun z h => ?_) (x1, (1 : Int32), s) h
    refine Md_fewest_l25_w z.1 z.2.1 z.2.2 ?_ ?_ h
    · exact hR
    · exact (fun z1 z2 s9 h => h)
  replace h := Ok_f c h
  refine G_aload_n d_Md_fewest_10 rfl 0 rfl ?_
  refine gm_Md_laneOf d_Md_fewest_11 w_882 ?_
  refine G_iload_n d_Md_fewest_14 rfl 2 rfl ?_
  refine G_iconst d_Md_fewest_15 lt_iconst_0 ?_
  refine sm_27 d_Md_fewest_16 (Ok_ld h).1 (fun s1 e => ?_)
  replace h := (Ok_ld h).2 s1 e
  clear e
  refine G_iinc d_Md_fewest_17 2 rfl lt_iconst_1 rfl (Nat.le_of_ble_eq_true rfl) (fun x => [(2, .int x), (0, .ref (ad 0)), (1, .int x1)]) (fun _ => rfl) (fun v2 e => ?_)
  replace h := Ok_bnd h v2 e
  clear e
  refine G_goto (tgt := 4) d_Md_fewest_20 (by decide) ?_
  refine G_lv [1, 2, 0] rfl ?_
  replace h := Ok_some h
  exact hL4 v2 s1 h
noncomputable def f_Md_fewest (s : MS) : Option (Int32 × MS) :=
  loop (fun z => Md_fewest_l4 (-1 : Int32) z.1 z.2) ((0 : Int32), s)
theorem f_Md_fewest_w {l : Launch} {D : va_G} {cI cZ cJ : ClassId} {ad : Nat → Nat} (s : MS) {Q : Int32 → MS → Prop} {Post : (Int32 × MS) → Prop} (hR : ∀ (r9 : Int32) (s9 : MS), Post ((r9, s9)) → Q r9 s9) (h : Ok (f_Md_fewest s) Post) : G (XM l D cI cZ cJ ad) "SmallHarbourModel" b_Md_fewest 5 (some .int) 1 0 [(0, .ref (ad 0))] [] s Q := by
  unfold f_Md_fewest at h
  refine G_iconst d_Md_fewest_0 lt_iconst_m1 ?_
  refine G_istore_n d_Md_fewest_1 rfl (Nat.le_of_ble_eq_true rfl) (fun x => [(1, .int x), (0, .ref (ad 0))]) (fun _ => rfl) (fun x e => ?_)
  subst e
  refine G_iconst d_Md_fewest_2 lt_iconst_0 ?_
  refine G_istore_n d_Md_fewest_3 rfl (Nat.le_of_ble_eq_true rfl) (fun x => [(2, .int x), (1, .int (-1 : Int32)), (0, .ref (ad 0))]) (fun _ => rfl) (fun x e => ?_)
  subst e
  refine G_lv [2, 1, 0] rfl ?_
  refine G_loop (J := (fun z => G (XM l D cI cZ cJ ad) "SmallHarbourModel" b_Md_fewest 5 (some .int) 1 4 [(0, .ref (ad 0)), (1, .int (-1 : Int32)), (2, .int (z.1))] [] z.2 Q)) (fun z h => ?_) ((0 : Int32), s) h
  refine Md_fewest_l4_w (-1 : Int32) z.1 z.2 ?_ ?_ h
  · exact hR
  · exact (fun z2 s9 h => h)
theorem c_Md_fewest {l : Launch} {D : va_G} {cI cZ cJ : ClassId} {ad : Nat → Nat} (s : MS) {P : Int32 → MS → Prop} (h : Ok2 (f_Md_fewest  s) P) : Ct (XM l D cI cZ cJ ad) y_Md_fewest b_Md_fewest 5 (some .int) 1 [.ref (ad 0)] s (P) :=
  Ct.of mi_Md_fewest (Nat.le_of_ble_eq_true rfl) (f_Md_fewest_w  s (Post := fun q => P q.1 q.2) (fun _ _ h => h) (Ok2_ok h))
-- Md_firstNight
noncomputable def f_Md_firstNight (a1 : Int32) (s : MS) : Option Int32 :=
  chk (inb a1 12) (bnd (s.2 14 a1.toNatClampNeg) fun v1 => chk (inb v1 40) (bnd (s.2 12 v1.toNatClampNeg) fun v2 => if (s.1 8) ≤ v2 then (chk (inb a1 12) (bnd (s.2 14 a1.toNatClampNeg) fun v3 => chk (inb v3 40) (bnd (s.2 12 v3.toNatClampNeg) fun v4 => some v4))) else (some (s.1 8))))
theorem f_Md_firstNight_w {l : Launch} {D : va_G} {cI cZ cJ : ClassId} {ad : Nat → Nat} (a1 : Int32) (s : MS) {Q : Int32 → MS → Prop} {Post : Int32 → Prop} (hR : ∀ (r9 : Int32), Post (r9) → Q r9 s) (h : Ok (f_Md_firstNight a1 s) Post) : G (XM l D cI cZ cJ ad) "SmallHarbourModel" b_Md_firstNight 2 (some .int) 0 0 [(0, .ref (ad 0)), (1, .int a1)] [] s Q := by
  unfold f_Md_firstNight at h
  refine G_aload_n d_Md_firstNight_0 rfl 0 rfl ?_
  refine gm_Md_stayFrom d_Md_firstNight_1 w_853 ?_
  refine G_aload_n d_Md_firstNight_4 rfl 0 rfl ?_
  refine gm_Md_these d_Md_firstNight_5 w_855 ?_
  refine G_iload_n d_Md_firstNight_8 rfl 1 rfl ?_
  refine lm_14 d_Md_firstNight_9 (Ok_ld h).1 (fun v1 e => ?_)
  replace h := (Ok_ld h).2 v1 e
  clear e
  refine lm_12 d_Md_firstNight_10 (Ok_ld h).1 (fun v2 e => ?_)
  replace h := (Ok_ld h).2 v2 e
  clear e
  refine G_aload_n d_Md_firstNight_11 rfl 0 rfl ?_
  refine gm_Md_comesOn d_Md_firstNight_12 w_861 ?_
  refine G_icmp_ge (tgt := 25) d_Md_firstNight_15 (by decide) (fun c => ?_) (fun c => ?_)
  · replace h := Ok_t c h
    refine G_aload_n d_Md_firstNight_25 rfl 0 rfl ?_
    refine gm_Md_stayFrom d_Md_firstNight_26 w_853 ?_
    refine G_aload_n d_Md_firstNight_29 rfl 0 rfl ?_
    refine gm_Md_these d_Md_firstNight_30 w_855 ?_
    refine G_iload_n d_Md_firstNight_33 rfl 1 rfl ?_
    refine lm_14 d_Md_firstNight_34 (Ok_ld h).1 (fun v3 e => ?_)
    replace h := (Ok_ld h).2 v3 e
    clear e
    refine lm_12 d_Md_firstNight_35 (Ok_ld h).1 (fun v4 e => ?_)
    replace h := (Ok_ld h).2 v4 e
    clear e
    replace h := Ok_some h
    exact G_iret rfl (vp_nar_int _) d_Md_firstNight_36 (hR _ h)
  replace h := Ok_f c h
  refine G_aload_n d_Md_firstNight_18 rfl 0 rfl ?_
  refine gm_Md_comesOn d_Md_firstNight_19 w_861 ?_
  refine G_goto (tgt := 36) d_Md_firstNight_22 (by decide) ?_
  replace h := Ok_some h
  exact G_iret rfl (vp_nar_int _) d_Md_firstNight_36 (hR _ h)
theorem c_Md_firstNight {l : Launch} {D : va_G} {cI cZ cJ : ClassId} {ad : Nat → Nat} (a1 : Int32) (s : MS) {P : Int32 → Prop} (h : Ok (f_Md_firstNight a1 s) P) : Ct (XM l D cI cZ cJ ad) y_Md_firstNight b_Md_firstNight 2 (some .int) 0 [.ref (ad 0), .int a1] s (fun r9 s9 => s9 = s ∧ P r9) :=
  Ct.of mi_Md_firstNight (Nat.le_of_ble_eq_true rfl) (f_Md_firstNight_w a1 s (fun _ h => ⟨rfl, h⟩) h)
-- Md_fits
noncomputable def f_Md_fits (a1 a2 a3 : Int32) (s : MS) : Option Int32 :=
  (f_Md_isBoat a1 s).bind fun v1 => if v1 = 0 then (some (-1 : Int32)) else ((f_Md_isIn a2 (0 : Int32) ((s.1 1) - (1 : Int32))).bind fun v2 => if v2 = 0 then (some (-1 : Int32)) else ((f_Md_isIn a3 (0 : Int32) (399 : Int32)).bind fun v3 => if v3 = 0 then (some (-1 : Int32)) else (chk (inb a1 30) (bnd (s.2 3 a1.toNatClampNeg) fun v4 => chk (inb a1 30) (bnd (s.2 4 a1.toNatClampNeg) fun v5 => (f_Md_isFit v4 v5 a2 a3 s).bind fun v6 => if v6 = 0 then (some (0 : Int32)) else (some (1 : Int32)))))))
theorem f_Md_fits_w {l : Launch} {D : va_G} {cI cZ cJ : ClassId} {ad : Nat → Nat} (a1 a2 a3 : Int32) (s : MS) {Q : Int32 → MS → Prop} {Post : Int32 → Prop} (hR : ∀ (r9 : Int32), Post (r9) → Q r9 s) (h : Ok (f_Md_fits a1 a2 a3 s) Post) : G (XM l D cI cZ cJ ad) "SmallHarbourModel" b_Md_fits 4 (some .int) 2 0 [(0, .ref (ad 0)), (1, .int a1), (2, .int a2), (3, .int a3)] [] s Q := by
  unfold f_Md_fits at h
  refine G_aload_n d_Md_fits_0 rfl 0 rfl ?_
  refine G_iload_n d_Md_fits_1 rfl 1 rfl ?_
  refine G_callVp (st := []) (As := [.int a1]) (b := ad 0) d_Md_fits_2 mi_Md_isBoat w_1076 0 rfl rfl mv_Md_isBoat rfl (Nat.le_of_ble_eq_true rfl) (by decide) (c_Md_isBoat a1 s (Ok_bind h)) (fun v1 h hnv1 => ?_)
  refine G_if_eq (tgt := 33) d_Md_fits_5 (by decide) (fun c => ?_) (fun c => ?_)
  · replace h := Ok_t c h
    refine G_iconst d_Md_fits_33 lt_iconst_m1 ?_
    replace h := Ok_some h
    exact G_iret rfl (vp_nar_int _) d_Md_fits_34 (hR _ h)
  replace h := Ok_f c h
  refine G_iload_n d_Md_fits_8 rfl 2 rfl ?_
  refine G_iconst d_Md_fits_9 lt_iconst_0 ?_
  refine G_aload_n d_Md_fits_10 rfl 0 rfl ?_
  refine gm_Md_berths d_Md_fits_11 w_838 ?_
  refine G_iconst d_Md_fits_14 lt_iconst_1 ?_
  refine G_isub d_Md_fits_15 ?_
  refine G_callSp (st := []) (As := [.int a2, .int (0 : Int32), .int ((s.1 1) - (1 : Int32))]) d_Md_fits_16 mi_Md_isIn w_1045 w_1046 rfl (Nat.le_of_ble_eq_true rfl) (by decide) (c_Md_isIn a2 (0 : Int32) ((s.1 1) - (1 : Int32)) s (Ok_bind h)) (fun v2 h hnv2 => ?_)
  refine G_if_eq (tgt := 33) d_Md_fits_19 (by decide) (fun c => ?_) (fun c => ?_)
  · replace h := Ok_t c h
    refine G_iconst d_Md_fits_33 lt_iconst_m1 ?_
    replace h := Ok_some h
    exact G_iret rfl (vp_nar_int _) d_Md_fits_34 (hR _ h)
  replace h := Ok_f c h
  refine G_iload_n d_Md_fits_22 rfl 3 rfl ?_
  refine G_iconst d_Md_fits_23 lt_iconst_0 ?_
  refine G_sipush d_Md_fits_24 lt_sipush_399 ?_
  refine G_callSp (st := []) (As := [.int a3, .int (0 : Int32), .int (399 : Int32)]) d_Md_fits_27 mi_Md_isIn w_1045 w_1046 rfl (Nat.le_of_ble_eq_true rfl) (by decide) (c_Md_isIn a3 (0 : Int32) (399 : Int32) s (Ok_bind h)) (fun v3 h hnv3 => ?_)
  refine G_if_ne (tgt := 35) d_Md_fits_30 (by decide) (fun c => ?_) (fun c => ?_)
  · replace h := Ok_f c h
    refine G_aload_n d_Md_fits_35 rfl 0 rfl ?_
    refine G_aload_n d_Md_fits_36 rfl 0 rfl ?_
    refine gm_Md_length d_Md_fits_37 w_842 ?_
    refine G_iload_n d_Md_fits_40 rfl 1 rfl ?_
    refine lm_3 d_Md_fits_41 (Ok_ld h).1 (fun v4 e => ?_)
    replace h := (Ok_ld h).2 v4 e
    clear e
    refine G_aload_n d_Md_fits_42 rfl 0 rfl ?_
    refine gm_Md_draught d_Md_fits_43 w_843 ?_
    refine G_iload_n d_Md_fits_46 rfl 1 rfl ?_
    refine lm_4 d_Md_fits_47 (Ok_ld h).1 (fun v5 e => ?_)
    replace h := (Ok_ld h).2 v5 e
    clear e
    refine G_iload_n d_Md_fits_48 rfl 2 rfl ?_
    refine G_iload_n d_Md_fits_49 rfl 3 rfl ?_
    refine G_callVp (st := []) (As := [.int v4, .int v5, .int a2, .int a3]) (b := ad 0) d_Md_fits_50 mi_Md_isFit w_1068 0 rfl rfl mv_Md_isFit rfl (Nat.le_of_ble_eq_true rfl) (by decide) (c_Md_isFit v4 v5 a2 a3 s (Ok_bind h)) (fun v6 h hnv6 => ?_)
    refine G_if_eq (tgt := 60) d_Md_fits_53 (by decide) (fun c => ?_) (fun c => ?_)
    · replace h := Ok_t c h
      refine G_iconst d_Md_fits_60 lt_iconst_0 ?_
      replace h := Ok_some h
      exact G_iret rfl (vp_nar_int _) d_Md_fits_61 (hR _ h)
    replace h := Ok_f c h
    refine G_iconst d_Md_fits_56 lt_iconst_1 ?_
    refine G_goto (tgt := 61) d_Md_fits_57 (by decide) ?_
    replace h := Ok_some h
    exact G_iret rfl (vp_nar_int _) d_Md_fits_61 (hR _ h)
  replace h := Ok_t c h
  refine G_iconst d_Md_fits_33 lt_iconst_m1 ?_
  replace h := Ok_some h
  exact G_iret rfl (vp_nar_int _) d_Md_fits_34 (hR _ h)
theorem c_Md_fits {l : Launch} {D : va_G} {cI cZ cJ : ClassId} {ad : Nat → Nat} (a1 a2 a3 : Int32) (s : MS) {P : Int32 → Prop} (h : Ok (f_Md_fits a1 a2 a3 s) P) : Ct (XM l D cI cZ cJ ad) y_Md_fits b_Md_fits 4 (some .int) 2 [.ref (ad 0), .int a1, .int a2, .int a3] s (fun r9 s9 => s9 = s ∧ P r9) :=
  Ct.of mi_Md_fits (Nat.le_of_ble_eq_true rfl) (f_Md_fits_w a1 a2 a3 s (fun _ h => ⟨rfl, h⟩) h)
