-- Md_read
noncomputable def Md_read_j54 (t0 : Int32) (s : MS) : Option ((MS) ⊕ (Int32 × MS)) :=
  if t0 = 0 then (bnd (pf s 30 ((s.1 30) + (1 : Int32))) fun s1 => (f_Md_nextToken s1).bind fun s2 => some (.inl s2)) else (xit (some (t0, s)))
theorem Md_read_j54_w {l : Launch} {D : va_G} {cI cZ cJ : ClassId} {ad : Nat → Nat} (t0 : Int32) (s : MS) {Q : Int32 → MS → Prop} {Post : ((MS) ⊕ (Int32 × MS)) → Prop} (hR : ∀ (r9 : Int32) (s9 : MS), Post (.inr ((r9, s9))) → Q r9 s9) (hL29 : ∀ (s9 : MS), Post (.inl s9) → G (XM l D cI cZ cJ ad) "SmallHarbourModel" b_Md_read 2 (some .int) 4 29 [(0, .ref (ad 0))] [] s9 Q) (h : Ok (Md_read_j54 t0 s) Post) : G (XM l D cI cZ cJ ad) "SmallHarbourModel" b_Md_read 2 (some .int) 4 54 [(0, .ref (ad 0))] [.int t0] s Q := by
  unfold Md_read_j54 at h
  refine G_istore_n d_Md_read_54 rfl (Nat.le_of_ble_eq_true rfl) (fun x => [(1, .int x), (0, .ref (ad 0))]) (fun _ => rfl) (fun x e => ?_)
  subst e
  refine G_iload_n d_Md_read_55 rfl 0 rfl ?_
  refine G_if_eq (tgt := 61) d_Md_read_56 (by decide) (fun c => ?_) (fun c => ?_)
  · replace h := Ok_t c h
    refine G_aload_n d_Md_read_61 rfl 1 rfl ?_
    refine G_dup d_Md_read_62 rfl ?_
    refine gm_Md_tokens d_Md_read_63 w_901 ?_
    refine G_iconst d_Md_read_66 lt_iconst_1 ?_
    refine G_iadd d_Md_read_67 ?_
    refine pm_Md_tokens d_Md_read_68 w_901 (fun s1 e => ?_)
    replace h := Ok_bnd h s1 e
    clear e
    refine G_aload_n d_Md_read_71 rfl 1 rfl ?_
    refine G_callVv (st := []) (As := []) (b := ad 0) d_Md_read_72 mi_Md_nextToken w_1248 0 rfl rfl mv_Md_nextToken rfl (Nat.le_of_ble_eq_true rfl) (by decide) (c_Md_nextToken  s1 (Ok_bind h)) (fun s2 h => ?_)
    refine G_goto (tgt := 29) d_Md_read_75 (by decide) ?_
    refine G_lv [1] rfl ?_
    replace h := Ok_some h
    exact hL29 s2 h
  replace h := Ok_f c h
  replace h := Ok_xit h
  refine G_iload_n d_Md_read_59 rfl 0 rfl ?_
  replace h := Ok_some h
  exact G_iret rfl (vp_nar_int _) d_Md_read_60 (hR _ _ h)
noncomputable def Md_read_l29 (s : MS) : Option ((MS) ⊕ (Int32 × MS)) :=
  if (s.1 22) = 0 then (xit (if (s.1 31) = 0 then (bd2 (f_Md_through s) fun v1 s2 => if v1 = 0 then (some ((0 : Int32), s2)) else (some ((1 : Int32), s2))) else (some ((1 : Int32), s)))) else (if (s.1 31) = 0 then (bd2 (f_Md_behind s) fun v3 s4 => Md_read_j54 v3 s4) else (bd2 (f_Md_part s) fun v5 s6 => Md_read_j54 v5 s6))
theorem Md_read_l29_w {l : Launch} {D : va_G} {cI cZ cJ : ClassId} {ad : Nat → Nat} (s : MS) {Q : Int32 → MS → Prop} {Post : ((MS) ⊕ (Int32 × MS)) → Prop} (hR : ∀ (r9 : Int32) (s9 : MS), Post (.inr ((r9, s9))) → Q r9 s9) (hL29 : ∀ (s9 : MS), Post (.inl s9) → G (XM l D cI cZ cJ ad) "SmallHarbourModel" b_Md_read 2 (some .int) 4 29 [(0, .ref (ad 0))] [] s9 Q) (h : Ok (Md_read_l29 s) Post) : G (XM l D cI cZ cJ ad) "SmallHarbourModel" b_Md_read 2 (some .int) 4 29 [(0, .ref (ad 0))] [] s Q := by
  unfold Md_read_l29 at h
  refine G_aload_n d_Md_read_29 rfl 0 rfl ?_
  refine gm_Md_kind d_Md_read_30 w_888 ?_
  refine G_if_eq (tgt := 78) d_Md_read_33 (by decide) (fun c => ?_) (fun c => ?_)
  · replace h := Ok_t c h
    replace h := Ok_xit h
    refine G_aload_n d_Md_read_78 rfl 0 rfl ?_
    refine gm_Md_wantsPart d_Md_read_79 w_902 ?_
    refine G_if_ne (tgt := 92) d_Md_read_82 (by decide) (fun c => ?_) (fun c => ?_)
    · replace h := Ok_f c h
      refine G_iconst d_Md_read_92 lt_iconst_1 ?_
      refine G_goto (tgt := 97) d_Md_read_93 (by decide) ?_
      replace h := Ok_some h
      exact G_iret rfl (vp_nar_int _) d_Md_read_97 (hR _ _ h)
    replace h := Ok_t c h
    refine G_aload_n d_Md_read_85 rfl 0 rfl ?_
    refine G_callVi (st := []) (As := []) (b := ad 0) d_Md_read_86 mi_Md_through w_1308 0 rfl rfl mv_Md_through rfl (Nat.le_of_ble_eq_true rfl) (by decide) (c_Md_through  s (Ok_bd2 h)) (fun v1 s2 h hnv1 => ?_)
    refine G_if_eq (tgt := 96) d_Md_read_89 (by decide) (fun c => ?_) (fun c => ?_)
    · replace h := Ok_t c h
      refine G_iconst d_Md_read_96 lt_iconst_0 ?_
      replace h := Ok_some h
      exact G_iret rfl (vp_nar_int _) d_Md_read_97 (hR _ _ h)
    replace h := Ok_f c h
    refine G_iconst d_Md_read_92 lt_iconst_1 ?_
    refine G_goto (tgt := 97) d_Md_read_93 (by decide) ?_
    replace h := Ok_some h
    exact G_iret rfl (vp_nar_int _) d_Md_read_97 (hR _ _ h)
  replace h := Ok_f c h
  refine G_aload_n d_Md_read_36 rfl 0 rfl ?_
  refine gm_Md_wantsPart d_Md_read_37 w_902 ?_
  refine G_if_eq (tgt := 50) d_Md_read_40 (by decide) (fun c => ?_) (fun c => ?_)
  · replace h := Ok_t c h
    refine G_aload_n d_Md_read_50 rfl 0 rfl ?_
    refine G_callVi (st := []) (As := []) (b := ad 0) d_Md_read_51 mi_Md_behind w_1300 0 rfl rfl mv_Md_behind rfl (Nat.le_of_ble_eq_true rfl) (by decide) (c_Md_behind  s (Ok_bd2 h)) (fun v3 s4 h hnv3 => ?_)
    refine Md_read_j54_w v3 s4 ?_ ?_ h
    · exact hR
    · exact hL29
  replace h := Ok_f c h
  refine G_aload_n d_Md_read_43 rfl 0 rfl ?_
  refine G_callVi (st := []) (As := []) (b := ad 0) d_Md_read_44 mi_Md_part w_1272 0 rfl rfl mv_Md_part rfl (Nat.le_of_ble_eq_true rfl) (by decide) (c_Md_part  s (Ok_bd2 h)) (fun v5 s6 h hnv5 => ?_)
  refine G_goto (tgt := 54) d_Md_read_47 (by decide) ?_
  refine Md_read_j54_w v5 s6 ?_ ?_ h
  · exact hR
  · exact hL29
noncomputable def f_Md_read (s : MS) : Option (Int32 × MS) :=
  bnd (pf s 20 (0 : Int32)) fun s1 => bnd (pf s1 28 (0 : Int32)) fun s2 => bnd (pf s2 29 (0 : Int32)) fun s3 => bnd (pf s3 30 (0 : Int32)) fun s4 => bnd (pf s4 31 (1 : Int32)) fun s5 => (f_Md_nextToken s5).bind fun s6 => loop (fun z => Md_read_l29 z) s6
theorem f_Md_read_w {l : Launch} {D : va_G} {cI cZ cJ : ClassId} {ad : Nat → Nat} (s : MS) {Q : Int32 → MS → Prop} {Post : (Int32 × MS) → Prop} (hR : ∀ (r9 : Int32) (s9 : MS), Post ((r9, s9)) → Q r9 s9) (h : Ok (f_Md_read s) Post) : G (XM l D cI cZ cJ ad) "SmallHarbourModel" b_Md_read 2 (some .int) 4 0 [(0, .ref (ad 0))] [] s Q := by
  unfold f_Md_read at h
  refine G_aload_n d_Md_read_0 rfl 0 rfl ?_
  refine G_iconst d_Md_read_1 lt_iconst_0 ?_
  refine pm_Md_at d_Md_read_2 w_886 (fun s1 e => ?_)
  replace h := Ok_bnd h s1 e
  clear e
  refine G_aload_n d_Md_read_5 rfl 0 rfl ?_
  refine G_iconst d_Md_read_6 lt_iconst_0 ?_
  refine pm_Md_opens d_Md_read_7 w_899 (fun s2 e => ?_)
  replace h := Ok_bnd h s2 e
  clear e
  refine G_aload_n d_Md_read_10 rfl 0 rfl ?_
  refine G_iconst d_Md_read_11 lt_iconst_0 ?_
  refine pm_Md_nest d_Md_read_12 w_900 (fun s3 e => ?_)
  replace h := Ok_bnd h s3 e
  clear e
  refine G_aload_n d_Md_read_15 rfl 0 rfl ?_
  refine G_iconst d_Md_read_16 lt_iconst_0 ?_
  refine pm_Md_tokens d_Md_read_17 w_901 (fun s4 e => ?_)
  replace h := Ok_bnd h s4 e
  clear e
  refine G_aload_n d_Md_read_20 rfl 0 rfl ?_
  refine G_iconst d_Md_read_21 lt_iconst_1 ?_
  refine pm_Md_wantsPart d_Md_read_22 w_902 rfl rfl (fun s5 e => ?_)
  replace h := Ok_bnd h s5 e
  clear e
  refine G_aload_n d_Md_read_25 rfl 0 rfl ?_
  refine G_callVv (st := []) (As := []) (b := ad 0) d_Md_read_26 mi_Md_nextToken w_1248 0 rfl rfl mv_Md_nextToken rfl (Nat.le_of_ble_eq_true rfl) (by decide) (c_Md_nextToken  s5 (Ok_bind h)) (fun s6 h => ?_)
  refine G_loop (J := (fun z => G (XM l D cI cZ cJ ad) "SmallHarbourModel" b_Md_read 2 (some .int) 4 29 [(0, .ref (ad 0))] [] z Q)) (fun z h => ?_) s6 h
  refine Md_read_l29_w z ?_ ?_ h
  · exact hR
  · exact (fun s9 h => h)
theorem c_Md_read {l : Launch} {D : va_G} {cI cZ cJ : ClassId} {ad : Nat → Nat} (s : MS) {P : Int32 → MS → Prop} (h : Ok2 (f_Md_read  s) P) : Ct (XM l D cI cZ cJ ad) y_Md_read b_Md_read 2 (some .int) 4 [.ref (ad 0)] s (P) :=
  Ct.of mi_Md_read (Nat.le_of_ble_eq_true rfl) (f_Md_read_w  s (Post := fun q => P q.1 q.2) (fun _ _ h => h) (Ok2_ok h))
-- Md_rule
noncomputable def Md_rule_j59 (x1 t0 : Int32) (s : MS) : Option (Int32 × MS) :=
  bnd (pf s 27 t0) fun s1 => bnd (pf s1 19 (0 : Int32)) fun s2 => if (s2.1 26) = 0 then (chk (inb (s2.1 24) 8) (bnd (pa s2 30 (s2.1 24).toNatClampNeg x1) fun s3 => bnd (pf s3 24 ((s3.1 24) + (1 : Int32))) fun s4 => chk (inb (s4.1 24) 9) (bnd (pa s4 31 (s4.1 24).toNatClampNeg (s4.1 25)) fun s5 => some (((s5.1 24) - (1 : Int32)), s5)))) else (some ((-1 : Int32), s2))
theorem Md_rule_j59_w {l : Launch} {D : va_G} {cI cZ cJ : ClassId} {ad : Nat → Nat} (x1 t0 : Int32) (s : MS) {Q : Int32 → MS → Prop} {Post : (Int32 × MS) → Prop} (hR : ∀ (r9 : Int32) (s9 : MS), Post ((r9, s9)) → Q r9 s9) (h : Ok (Md_rule_j59 x1 t0 s) Post) : G (XM l D cI cZ cJ ad) "SmallHarbourModel" b_Md_rule 2 (some .int) 5 59 [(0, .ref (ad 0)), (1, .int x1)] [.int t0, .ref (ad 0)] s Q := by
  unfold Md_rule_j59 at h
  refine pm_Md_faultPlace d_Md_rule_59 w_897 (fun s1 e => ?_)
  replace h := Ok_bnd h s1 e
  clear e
  refine G_aload_n d_Md_rule_62 rfl 0 rfl ?_
  refine G_iconst d_Md_rule_63 lt_iconst_0 ?_
  refine pm_Md_taped d_Md_rule_64 w_885 (fun s2 e => ?_)
  replace h := Ok_bnd h s2 e
  clear e
  refine G_aload_n d_Md_rule_67 rfl 0 rfl ?_
  refine gm_Md_fault d_Md_rule_68 w_896 ?_
  refine G_if_eq (tgt := 76) d_Md_rule_71 (by decide) (fun c => ?_) (fun c => ?_)
  · replace h := Ok_t c h
    refine G_aload_n d_Md_rule_76 rfl 0 rfl ?_
    refine gm_Md_ruleDay d_Md_rule_77 w_891 ?_
    refine G_aload_n d_Md_rule_80 rfl 0 rfl ?_
    refine gm_Md_rules d_Md_rule_81 w_890 ?_
    refine G_iload_n d_Md_rule_84 rfl 1 rfl ?_
    refine sm_30 d_Md_rule_85 (Ok_ld h).1 (fun s3 e => ?_)
    replace h := (Ok_ld h).2 s3 e
    clear e
    refine G_aload_n d_Md_rule_86 rfl 0 rfl ?_
    refine G_dup d_Md_rule_87 rfl ?_
    refine gm_Md_rules d_Md_rule_88 w_890 ?_
    refine G_iconst d_Md_rule_91 lt_iconst_1 ?_
    refine G_iadd d_Md_rule_92 ?_
    refine pm_Md_rules d_Md_rule_93 w_890 (fun s4 e => ?_)
    replace h := Ok_bnd h s4 e
    clear e
    refine G_aload_n d_Md_rule_96 rfl 0 rfl ?_
    refine gm_Md_ruleFrom d_Md_rule_97 w_892 ?_
    refine G_aload_n d_Md_rule_100 rfl 0 rfl ?_
    refine gm_Md_rules d_Md_rule_101 w_890 ?_
    refine G_aload_n d_Md_rule_104 rfl 0 rfl ?_
    refine gm_Md_signs d_Md_rule_105 w_895 ?_
    refine sm_31 d_Md_rule_108 (Ok_ld h).1 (fun s5 e => ?_)
    replace h := (Ok_ld h).2 s5 e
    clear e
    refine G_aload_n d_Md_rule_109 rfl 0 rfl ?_
    refine gm_Md_rules d_Md_rule_110 w_890 ?_
    refine G_iconst d_Md_rule_113 lt_iconst_1 ?_
    refine G_isub d_Md_rule_114 ?_
    replace h := Ok_some h
    exact G_iret rfl (vp_nar_int _) d_Md_rule_115 (hR _ _ h)
  replace h := Ok_f c h
  refine G_iconst d_Md_rule_74 lt_iconst_m1 ?_
  replace h := Ok_some h
  exact G_iret rfl (vp_nar_int _) d_Md_rule_75 (hR _ _ h)
noncomputable def f_Md_rule (a1 : Int32) (s : MS) : Option (Int32 × MS) :=
  (f_Md_isIn a1 (0 : Int32) (399 : Int32)).bind fun v1 => if v1 = 0 then (some ((-1 : Int32), s)) else (if (s.1 24) = (8 : Int32) then (some ((-1 : Int32), s)) else (chk (inb (s.1 24) 9) (bnd (s.2 31 (s.1 24).toNatClampNeg) fun v2 => bnd (pf s 25 v2) fun s3 => bd2 (f_Md_read s3) fun v4 s5 => bnd (pf s5 26 v4) fun s6 => if (s6.1 26) = 0 then (Md_rule_j59 a1 (-1 : Int32) s6) else (Md_rule_j59 a1 (s6.1 21) s6))))
theorem f_Md_rule_w {l : Launch} {D : va_G} {cI cZ cJ : ClassId} {ad : Nat → Nat} (a1 : Int32) (s : MS) {Q : Int32 → MS → Prop} {Post : (Int32 × MS) → Prop} (hR : ∀ (r9 : Int32) (s9 : MS), Post ((r9, s9)) → Q r9 s9) (h : Ok (f_Md_rule a1 s) Post) : G (XM l D cI cZ cJ ad) "SmallHarbourModel" b_Md_rule 2 (some .int) 5 0 [(0, .ref (ad 0)), (1, .int a1)] [] s Q := by
  unfold f_Md_rule at h
  refine G_iload_n d_Md_rule_0 rfl 1 rfl ?_
  refine G_iconst d_Md_rule_1 lt_iconst_0 ?_
  refine G_sipush d_Md_rule_2 lt_sipush_399 ?_
  refine G_callSp (st := []) (As := [.int a1, .int (0 : Int32), .int (399 : Int32)]) d_Md_rule_5 mi_Md_isIn w_1045 w_1046 rfl (Nat.le_of_ble_eq_true rfl) (by decide) (c_Md_isIn a1 (0 : Int32) (399 : Int32) s (Ok_bind h)) (fun v1 h hnv1 => ?_)
  refine G_if_eq (tgt := 20) d_Md_rule_8 (by decide) (fun c => ?_) (fun c => ?_)
  · replace h := Ok_t c h
    refine G_iconst d_Md_rule_20 lt_iconst_m1 ?_
    replace h := Ok_some h
    exact G_iret rfl (vp_nar_int _) d_Md_rule_21 (hR _ _ h)
  replace h := Ok_f c h
  refine G_aload_n d_Md_rule_11 rfl 0 rfl ?_
  refine gm_Md_rules d_Md_rule_12 w_890 ?_
  refine G_bipush d_Md_rule_15 lt_bipush_8 ?_
  refine G_icmp_ne (tgt := 22) d_Md_rule_17 (by decide) (fun c => ?_) (fun c => ?_)
  · replace h := Ok_f c h
    refine G_aload_n d_Md_rule_22 rfl 0 rfl ?_
    refine G_aload_n d_Md_rule_23 rfl 0 rfl ?_
    refine gm_Md_ruleFrom d_Md_rule_24 w_892 ?_
    refine G_aload_n d_Md_rule_27 rfl 0 rfl ?_
    refine gm_Md_rules d_Md_rule_28 w_890 ?_
    refine lm_31 d_Md_rule_31 (Ok_ld h).1 (fun v2 e => ?_)
    replace h := (Ok_ld h).2 v2 e
    clear e
    refine pm_Md_signs d_Md_rule_32 w_895 (fun s3 e => ?_)
    replace h := Ok_bnd h s3 e
    clear e
    refine G_aload_n d_Md_rule_35 rfl 0 rfl ?_
    refine G_aload_n d_Md_rule_36 rfl 0 rfl ?_
    refine G_callVi (st := [.ref (ad 0)]) (As := []) (b := ad 0) d_Md_rule_37 mi_Md_read w_1244 0 rfl rfl mv_Md_read rfl (Nat.le_of_ble_eq_true rfl) (by decide) (c_Md_read  s3 (Ok_bd2 h)) (fun v4 s5 h hnv4 => ?_)
    refine pm_Md_fault d_Md_rule_40 w_896 (fun s6 e => ?_)
    replace h := Ok_bnd h s6 e
    clear e
    refine G_aload_n d_Md_rule_43 rfl 0 rfl ?_
    refine G_aload_n d_Md_rule_44 rfl 0 rfl ?_
    refine gm_Md_fault d_Md_rule_45 w_896 ?_
    refine G_if_ne (tgt := 55) d_Md_rule_48 (by decide) (fun c => ?_) (fun c => ?_)
    · replace h := Ok_f c h
      refine G_aload_n d_Md_rule_55 rfl 0 rfl ?_
      refine gm_Md_place d_Md_rule_56 w_887 ?_
      refine Md_rule_j59_w a1 (s6.1 21) s6 ?_ h
      · exact hR
    replace h := Ok_t c h
    refine G_iconst d_Md_rule_51 lt_iconst_m1 ?_
    refine G_goto (tgt := 59) d_Md_rule_52 (by decide) ?_
    refine Md_rule_j59_w a1 (-1 : Int32) s6 ?_ h
    · exact hR
  replace h := Ok_t c h
  refine G_iconst d_Md_rule_20 lt_iconst_m1 ?_
  replace h := Ok_some h
  exact G_iret rfl (vp_nar_int _) d_Md_rule_21 (hR _ _ h)
theorem c_Md_rule {l : Launch} {D : va_G} {cI cZ cJ : ClassId} {ad : Nat → Nat} (a1 : Int32) (s : MS) {P : Int32 → MS → Prop} (h : Ok2 (f_Md_rule a1 s) P) : Ct (XM l D cI cZ cJ ad) y_Md_rule b_Md_rule 2 (some .int) 5 [.ref (ad 0), .int a1] s (P) :=
  Ct.of mi_Md_rule (Nat.le_of_ble_eq_true rfl) (f_Md_rule_w a1 s (Post := fun q => P q.1 q.2) (fun _ _ h => h) (Ok2_ok h))
-- Md_says
noncomputable def f_Md_says (a1 a2 a3 a4 : Int32) (s : MS) : Option (Int32 × MS) :=
  (f_Md_isIn a1 (0 : Int32) ((s.1 24) - (1 : Int32))).bind fun v1 => if v1 = 0 then (some ((0 : Int32), s)) else (bd2 (f_Md_work a1 a2 a3 a4 s) fun v2 s3 => some (v2, s3))
theorem f_Md_says_w {l : Launch} {D : va_G} {cI cZ cJ : ClassId} {ad : Nat → Nat} (a1 a2 a3 a4 : Int32) (s : MS) {Q : Int32 → MS → Prop} {Post : (Int32 × MS) → Prop} (hR : ∀ (r9 : Int32) (s9 : MS), Post ((r9, s9)) → Q r9 s9) (h : Ok (f_Md_says a1 a2 a3 a4 s) Post) : G (XM l D cI cZ cJ ad) "SmallHarbourModel" b_Md_says 5 (some .int) 2 0 [(0, .ref (ad 0)), (1, .int a1), (2, .int a2), (3, .int a3), (4, .int a4)] [] s Q := by
  unfold f_Md_says at h
  refine G_iload_n d_Md_says_0 rfl 1 rfl ?_
  refine G_iconst d_Md_says_1 lt_iconst_0 ?_
  refine G_aload_n d_Md_says_2 rfl 0 rfl ?_
  refine gm_Md_rules d_Md_says_3 w_890 ?_
  refine G_iconst d_Md_says_6 lt_iconst_1 ?_
  refine G_isub d_Md_says_7 ?_
  refine G_callSp (st := []) (As := [.int a1, .int (0 : Int32), .int ((s.1 24) - (1 : Int32))]) d_Md_says_8 mi_Md_isIn w_1045 w_1046 rfl (Nat.le_of_ble_eq_true rfl) (by decide) (c_Md_isIn a1 (0 : Int32) ((s.1 24) - (1 : Int32)) s (Ok_bind h)) (fun v1 h hnv1 => ?_)
  refine G_if_eq (tgt := 26) d_Md_says_11 (by decide) (fun c => ?_) (fun c => ?_)
  · replace h := Ok_t c h
    refine G_iconst d_Md_says_26 lt_iconst_0 ?_
    replace h := Ok_some h
    exact G_iret rfl (vp_nar_int _) d_Md_says_27 (hR _ _ h)
  replace h := Ok_f c h
  refine G_aload_n d_Md_says_14 rfl 0 rfl ?_
  refine G_iload_n d_Md_says_15 rfl 1 rfl ?_
  refine G_iload_n d_Md_says_16 rfl 2 rfl ?_
  refine G_iload_n d_Md_says_17 rfl 3 rfl ?_
  refine G_iload d_Md_says_18 4 rfl ?_
  refine G_callVi (st := []) (As := [.int a1, .int a2, .int a3, .int a4]) (b := ad 0) d_Md_says_20 mi_Md_work w_1165 0 rfl rfl mv_Md_work rfl (Nat.le_of_ble_eq_true rfl) (by decide) (c_Md_work a1 a2 a3 a4 s (Ok_bd2 h)) (fun v2 s3 h hnv2 => ?_)
  refine G_goto (tgt := 27) d_Md_says_23 (by decide) ?_
  replace h := Ok_some h
  exact G_iret rfl (vp_nar_int _) d_Md_says_27 (hR _ _ h)
theorem c_Md_says {l : Launch} {D : va_G} {cI cZ cJ : ClassId} {ad : Nat → Nat} (a1 a2 a3 a4 : Int32) (s : MS) {P : Int32 → MS → Prop} (h : Ok2 (f_Md_says a1 a2 a3 a4 s) P) : Ct (XM l D cI cZ cJ ad) y_Md_says b_Md_says 5 (some .int) 2 [.ref (ad 0), .int a1, .int a2, .int a3, .int a4] s (P) :=
  Ct.of mi_Md_says (Nat.le_of_ble_eq_true rfl) (f_Md_says_w a1 a2 a3 a4 s (Post := fun q => P q.1 q.2) (fun _ _ h => h) (Ok2_ok h))
-- Md_shed
noncomputable def f_Md_shed (a1 a2 : Int32) (s : MS) : Option (Int32 × MS) :=
  (f_Md_isIn a1 (1 : Int32) (4 : Int32)).bind fun v1 => if v1 = 0 then (some ((0 : Int32), s)) else ((f_Md_isIn a2 (10 : Int32) (2000 : Int32)).bind fun v2 => if v2 = 0 then (some ((0 : Int32), s)) else (bnd (pf s 16 a1) fun s3 => bnd (pf s3 17 a2) fun s4 => bnd (pf s4 18 (0 : Int32)) fun s5 => some ((1 : Int32), s5)))
theorem f_Md_shed_w {l : Launch} {D : va_G} {cI cZ cJ : ClassId} {ad : Nat → Nat} (a1 a2 : Int32) (s : MS) {Q : Int32 → MS → Prop} {Post : (Int32 × MS) → Prop} (hR : ∀ (r9 : Int32) (s9 : MS), Post ((r9, s9)) → Q r9 s9) (h : Ok (f_Md_shed a1 a2 s) Post) : G (XM l D cI cZ cJ ad) "SmallHarbourModel" b_Md_shed 3 (some .boolean) 1 0 [(0, .ref (ad 0)), (1, .int a1), (2, .int a2)] [] s Q := by
  unfold f_Md_shed at h
  refine G_iload_n d_Md_shed_0 rfl 1 rfl ?_
  refine G_iconst d_Md_shed_1 lt_iconst_1 ?_
  refine G_iconst d_Md_shed_2 lt_iconst_4 ?_
  refine G_callSp (st := []) (As := [.int a1, .int (1 : Int32), .int (4 : Int32)]) d_Md_shed_3 mi_Md_isIn w_1045 w_1046 rfl (Nat.le_of_ble_eq_true rfl) (by decide) (c_Md_isIn a1 (1 : Int32) (4 : Int32) s (Ok_bind h)) (fun v1 h hnv1 => ?_)
  refine G_if_eq (tgt := 21) d_Md_shed_6 (by decide) (fun c => ?_) (fun c => ?_)
  · replace h := Ok_t c h
    refine G_iconst d_Md_shed_21 lt_iconst_0 ?_
    replace h := Ok_some h
    exact G_iret rfl rfl d_Md_shed_22 (hR _ _ h)
  replace h := Ok_f c h
  refine G_iload_n d_Md_shed_9 rfl 2 rfl ?_
  refine G_bipush d_Md_shed_10 lt_bipush_10 ?_
  refine G_sipush d_Md_shed_12 lt_sipush_2000 ?_
  refine G_callSp (st := []) (As := [.int a2, .int (10 : Int32), .int (2000 : Int32)]) d_Md_shed_15 mi_Md_isIn w_1045 w_1046 rfl (Nat.le_of_ble_eq_true rfl) (by decide) (c_Md_isIn a2 (10 : Int32) (2000 : Int32) s (Ok_bind h)) (fun v2 h hnv2 => ?_)
  refine G_if_ne (tgt := 23) d_Md_shed_18 (by decide) (fun c => ?_) (fun c => ?_)
  · replace h := Ok_f c h
    refine G_aload_n d_Md_shed_23 rfl 0 rfl ?_
    refine G_iload_n d_Md_shed_24 rfl 1 rfl ?_
    refine pm_Md_lanes d_Md_shed_25 w_877 (fun s3 e => ?_)
    replace h := Ok_bnd h s3 e
    clear e
    refine G_aload_n d_Md_shed_28 rfl 0 rfl ?_
    refine G_iload_n d_Md_shed_29 rfl 2 rfl ?_
    refine pm_Md_laneLength d_Md_shed_30 w_878 (fun s4 e => ?_)
    replace h := Ok_bnd h s4 e
    clear e
    refine G_aload_n d_Md_shed_33 rfl 0 rfl ?_
    refine G_iconst d_Md_shed_34 lt_iconst_0 ?_
    refine pm_Md_inShed d_Md_shed_35 w_879 (fun s5 e => ?_)
    replace h := Ok_bnd h s5 e
    clear e
    refine G_iconst d_Md_shed_38 lt_iconst_1 ?_
    replace h := Ok_some h
    exact G_iret rfl rfl d_Md_shed_39 (hR _ _ h)
  replace h := Ok_t c h
  refine G_iconst d_Md_shed_21 lt_iconst_0 ?_
  replace h := Ok_some h
  exact G_iret rfl rfl d_Md_shed_22 (hR _ _ h)
theorem c_Md_shed {l : Launch} {D : va_G} {cI cZ cJ : ClassId} {ad : Nat → Nat} (a1 a2 : Int32) (s : MS) {P : Int32 → MS → Prop} (h : Ok2 (f_Md_shed a1 a2 s) P) : Ct (XM l D cI cZ cJ ad) y_Md_shed b_Md_shed 3 (some .boolean) 1 [.ref (ad 0), .int a1, .int a2] s (P) :=
  Ct.of mi_Md_shed (Nat.le_of_ble_eq_true rfl) (f_Md_shed_w a1 a2 s (Post := fun q => P q.1 q.2) (fun _ _ h => h) (Ok2_ok h))
-- Md_stay
noncomputable def Md_stay_j103 (x1 x2 x3 x4 : Int32) (s : MS) : Option (Int32 × MS) :=
  if x4 = (s.1 1) then (some ((-1 : Int32), s)) else ((f_Md_putStay x1 x4 x2 x3 s).bind fun s1 => some (((s1.1 4) - (1 : Int32)), s1))
theorem Md_stay_j103_w {l : Launch} {D : va_G} {cI cZ cJ : ClassId} {ad : Nat → Nat} (x1 x2 x3 x4 : Int32) (s : MS) {Q : Int32 → MS → Prop} {Post : (Int32 × MS) → Prop} (hR : ∀ (r9 : Int32) (s9 : MS), Post ((r9, s9)) → Q r9 s9) (h : Ok (Md_stay_j103 x1 x2 x3 x4 s) Post) : G (XM l D cI cZ cJ ad) "SmallHarbourModel" b_Md_stay 5 (some .int) 4 103 [(0, .ref (ad 0)), (1, .int x1), (2, .int x2), (3, .int x3), (4, .int x4)] [] s Q := by
  unfold Md_stay_j103 at h
  refine G_iload d_Md_stay_103 4 rfl ?_
  refine G_aload_n d_Md_stay_105 rfl 0 rfl ?_
  refine gm_Md_berths d_Md_stay_106 w_838 ?_
  refine G_icmp_ne (tgt := 114) d_Md_stay_109 (by decide) (fun c => ?_) (fun c => ?_)
  · replace h := Ok_f c h
    refine G_aload_n d_Md_stay_114 rfl 0 rfl ?_
    refine G_iload_n d_Md_stay_115 rfl 1 rfl ?_
    refine G_iload d_Md_stay_116 4 rfl ?_
    refine G_iload_n d_Md_stay_118 rfl 2 rfl ?_
    refine G_iload_n d_Md_stay_119 rfl 3 rfl ?_
    refine G_callVv (st := []) (As := [.int x1, .int x4, .int x2, .int x3]) (b := ad 0) d_Md_stay_120 mi_Md_putStay w_1112 0 rfl rfl mv_Md_putStay rfl (Nat.le_of_ble_eq_true rfl) (by decide) (c_Md_putStay x1 x4 x2 x3 s (Ok_bind h)) (fun s1 h => ?_)
    refine G_aload_n d_Md_stay_123 rfl 0 rfl ?_
    refine gm_Md_stays d_Md_stay_124 w_850 ?_
    refine G_iconst d_Md_stay_127 lt_iconst_1 ?_
    refine G_isub d_Md_stay_128 ?_
    replace h := Ok_some h
    exact G_iret rfl (vp_nar_int _) d_Md_stay_129 (hR _ _ h)
  replace h := Ok_t c h
  refine G_iconst d_Md_stay_112 lt_iconst_m1 ?_
  replace h := Ok_some h
  exact G_iret rfl (vp_nar_int _) d_Md_stay_113 (hR _ _ h)
noncomputable def Md_stay_l65 (x1 x2 x3 : Int32) (s : MS) (x4 : Int32) : Option ((Int32) ⊕ (Int32 × MS)) :=
  if (s.1 1) ≤ x4 then (xit (Md_stay_j103 x1 x2 x3 x4 s)) else ((f_Md_fitsAll x1 x4 x2 x3 s).bind fun v1 => if v1 = 0 then (bnd (x4 + (1 : Int32)) fun v2 => some (.inl v2)) else ((f_Md_isEmpty x4 x2 x3 s).bind fun v3 => if v3 = 0 then (bnd (x4 + (1 : Int32)) fun v4 => some (.inl v4)) else (xit (Md_stay_j103 x1 x2 x3 x4 s))))
theorem Md_stay_l65_w {l : Launch} {D : va_G} {cI cZ cJ : ClassId} {ad : Nat → Nat} (x1 x2 x3 x4 : Int32) (s : MS) {Q : Int32 → MS → Prop} {Post : ((Int32) ⊕ (Int32 × MS)) → Prop} (hR : ∀ (r9 : Int32) (s9 : MS), Post (.inr ((r9, s9))) → Q r9 s9) (hL65 : ∀ (z4 : Int32) , Post (.inl z4) → G (XM l D cI cZ cJ ad) "SmallHarbourModel" b_Md_stay 5 (some .int) 4 65 [(0, .ref (ad 0)), (1, .int x1), (2, .int x2), (3, .int x3), (4, .int z4)] [] s Q) (h : Ok (Md_stay_l65 x1 x2 x3 s x4) Post) : G (XM l D cI cZ cJ ad) "SmallHarbourModel" b_Md_stay 5 (some .int) 4 65 [(0, .ref (ad 0)), (1, .int x1), (2, .int x2), (3, .int x3), (4, .int x4)] [] s Q := by
  unfold Md_stay_l65 at h
  refine G_iload d_Md_stay_65 4 rfl ?_
  refine G_aload_n d_Md_stay_67 rfl 0 rfl ?_
  refine gm_Md_berths d_Md_stay_68 w_838 ?_
  refine G_icmp_ge (tgt := 103) d_Md_stay_71 (by decide) (fun c => ?_) (fun c => ?_)
  · replace h := Ok_t c h
    replace h := Ok_xit h
    refine Md_stay_j103_w x1 x2 x3 x4 s ?_ h
    · exact hR
  replace h := Ok_f c h
  refine G_aload_n d_Md_stay_74 rfl 0 rfl ?_
  refine G_iload_n d_Md_stay_75 rfl 1 rfl ?_
  refine G_iload d_Md_stay_76 4 rfl ?_
  refine G_iload_n d_Md_stay_78 rfl 2 rfl ?_
  refine G_iload_n d_Md_stay_79 rfl 3 rfl ?_
  refine G_callVp (st := []) (As := [.int x1, .int x4, .int x2, .int x3]) (b := ad 0) d_Md_stay_80 mi_Md_fitsAll w_1092 0 rfl rfl mv_Md_fitsAll rfl (Nat.le_of_ble_eq_true rfl) (by decide) (c_Md_fitsAll x1 x4 x2 x3 s (Ok_bind h)) (fun v1 h hnv1 => ?_)
  refine G_if_eq (tgt := 97) d_Md_stay_83 (by decide) (fun c => ?_) (fun c => ?_)
  · replace h := Ok_t c h
    refine G_iinc d_Md_stay_97 4 rfl lt_iconst_1 rfl (Nat.le_of_ble_eq_true rfl) (fun x => [(4, .int x), (0, .ref (ad 0)), (1, .int x1), (2, .int x2), (3, .int x3)]) (fun _ => rfl) (fun v2 e => ?_)
    replace h := Ok_bnd h v2 e
    clear e
    refine G_goto (tgt := 65) d_Md_stay_100 (by decide) ?_
    refine G_lv [1, 2, 3, 4, 0] rfl ?_
    replace h := Ok_some h
    exact hL65 v2 h
  replace h := Ok_f c h
  refine G_aload_n d_Md_stay_86 rfl 0 rfl ?_
  refine G_iload d_Md_stay_87 4 rfl ?_
  refine G_iload_n d_Md_stay_89 rfl 2 rfl ?_
  refine G_iload_n d_Md_stay_90 rfl 3 rfl ?_
  refine G_callVp (st := []) (As := [.int x4, .int x2, .int x3]) (b := ad 0) d_Md_stay_91 mi_Md_isEmpty w_1096 0 rfl rfl mv_Md_isEmpty rfl (Nat.le_of_ble_eq_true rfl) (by decide) (c_Md_isEmpty x4 x2 x3 s (Ok_bind h)) (fun v3 h hnv3 => ?_)
  refine G_if_ne (tgt := 103) d_Md_stay_94 (by decide) (fun c => ?_) (fun c => ?_)
  · replace h := Ok_f c h
    replace h := Ok_xit h
    refine Md_stay_j103_w x1 x2 x3 x4 s ?_ h
    · exact hR
  replace h := Ok_t c h
  refine G_iinc d_Md_stay_97 4 rfl lt_iconst_1 rfl (Nat.le_of_ble_eq_true rfl) (fun x => [(4, .int x), (0, .ref (ad 0)), (1, .int x1), (2, .int x2), (3, .int x3)]) (fun _ => rfl) (fun v4 e => ?_)
  replace h := Ok_bnd h v4 e
  clear e
  refine G_goto (tgt := 65) d_Md_stay_100 (by decide) ?_
  refine G_lv [1, 2, 3, 4, 0] rfl ?_
  replace h := Ok_some h
  exact hL65 v4 h
noncomputable def f_Md_stay (a1 a2 a3 : Int32) (s : MS) : Option (Int32 × MS) :=
  (f_Md_isBoat a1 s).bind fun v1 => if v1 = 0 then (some ((-1 : Int32), s)) else (chk (inb a1 30) (bnd (s.2 6 a1.toNatClampNeg) fun v2 => if 0 ≤ v2 then (some ((-1 : Int32), s)) else ((f_Md_isIn a2 (0 : Int32) (400 : Int32)).bind fun v3 => if v3 = 0 then (some ((-1 : Int32), s)) else ((f_Md_isIn a3 (a2 + (1 : Int32)) (400 : Int32)).bind fun v4 => if v4 = 0 then (some ((-1 : Int32), s)) else (if (s.1 4) = (40 : Int32) then (some ((-1 : Int32), s)) else ((f_Md_hasStay a1 a2 a3 s).bind fun v5 => if v5 = 0 then (loop (fun z => Md_stay_l65 a1 a2 a3 s z) (0 : Int32)) else (some ((-1 : Int32), s))))))))
theorem f_Md_stay_w {l : Launch} {D : va_G} {cI cZ cJ : ClassId} {ad : Nat → Nat} (a1 a2 a3 : Int32) (s : MS) {Q : Int32 → MS → Prop} {Post : (Int32 × MS) → Prop} (hR : ∀ (r9 : Int32) (s9 : MS), Post ((r9, s9)) → Q r9 s9) (h : Ok (f_Md_stay a1 a2 a3 s) Post) : G (XM l D cI cZ cJ ad) "SmallHarbourModel" b_Md_stay 5 (some .int) 4 0 [(0, .ref (ad 0)), (1, .int a1), (2, .int a2), (3, .int a3)] [] s Q := by
  unfold f_Md_stay at h
  refine G_aload_n d_Md_stay_0 rfl 0 rfl ?_
  refine G_iload_n d_Md_stay_1 rfl 1 rfl ?_
  refine G_callVp (st := []) (As := [.int a1]) (b := ad 0) d_Md_stay_2 mi_Md_isBoat w_1076 0 rfl rfl mv_Md_isBoat rfl (Nat.le_of_ble_eq_true rfl) (by decide) (c_Md_isBoat a1 s (Ok_bind h)) (fun v1 h hnv1 => ?_)
  refine G_if_eq (tgt := 60) d_Md_stay_5 (by decide) (fun c => ?_) (fun c => ?_)
  · replace h := Ok_t c h
    refine G_iconst d_Md_stay_60 lt_iconst_m1 ?_
    replace h := Ok_some h
    exact G_iret rfl (vp_nar_int _) d_Md_stay_61 (hR _ _ h)
  replace h := Ok_f c h
  refine G_aload_n d_Md_stay_8 rfl 0 rfl ?_
  refine gm_Md_home d_Md_stay_9 w_845 ?_
  refine G_iload_n d_Md_stay_12 rfl 1 rfl ?_
  refine lm_6 d_Md_stay_13 (Ok_ld h).1 (fun v2 e => ?_)
  replace h := (Ok_ld h).2 v2 e
  clear e
  refine G_if_ge (tgt := 60) d_Md_stay_14 (by decide) (fun c => ?_) (fun c => ?_)
  · replace h := Ok_t c h
    refine G_iconst d_Md_stay_60 lt_iconst_m1 ?_
    replace h := Ok_some h
    exact G_iret rfl (vp_nar_int _) d_Md_stay_61 (hR _ _ h)
  replace h := Ok_f c h
  refine G_iload_n d_Md_stay_17 rfl 2 rfl ?_
  refine G_iconst d_Md_stay_18 lt_iconst_0 ?_
  refine G_sipush d_Md_stay_19 lt_sipush_400 ?_
  refine G_callSp (st := []) (As := [.int a2, .int (0 : Int32), .int (400 : Int32)]) d_Md_stay_22 mi_Md_isIn w_1045 w_1046 rfl (Nat.le_of_ble_eq_true rfl) (by decide) (c_Md_isIn a2 (0 : Int32) (400 : Int32) s (Ok_bind h)) (fun v3 h hnv3 => ?_)
  refine G_if_eq (tgt := 60) d_Md_stay_25 (by decide) (fun c => ?_) (fun c => ?_)
  · replace h := Ok_t c h
    refine G_iconst d_Md_stay_60 lt_iconst_m1 ?_
    replace h := Ok_some h
    exact G_iret rfl (vp_nar_int _) d_Md_stay_61 (hR _ _ h)
  replace h := Ok_f c h
  refine G_iload_n d_Md_stay_28 rfl 3 rfl ?_
  refine G_iload_n d_Md_stay_29 rfl 2 rfl ?_
  refine G_iconst d_Md_stay_30 lt_iconst_1 ?_
  refine G_iadd d_Md_stay_31 ?_
  refine G_sipush d_Md_stay_32 lt_sipush_400 ?_
  refine G_callSp (st := []) (As := [.int a3, .int (a2 + (1 : Int32)), .int (400 : Int32)]) d_Md_stay_35 mi_Md_isIn w_1045 w_1046 rfl (Nat.le_of_ble_eq_true rfl) (by decide) (c_Md_isIn a3 (a2 + (1 : Int32)) (400 : Int32) s (Ok_bind h)) (fun v4 h hnv4 => ?_)
  refine G_if_eq (tgt := 60) d_Md_stay_38 (by decide) (fun c => ?_) (fun c => ?_)
  · replace h := Ok_t c h
    refine G_iconst d_Md_stay_60 lt_iconst_m1 ?_
    replace h := Ok_some h
    exact G_iret rfl (vp_nar_int _) d_Md_stay_61 (hR _ _ h)
  replace h := Ok_f c h
  refine G_aload_n d_Md_stay_41 rfl 0 rfl ?_
  refine gm_Md_stays d_Md_stay_42 w_850 ?_
  refine G_bipush d_Md_stay_45 lt_bipush_40 ?_
  refine G_icmp_eq (tgt := 60) d_Md_stay_47 (by decide) (fun c => ?_) (fun c => ?_)
  · replace h := Ok_t c h
    refine G_iconst d_Md_stay_60 lt_iconst_m1 ?_
    replace h := Ok_some h
    exact G_iret rfl (vp_nar_int _) d_Md_stay_61 (hR _ _ h)
  replace h := Ok_f c h
  refine G_aload_n d_Md_stay_50 rfl 0 rfl ?_
  refine G_iload_n d_Md_stay_51 rfl 1 rfl ?_
  refine G_iload_n d_Md_stay_52 rfl 2 rfl ?_
  refine G_iload_n d_Md_stay_53 rfl 3 rfl ?_
  refine G_callVp (st := []) (As := [.int a1, .int a2, .int a3]) (b := ad 0) d_Md_stay_54 mi_Md_hasStay w_1088 0 rfl rfl mv_Md_hasStay rfl (Nat.le_of_ble_eq_true rfl) (by decide) (c_Md_hasStay a1 a2 a3 s (Ok_bind h)) (fun v5 h hnv5 => ?_)
  refine G_if_eq (tgt := 62) d_Md_stay_57 (by decide) (fun c => ?_) (fun c => ?_)
  · replace h := Ok_t c h
    refine G_iconst d_Md_stay_62 lt_iconst_0 ?_
    refine G_istore d_Md_stay_63 (Nat.le_of_ble_eq_true rfl) (fun x => [(4, .int x), (0, .ref (ad 0)), (1, .int a1), (2, .int a2), (3, .int a3)]) (fun _ => rfl) (fun x e => ?_)
    subst e
    refine G_lv [1, 2, 3, 4, 0] rfl ?_
    refine G_loop (J := (fun z => G (XM l D cI cZ cJ ad) "SmallHarbourModel" b_Md_stay 5 (some .int) 4 65 [(0, .ref (ad 0)), (1, .int a1), (2, .int a2), (3, .int a3), (4, .int z)] [] s Q)) (fun z h => ?_) (0 : Int32) h
    refine Md_stay_l65_w a1 a2 a3 z s ?_ ?_ h
    · exact hR
    · exact (fun z4 h => h)
  replace h := Ok_f c h
  refine G_iconst d_Md_stay_60 lt_iconst_m1 ?_
  replace h := Ok_some h
  exact G_iret rfl (vp_nar_int _) d_Md_stay_61 (hR _ _ h)
theorem c_Md_stay {l : Launch} {D : va_G} {cI cZ cJ : ClassId} {ad : Nat → Nat} (a1 a2 a3 : Int32) (s : MS) {P : Int32 → MS → Prop} (h : Ok2 (f_Md_stay a1 a2 a3 s) P) : Ct (XM l D cI cZ cJ ad) y_Md_stay b_Md_stay 5 (some .int) 4 [.ref (ad 0), .int a1, .int a2, .int a3] s (P) :=
  Ct.of mi_Md_stay (Nat.le_of_ble_eq_true rfl) (f_Md_stay_w a1 a2 a3 s (Post := fun q => P q.1 q.2) (fun _ _ h => h) (Ok2_ok h))
-- Md_stayOf
noncomputable def f_Md_stayOf (a1 a2 : Int32) (s : MS) : Option (Int32 × MS) :=
  (f_Md_isIn a1 (0 : Int32) ((s.1 4) - (1 : Int32))).bind fun v1 => if v1 = 0 then (some ((-1 : Int32), s)) else (bnd a2 fun v2 => if v2 = (0 : Int32) then (chk (inb a1 40) (bnd (s.2 10 a1.toNatClampNeg) fun v3 => some (v3, s))) else (if v2 = (1 : Int32) then (chk (inb a1 40) (bnd (s.2 11 a1.toNatClampNeg) fun v4 => some (v4, s))) else (if v2 = (2 : Int32) then (chk (inb a1 40) (bnd (s.2 12 a1.toNatClampNeg) fun v5 => some (v5, s))) else (if v2 = (3 : Int32) then (chk (inb a1 40) (bnd (s.2 13 a1.toNatClampNeg) fun v6 => some (v6, s))) else (if v2 = (4 : Int32) then (bd2 (f_Md_bill a1 s) fun v7 s8 => some (v7, s8)) else (some ((-1 : Int32), s)))))))
theorem f_Md_stayOf_w {l : Launch} {D : va_G} {cI cZ cJ : ClassId} {ad : Nat → Nat} (a1 a2 : Int32) (s : MS) {Q : Int32 → MS → Prop} {Post : (Int32 × MS) → Prop} (hR : ∀ (r9 : Int32) (s9 : MS), Post ((r9, s9)) → Q r9 s9) (h : Ok (f_Md_stayOf a1 a2 s) Post) : G (XM l D cI cZ cJ ad) "SmallHarbourModel" b_Md_stayOf 3 (some .int) 3 0 [(0, .ref (ad 0)), (1, .int a1), (2, .int a2)] [] s Q := by
  unfold f_Md_stayOf at h
  refine G_iload_n d_Md_stayOf_0 rfl 1 rfl ?_
  refine G_iconst d_Md_stayOf_1 lt_iconst_0 ?_
  refine G_aload_n d_Md_stayOf_2 rfl 0 rfl ?_
  refine gm_Md_stays d_Md_stayOf_3 w_850 ?_
  refine G_iconst d_Md_stayOf_6 lt_iconst_1 ?_
  refine G_isub d_Md_stayOf_7 ?_
  refine G_callSp (st := []) (As := [.int a1, .int (0 : Int32), .int ((s.1 4) - (1 : Int32))]) d_Md_stayOf_8 mi_Md_isIn w_1045 w_1046 rfl (Nat.le_of_ble_eq_true rfl) (by decide) (c_Md_isIn a1 (0 : Int32) ((s.1 4) - (1 : Int32)) s (Ok_bind h)) (fun v1 h hnv1 => ?_)
  refine G_if_ne (tgt := 16) d_Md_stayOf_11 (by decide) (fun c => ?_) (fun c => ?_)
  · replace h := Ok_f c h
    refine G_iload_n d_Md_stayOf_16 rfl 2 rfl ?_
    refine G_topi (fun v2 e => ?_)
    replace h := Ok_bnd h v2 e
    clear e
    by_cases c0 : v2 = (0 : Int32)
    · replace h := Ok_t c0 h
      refine G_tableIn (tgt := 52) d_Md_stayOf_17 (by rw [c0]; decide) (by rw [c0]; decide) (by rw [c0]; rfl) (by decide) ?_
      refine G_aload_n d_Md_stayOf_52 rfl 0 rfl ?_
      refine gm_Md_stayBoat d_Md_stayOf_53 w_851 ?_
      refine G_iload_n d_Md_stayOf_56 rfl 1 rfl ?_
      refine lm_10 d_Md_stayOf_57 (Ok_ld h).1 (fun v3 e => ?_)
      replace h := (Ok_ld h).2 v3 e
      clear e
      replace h := Ok_some h
      exact G_iret rfl (vp_nar_int _) d_Md_stayOf_58 (hR _ _ h)
    replace h := Ok_f c0 h
    have n0 := ne_ti (z := 0) (by decide) c0
    by_cases c1 : v2 = (1 : Int32)
    · replace h := Ok_t c1 h
      refine G_tableIn (tgt := 59) d_Md_stayOf_17 (by rw [c1]; decide) (by rw [c1]; decide) (by rw [c1]; rfl) (by decide) ?_
      refine G_aload_n d_Md_stayOf_59 rfl 0 rfl ?_
      refine gm_Md_stayBerth d_Md_stayOf_60 w_852 ?_
      refine G_iload_n d_Md_stayOf_63 rfl 1 rfl ?_
      refine lm_11 d_Md_stayOf_64 (Ok_ld h).1 (fun v4 e => ?_)
      replace h := (Ok_ld h).2 v4 e
      clear e
      replace h := Ok_some h
      exact G_iret rfl (vp_nar_int _) d_Md_stayOf_65 (hR _ _ h)
    replace h := Ok_f c1 h
    have n1 := ne_ti (z := 1) (by decide) c1
    by_cases c2 : v2 = (2 : Int32)
    · replace h := Ok_t c2 h
      refine G_tableIn (tgt := 66) d_Md_stayOf_17 (by rw [c2]; decide) (by rw [c2]; decide) (by rw [c2]; rfl) (by decide) ?_
      refine G_aload_n d_Md_stayOf_66 rfl 0 rfl ?_
      refine gm_Md_stayFrom d_Md_stayOf_67 w_853 ?_
      refine G_iload_n d_Md_stayOf_70 rfl 1 rfl ?_
      refine lm_12 d_Md_stayOf_71 (Ok_ld h).1 (fun v5 e => ?_)
      replace h := (Ok_ld h).2 v5 e
      clear e
      replace h := Ok_some h
      exact G_iret rfl (vp_nar_int _) d_Md_stayOf_72 (hR _ _ h)
    replace h := Ok_f c2 h
    have n2 := ne_ti (z := 2) (by decide) c2
    by_cases c3 : v2 = (3 : Int32)
    · replace h := Ok_t c3 h
      refine G_tableIn (tgt := 73) d_Md_stayOf_17 (by rw [c3]; decide) (by rw [c3]; decide) (by rw [c3]; rfl) (by decide) ?_
      refine G_aload_n d_Md_stayOf_73 rfl 0 rfl ?_
      refine gm_Md_stayTo d_Md_stayOf_74 w_854 ?_
      refine G_iload_n d_Md_stayOf_77 rfl 1 rfl ?_
      refine lm_13 d_Md_stayOf_78 (Ok_ld h).1 (fun v6 e => ?_)
      replace h := (Ok_ld h).2 v6 e
      clear e
      replace h := Ok_some h
      exact G_iret rfl (vp_nar_int _) d_Md_stayOf_79 (hR _ _ h)
    replace h := Ok_f c3 h
    have n3 := ne_ti (z := 3) (by decide) c3
    by_cases c4 : v2 = (4 : Int32)
    · replace h := Ok_t c4 h
      refine G_tableIn (tgt := 80) d_Md_stayOf_17 (by rw [c4]; decide) (by rw [c4]; decide) (by rw [c4]; rfl) (by decide) ?_
      refine G_aload_n d_Md_stayOf_80 rfl 0 rfl ?_
      refine G_iload_n d_Md_stayOf_81 rfl 1 rfl ?_
      refine G_callVi (st := []) (As := [.int a1]) (b := ad 0) d_Md_stayOf_82 mi_Md_bill w_1161 0 rfl rfl mv_Md_bill rfl (Nat.le_of_ble_eq_true rfl) (by decide) (c_Md_bill a1 s (Ok_bd2 h)) (fun v7 s8 h hnv7 => ?_)
      replace h := Ok_some h
      exact G_iret rfl (vp_nar_int _) d_Md_stayOf_85 (hR _ _ h)
    replace h := Ok_f c4 h
    have n4 := ne_ti (z := 4) (by decide) c4
    refine G_tableOut (tgt := 86) d_Md_stayOf_17 (by omega) (by decide) ?_
    refine G_iconst d_Md_stayOf_86 lt_iconst_m1 ?_
    replace h := Ok_some h
    exact G_iret rfl (vp_nar_int _) d_Md_stayOf_87 (hR _ _ h)
  replace h := Ok_t c h
  refine G_iconst d_Md_stayOf_14 lt_iconst_m1 ?_
  replace h := Ok_some h
  exact G_iret rfl (vp_nar_int _) d_Md_stayOf_15 (hR _ _ h)
theorem c_Md_stayOf {l : Launch} {D : va_G} {cI cZ cJ : ClassId} {ad : Nat → Nat} (a1 a2 : Int32) (s : MS) {P : Int32 → MS → Prop} (h : Ok2 (f_Md_stayOf a1 a2 s) P) : Ct (XM l D cI cZ cJ ad) y_Md_stayOf b_Md_stayOf 3 (some .int) 3 [.ref (ad 0), .int a1, .int a2] s (P) :=
  Ct.of mi_Md_stayOf (Nat.le_of_ble_eq_true rfl) (f_Md_stayOf_w a1 a2 s (Post := fun q => P q.1 q.2) (fun _ _ h => h) (Ok2_ok h))
-- Md_winter
noncomputable def Md_winter_l32 (x1 x2 : Int32) (s : MS) (x3 : Int32) : Option ((Int32) ⊕ (Int32 × MS)) :=
  if (s.1 18) ≤ x3 then (xit (chk (inb (s.1 18) 9) (bnd (pa s 25 (s.1 18).toNatClampNeg x1) fun s1 => chk (inb (s1.1 18) 9) (bnd (pa s1 26 (s1.1 18).toNatClampNeg x2) fun s2 => bnd (pf s2 18 ((s2.1 18) + (1 : Int32))) fun s3 => some ((s3.1 18), s3))))) else (chk (inb x3 9) (bnd (s.2 25 x3.toNatClampNeg) fun v4 => if v4 = x1 then (xit (some ((-1 : Int32), s))) else (bnd (x3 + (1 : Int32)) fun v5 => some (.inl v5))))
theorem Md_winter_l32_w {l : Launch} {D : va_G} {cI cZ cJ : ClassId} {ad : Nat → Nat} (x1 x2 x3 : Int32) (s : MS) {Q : Int32 → MS → Prop} {Post : ((Int32) ⊕ (Int32 × MS)) → Prop} (hR : ∀ (r9 : Int32) (s9 : MS), Post (.inr ((r9, s9))) → Q r9 s9) (hL32 : ∀ (z3 : Int32) , Post (.inl z3) → G (XM l D cI cZ cJ ad) "SmallHarbourModel" b_Md_winter 4 (some .int) 2 32 [(0, .ref (ad 0)), (1, .int x1), (2, .int x2), (3, .int z3)] [] s Q) (h : Ok (Md_winter_l32 x1 x2 s x3) Post) : G (XM l D cI cZ cJ ad) "SmallHarbourModel" b_Md_winter 4 (some .int) 2 32 [(0, .ref (ad 0)), (1, .int x1), (2, .int x2), (3, .int x3)] [] s Q := by
  unfold Md_winter_l32 at h
  refine G_iload_n d_Md_winter_32 rfl 3 rfl ?_
  refine G_aload_n d_Md_winter_33 rfl 0 rfl ?_
  refine gm_Md_inShed d_Md_winter_34 w_879 ?_
  refine G_icmp_ge (tgt := 58) d_Md_winter_37 (by decide) (fun c => ?_) (fun c => ?_)
  · replace h := Ok_t c h
    replace h := Ok_xit h
    refine G_aload_n d_Md_winter_58 rfl 0 rfl ?_
    refine gm_Md_shedBoat d_Md_winter_59 w_880 ?_
    refine G_aload_n d_Md_winter_62 rfl 0 rfl ?_
    refine gm_Md_inShed d_Md_winter_63 w_879 ?_
    refine G_iload_n d_Md_winter_66 rfl 1 rfl ?_
    refine sm_25 d_Md_winter_67 (Ok_ld h).1 (fun s1 e => ?_)
    replace h := (Ok_ld h).2 s1 e
    clear e
    refine G_aload_n d_Md_winter_68 rfl 0 rfl ?_
    refine gm_Md_shedOut d_Md_winter_69 w_881 ?_
    refine G_aload_n d_Md_winter_72 rfl 0 rfl ?_
    refine gm_Md_inShed d_Md_winter_73 w_879 ?_
    refine G_iload_n d_Md_winter_76 rfl 2 rfl ?_
    refine sm_26 d_Md_winter_77 (Ok_ld h).1 (fun s2 e => ?_)
    replace h := (Ok_ld h).2 s2 e
    clear e
    refine G_aload_n d_Md_winter_78 rfl 0 rfl ?_
    refine G_dup d_Md_winter_79 rfl ?_
    refine gm_Md_inShed d_Md_winter_80 w_879 ?_
    refine G_iconst d_Md_winter_83 lt_iconst_1 ?_
    refine G_iadd d_Md_winter_84 ?_
    refine pm_Md_inShed d_Md_winter_85 w_879 (fun s3 e => ?_)
    replace h := Ok_bnd h s3 e
    clear e
    refine G_aload_n d_Md_winter_88 rfl 0 rfl ?_
    refine gm_Md_inShed d_Md_winter_89 w_879 ?_
    replace h := Ok_some h
    exact G_iret rfl (vp_nar_int _) d_Md_winter_92 (hR _ _ h)
  replace h := Ok_f c h
  refine G_aload_n d_Md_winter_40 rfl 0 rfl ?_
  refine gm_Md_shedBoat d_Md_winter_41 w_880 ?_
  refine G_iload_n d_Md_winter_44 rfl 3 rfl ?_
  refine lm_25 d_Md_winter_45 (Ok_ld h).1 (fun v4 e => ?_)
  replace h := (Ok_ld h).2 v4 e
  clear e
  refine G_iload_n d_Md_winter_46 rfl 1 rfl ?_
  refine G_icmp_ne (tgt := 52) d_Md_winter_47 (by decide) (fun c => ?_) (fun c => ?_)
  · replace h := Ok_f c h
    refine G_iinc d_Md_winter_52 3 rfl lt_iconst_1 rfl (Nat.le_of_ble_eq_true rfl) (fun x => [(3, .int x), (0, .ref (ad 0)), (1, .int x1), (2, .int x2)]) (fun _ => rfl) (fun v5 e => ?_)
    replace h := Ok_bnd h v5 e
    clear e
    refine G_goto (tgt := 32) d_Md_winter_55 (by decide) ?_
    refine G_lv [1, 2, 3, 0] rfl ?_
    replace h := Ok_some h
    exact hL32 v5 h
  replace h := Ok_t c h
  replace h := Ok_xit h
  refine G_iconst d_Md_winter_50 lt_iconst_m1 ?_
  replace h := Ok_some h
  exact G_iret rfl (vp_nar_int _) d_Md_winter_51 (hR _ _ h)
noncomputable def f_Md_winter (a1 a2 : Int32) (s : MS) : Option (Int32 × MS) :=
  (f_Md_isBoat a1 s).bind fun v1 => if v1 = 0 then (some ((-1 : Int32), s)) else ((f_Md_isIn a2 (0 : Int32) (399 : Int32)).bind fun v2 => if v2 = 0 then (some ((-1 : Int32), s)) else (if (s.1 18) = (9 : Int32) then (some ((-1 : Int32), s)) else (loop (fun z => Md_winter_l32 a1 a2 s z) (0 : Int32))))
theorem f_Md_winter_w {l : Launch} {D : va_G} {cI cZ cJ : ClassId} {ad : Nat → Nat} (a1 a2 : Int32) (s : MS) {Q : Int32 → MS → Prop} {Post : (Int32 × MS) → Prop} (hR : ∀ (r9 : Int32) (s9 : MS), Post ((r9, s9)) → Q r9 s9) (h : Ok (f_Md_winter a1 a2 s) Post) : G (XM l D cI cZ cJ ad) "SmallHarbourModel" b_Md_winter 4 (some .int) 2 0 [(0, .ref (ad 0)), (1, .int a1), (2, .int a2)] [] s Q := by
  unfold f_Md_winter at h
  refine G_aload_n d_Md_winter_0 rfl 0 rfl ?_
  refine G_iload_n d_Md_winter_1 rfl 1 rfl ?_
  refine G_callVp (st := []) (As := [.int a1]) (b := ad 0) d_Md_winter_2 mi_Md_isBoat w_1076 0 rfl rfl mv_Md_isBoat rfl (Nat.le_of_ble_eq_true rfl) (by decide) (c_Md_isBoat a1 s (Ok_bind h)) (fun v1 h hnv1 => ?_)
  refine G_if_eq (tgt := 28) d_Md_winter_5 (by decide) (fun c => ?_) (fun c => ?_)
  · replace h := Ok_t c h
    refine G_iconst d_Md_winter_28 lt_iconst_m1 ?_
    replace h := Ok_some h
    exact G_iret rfl (vp_nar_int _) d_Md_winter_29 (hR _ _ h)
  replace h := Ok_f c h
  refine G_iload_n d_Md_winter_8 rfl 2 rfl ?_
  refine G_iconst d_Md_winter_9 lt_iconst_0 ?_
  refine G_sipush d_Md_winter_10 lt_sipush_399 ?_
  refine G_callSp (st := []) (As := [.int a2, .int (0 : Int32), .int (399 : Int32)]) d_Md_winter_13 mi_Md_isIn w_1045 w_1046 rfl (Nat.le_of_ble_eq_true rfl) (by decide) (c_Md_isIn a2 (0 : Int32) (399 : Int32) s (Ok_bind h)) (fun v2 h hnv2 => ?_)
  refine G_if_eq (tgt := 28) d_Md_winter_16 (by decide) (fun c => ?_) (fun c => ?_)
  · replace h := Ok_t c h
    refine G_iconst d_Md_winter_28 lt_iconst_m1 ?_
    replace h := Ok_some h
    exact G_iret rfl (vp_nar_int _) d_Md_winter_29 (hR _ _ h)
  replace h := Ok_f c h
  refine G_aload_n d_Md_winter_19 rfl 0 rfl ?_
  refine gm_Md_inShed d_Md_winter_20 w_879 ?_
  refine G_bipush d_Md_winter_23 lt_bipush_9 ?_
  refine G_icmp_ne (tgt := 30) d_Md_winter_25 (by decide) (fun c => ?_) (fun c => ?_)
  · replace h := Ok_f c h
    refine G_iconst d_Md_winter_30 lt_iconst_0 ?_
    refine G_istore_n d_Md_winter_31 rfl (Nat.le_of_ble_eq_true rfl) (fun x => [(3, .int x), (0, .ref (ad 0)), (1, .int a1), (2, .int a2)]) (fun _ => rfl) (fun x e => ?_)
    subst e
    refine G_lv [1, 2, 3, 0] rfl ?_
    refine G_loop (J := (fun z => G (XM l D cI cZ cJ ad) "SmallHarbourModel" b_Md_winter 4 (some .int) 2 32 [(0, .ref (ad 0)), (1, .int a1), (2, .int a2), (3, .int z)] [] s Q)) (fun z h => ?_) (0 : Int32) h
    refine Md_winter_l32_w a1 a2 z s ?_ ?_ h
    · exact hR
    · exact (fun z3 h => h)
  replace h := Ok_t c h
  refine G_iconst d_Md_winter_28 lt_iconst_m1 ?_
  replace h := Ok_some h
  exact G_iret rfl (vp_nar_int _) d_Md_winter_29 (hR _ _ h)
theorem c_Md_winter {l : Launch} {D : va_G} {cI cZ cJ : ClassId} {ad : Nat → Nat} (a1 a2 : Int32) (s : MS) {P : Int32 → MS → Prop} (h : Ok2 (f_Md_winter a1 a2 s) P) : Ct (XM l D cI cZ cJ ad) y_Md_winter b_Md_winter 4 (some .int) 2 [.ref (ad 0), .int a1, .int a2] s (P) :=
  Ct.of mi_Md_winter (Nat.le_of_ble_eq_true rfl) (f_Md_winter_w a1 a2 s (Post := fun q => P q.1 q.2) (fun _ _ h => h) (Ok2_ok h))
-- Ar_fill16
noncomputable def Ar_fill16_l5 (x1 x3 : Int32) (x2 : Int32) (s : MS) : Option ((Int32 × MS) ⊕ MS) :=
  if x3 ≤ x2 then (xit (some s)) else (chk (inb x2 30) (bnd (pa s 3 x2.toNatClampNeg x1) fun s1 => bnd (x2 + (1 : Int32)) fun v2 => some (.inl (v2, s1))))
theorem Ar_fill16_l5_w {l : Launch} {D : va_G} {cI cZ cJ : ClassId} {ad : Nat → Nat} (x1 x3 x2 : Int32) (s : MS) {Q : Int32 → MS → Prop} {Post : ((Int32 × MS) ⊕ MS) → Prop} (hR : ∀ (s9 : MS), Post (.inr (s9)) → Q 0 s9) (hL5 : ∀ (z2 : Int32) (s9 : MS), Post (.inl (z2, s9)) → G (XX l D cI cZ cJ ad) "java/util/Arrays" b_Ar_fill 4 none 0 5 [(0, .ref (ad 16)), (1, .int x1), (2, .int z2), (3, .int x3)] [] s9 Q) (h : Ok (Ar_fill16_l5 x1 x3 x2 s) Post) : G (XX l D cI cZ cJ ad) "java/util/Arrays" b_Ar_fill 4 none 0 5 [(0, .ref (ad 16)), (1, .int x1), (2, .int x2), (3, .int x3)] [] s Q := by
  unfold Ar_fill16_l5 at h
  refine G_iload_n d_Ar_fill_5 rfl 2 rfl ?_
  refine G_iload_n d_Ar_fill_6 rfl 3 rfl ?_
  refine G_icmp_ge (tgt := 20) d_Ar_fill_7 (by decide) (fun c => ?_) (fun c => ?_)
  · replace h := Ok_t c h
    replace h := Ok_xit h
    replace h := Ok_some h
    exact G_vret rfl d_Ar_fill_20 (hR _ h)
  replace h := Ok_f c h
  refine G_aload_n d_Ar_fill_10 rfl 0 rfl ?_
  refine G_iload_n d_Ar_fill_11 rfl 2 rfl ?_
  refine G_iload_n d_Ar_fill_12 rfl 1 rfl ?_
  refine sx_3 d_Ar_fill_13 (Ok_ld h).1 (fun s1 e => ?_)
  replace h := (Ok_ld h).2 s1 e
  clear e
  refine G_iinc d_Ar_fill_14 2 rfl lt_iconst_1 rfl (Nat.le_of_ble_eq_true rfl) (fun x => [(2, .int x), (0, .ref (ad 16)), (1, .int x1), (3, .int x3)]) (fun _ => rfl) (fun v2 e => ?_)
  replace h := Ok_bnd h v2 e
  clear e
  refine G_goto (tgt := 5) d_Ar_fill_17 (by decide) ?_
  refine G_lv [1, 2, 0, 3] rfl ?_
  replace h := Ok_some h
  exact hL5 v2 s1 h
noncomputable def f_Ar_fill16 (a2 : Int32) (s : MS) : Option MS :=
  loop (fun z => Ar_fill16_l5 a2 (30 : Int32) z.1 z.2) ((0 : Int32), s)
theorem f_Ar_fill16_w {l : Launch} {D : va_G} {cI cZ cJ : ClassId} {ad : Nat → Nat} (a2 : Int32) (s : MS) {Q : Int32 → MS → Prop} {Post : MS → Prop} (hR : ∀ (s9 : MS), Post (s9) → Q 0 s9) (h : Ok (f_Ar_fill16 a2 s) Post) : G (XX l D cI cZ cJ ad) "java/util/Arrays" b_Ar_fill 4 none 0 0 [(0, .ref (ad 16)), (1, .int a2)] [] s Q := by
  unfold f_Ar_fill16 at h
  refine G_iconst d_Ar_fill_0 lt_iconst_0 ?_
  refine G_istore_n d_Ar_fill_1 rfl (Nat.le_of_ble_eq_true rfl) (fun x => [(2, .int x), (0, .ref (ad 16)), (1, .int a2)]) (fun _ => rfl) (fun x e => ?_)
  subst e
  refine G_aload_n d_Ar_fill_2 rfl 1 rfl ?_
  refine G_alen d_Ar_fill_3 16 0 rfl rfl (v := 30) rfl ?_
  refine G_istore_n d_Ar_fill_4 rfl (Nat.le_of_ble_eq_true rfl) (fun x => [(3, .int x), (2, .int (0 : Int32)), (0, .ref (ad 16)), (1, .int a2)]) (fun _ => rfl) (fun x e => ?_)
  subst e
  refine G_lv [2, 3, 1, 0] rfl ?_
  refine G_loop (J := (fun z => G (XX l D cI cZ cJ ad) "java/util/Arrays" b_Ar_fill 4 none 0 5 [(0, .ref (ad 16)), (1, .int a2), (2, .int (z.1)), (3, .int (30 : Int32))] [] z.2 Q)) (fun z h => ?_) ((0 : Int32), s) h
  refine Ar_fill16_l5_w a2 (30 : Int32) z.1 z.2 ?_ ?_ h
  · exact hR
  · exact (fun z2 s9 h => h)
theorem c_Ar_fill16 {l : Launch} {D : va_G} {cI cZ cJ : ClassId} {ad : Nat → Nat} (a2 : Int32) (s : MS) {P : MS → Prop} (h : Ok (f_Ar_fill16 a2 s) P) : Ct (XX l D cI cZ cJ ad) y_Ar_fill b_Ar_fill 4 none 0 [.ref (ad 16), .int a2] s (fun _ s9 => P s9) :=
  Ct.of mi_Ar_fill (Nat.le_of_ble_eq_true rfl) (f_Ar_fill16_w a2 s (fun _ h => h) h)
-- Ar_fill39
noncomputable def Ar_fill39_l5 (x1 x3 : Int32) (x2 : Int32) (s : MS) : Option ((Int32 × MS) ⊕ MS) :=
  if x3 ≤ x2 then (xit (some s)) else (chk (inb x2 10) (bnd (pa s 26 x2.toNatClampNeg x1) fun s1 => bnd (x2 + (1 : Int32)) fun v2 => some (.inl (v2, s1))))
theorem Ar_fill39_l5_w {l : Launch} {D : va_G} {cI cZ cJ : ClassId} {ad : Nat → Nat} (x1 x3 x2 : Int32) (s : MS) {Q : Int32 → MS → Prop} {Post : ((Int32 × MS) ⊕ MS) → Prop} (hR : ∀ (s9 : MS), Post (.inr (s9)) → Q 0 s9) (hL5 : ∀ (z2 : Int32) (s9 : MS), Post (.inl (z2, s9)) → G (XX l D cI cZ cJ ad) "java/util/Arrays" b_Ar_fill 4 none 0 5 [(0, .ref (ad 39)), (1, .int x1), (2, .int z2), (3, .int x3)] [] s9 Q) (h : Ok (Ar_fill39_l5 x1 x3 x2 s) Post) : G (XX l D cI cZ cJ ad) "java/util/Arrays" b_Ar_fill 4 none 0 5 [(0, .ref (ad 39)), (1, .int x1), (2, .int x2), (3, .int x3)] [] s Q := by
  unfold Ar_fill39_l5 at h
  refine G_iload_n d_Ar_fill_5 rfl 2 rfl ?_
  refine G_iload_n d_Ar_fill_6 rfl 3 rfl ?_
  refine G_icmp_ge (tgt := 20) d_Ar_fill_7 (by decide) (fun c => ?_) (fun c => ?_)
  · replace h := Ok_t c h
    replace h := Ok_xit h
    replace h := Ok_some h
    exact G_vret rfl d_Ar_fill_20 (hR _ h)
  replace h := Ok_f c h
  refine G_aload_n d_Ar_fill_10 rfl 0 rfl ?_
  refine G_iload_n d_Ar_fill_11 rfl 2 rfl ?_
  refine G_iload_n d_Ar_fill_12 rfl 1 rfl ?_
  refine sx_26 d_Ar_fill_13 (Ok_ld h).1 (fun s1 e => ?_)
  replace h := (Ok_ld h).2 s1 e
  clear e
  refine G_iinc d_Ar_fill_14 2 rfl lt_iconst_1 rfl (Nat.le_of_ble_eq_true rfl) (fun x => [(2, .int x), (0, .ref (ad 39)), (1, .int x1), (3, .int x3)]) (fun _ => rfl) (fun v2 e => ?_)
  replace h := Ok_bnd h v2 e
  clear e
  refine G_goto (tgt := 5) d_Ar_fill_17 (by decide) ?_
  refine G_lv [1, 2, 0, 3] rfl ?_
  replace h := Ok_some h
  exact hL5 v2 s1 h
noncomputable def f_Ar_fill39 (a2 : Int32) (s : MS) : Option MS :=
  loop (fun z => Ar_fill39_l5 a2 (10 : Int32) z.1 z.2) ((0 : Int32), s)
theorem f_Ar_fill39_w {l : Launch} {D : va_G} {cI cZ cJ : ClassId} {ad : Nat → Nat} (a2 : Int32) (s : MS) {Q : Int32 → MS → Prop} {Post : MS → Prop} (hR : ∀ (s9 : MS), Post (s9) → Q 0 s9) (h : Ok (f_Ar_fill39 a2 s) Post) : G (XX l D cI cZ cJ ad) "java/util/Arrays" b_Ar_fill 4 none 0 0 [(0, .ref (ad 39)), (1, .int a2)] [] s Q := by
  unfold f_Ar_fill39 at h
  refine G_iconst d_Ar_fill_0 lt_iconst_0 ?_
  refine G_istore_n d_Ar_fill_1 rfl (Nat.le_of_ble_eq_true rfl) (fun x => [(2, .int x), (0, .ref (ad 39)), (1, .int a2)]) (fun _ => rfl) (fun x e => ?_)
  subst e
  refine G_aload_n d_Ar_fill_2 rfl 1 rfl ?_
  refine G_alen d_Ar_fill_3 39 0 rfl rfl (v := 10) rfl ?_
  refine G_istore_n d_Ar_fill_4 rfl (Nat.le_of_ble_eq_true rfl) (fun x => [(3, .int x), (2, .int (0 : Int32)), (0, .ref (ad 39)), (1, .int a2)]) (fun _ => rfl) (fun x e => ?_)
  subst e
  refine G_lv [2, 3, 1, 0] rfl ?_
  refine G_loop (J := (fun z => G (XX l D cI cZ cJ ad) "java/util/Arrays" b_Ar_fill 4 none 0 5 [(0, .ref (ad 39)), (1, .int a2), (2, .int (z.1)), (3, .int (10 : Int32))] [] z.2 Q)) (fun z h => ?_) ((0 : Int32), s) h
  refine Ar_fill39_l5_w a2 (10 : Int32) z.1 z.2 ?_ ?_ h
  · exact hR
  · exact (fun z2 s9 h => h)
theorem c_Ar_fill39 {l : Launch} {D : va_G} {cI cZ cJ : ClassId} {ad : Nat → Nat} (a2 : Int32) (s : MS) {P : MS → Prop} (h : Ok (f_Ar_fill39 a2 s) P) : Ct (XX l D cI cZ cJ ad) y_Ar_fill b_Ar_fill 4 none 0 [.ref (ad 39), .int a2] s (fun _ s9 => P s9) :=
  Ct.of mi_Ar_fill (Nat.le_of_ble_eq_true rfl) (f_Ar_fill39_w a2 s (fun _ h => h) h)
-- Hb_isWithin
noncomputable def f_Hb_isWithin (a1 a2 a3 : Int32) : Option Int32 :=
  if a1 < a2 then (some (0 : Int32)) else (if a3 < a1 then (some (0 : Int32)) else (some (1 : Int32)))
theorem f_Hb_isWithin_w {l : Launch} {D : va_G} {cI cZ cJ : ClassId} {ad : Nat → Nat} (a1 a2 a3 : Int32) (s : MS) {Q : Int32 → MS → Prop} {Post : Int32 → Prop} (hR : ∀ (r9 : Int32), Post (r9) → Q r9 s) (h : Ok (f_Hb_isWithin a1 a2 a3) Post) : G (XX l D cI cZ cJ ad) "SmallHarbour" b_Hb_isWithin 3 (some .boolean) 0 0 [(0, .int a1), (1, .int a2), (2, .int a3)] [] s Q := by
  unfold f_Hb_isWithin at h
  refine G_iload_n d_Hb_isWithin_0 rfl 0 rfl ?_
  refine G_iload_n d_Hb_isWithin_1 rfl 1 rfl ?_
  refine G_icmp_lt (tgt := 14) d_Hb_isWithin_2 (by decide) (fun c => ?_) (fun c => ?_)
  · replace h := Ok_t c h
    refine G_iconst d_Hb_isWithin_14 lt_iconst_0 ?_
    replace h := Ok_some h
    exact G_iret rfl rfl d_Hb_isWithin_15 (hR _ h)
  replace h := Ok_f c h
  refine G_iload_n d_Hb_isWithin_5 rfl 0 rfl ?_
  refine G_iload_n d_Hb_isWithin_6 rfl 2 rfl ?_
  refine G_icmp_gt (tgt := 14) d_Hb_isWithin_7 (by decide) (fun c => ?_) (fun c => ?_)
  · replace h := Ok_t c h
    refine G_iconst d_Hb_isWithin_14 lt_iconst_0 ?_
    replace h := Ok_some h
    exact G_iret rfl rfl d_Hb_isWithin_15 (hR _ h)
  replace h := Ok_f c h
  refine G_iconst d_Hb_isWithin_10 lt_iconst_1 ?_
  refine G_goto (tgt := 15) d_Hb_isWithin_11 (by decide) ?_
  replace h := Ok_some h
  exact G_iret rfl rfl d_Hb_isWithin_15 (hR _ h)
theorem c_Hb_isWithin {l : Launch} {D : va_G} {cI cZ cJ : ClassId} {ad : Nat → Nat} (a1 a2 a3 : Int32) (s : MS) {P : Int32 → Prop} (h : Ok (f_Hb_isWithin a1 a2 a3) P) : Ct (XX l D cI cZ cJ ad) y_Hb_isWithin b_Hb_isWithin 3 (some .boolean) 0 [.int a1, .int a2, .int a3] s (fun r9 s9 => s9 = s ∧ P r9) :=
  Ct.of mi_Hb_isWithin (Nat.le_of_ble_eq_true rfl) (f_Hb_isWithin_w a1 a2 a3 s (fun _ h => ⟨rfl, h⟩) h)
-- Berths_add
noncomputable def f_Berths_add (a1 a2 : Int32) (s : MS) : Option (Int32 × MS) :=
  (f_Hb_isWithin a1 (10 : Int32) (400 : Int32)).bind fun v1 => if v1 = 0 then (some ((-1 : Int32), s)) else ((f_Hb_isWithin a2 (0 : Int32) (60 : Int32)).bind fun v2 => if v2 = 0 then (some ((-1 : Int32), s)) else (if (s.1 2) < (10 : Int32) then (chk (inb (s.1 2) 10) (bnd (pa s 4 (s.1 2).toNatClampNeg a1) fun s3 => chk (inb (s3.1 2) 10) (bnd (pa s3 5 (s3.1 2).toNatClampNeg a2) fun s4 => chk (inb (s4.1 2) 10) (bnd (pa s4 6 (s4.1 2).toNatClampNeg (-1 : Int32)) fun s5 => bnd (pf s5 2 ((s5.1 2) + (1 : Int32))) fun s6 => some ((s5.1 2), s6))))) else (some ((-1 : Int32), s))))
theorem f_Berths_add_w {l : Launch} {D : va_G} {cI cZ cJ : ClassId} {ad : Nat → Nat} (a1 a2 : Int32) (s : MS) {Q : Int32 → MS → Prop} {Post : (Int32 × MS) → Prop} (hR : ∀ (r9 : Int32) (s9 : MS), Post ((r9, s9)) → Q r9 s9) (h : Ok (f_Berths_add a1 a2 s) Post) : G (XX l D cI cZ cJ ad) "SmallHarbour$Berths" b_Berths_add 3 (some .int) 1 0 [(0, .ref (ad 2)), (1, .int a1), (2, .int a2)] [] s Q := by
  unfold f_Berths_add at h
  refine G_iload_n d_Berths_add_0 rfl 1 rfl ?_
  refine G_bipush d_Berths_add_1 lt_bipush_10 ?_
  refine G_sipush d_Berths_add_3 lt_sipush_400 ?_
  refine G_callNp (st := []) (As := [.int a1, .int (10 : Int32), .int (400 : Int32)]) d_Berths_add_6 mi_Hb_isWithin w_422 w_423 rfl (Nat.le_of_ble_eq_true rfl) (by decide) (c_Hb_isWithin a1 (10 : Int32) (400 : Int32) s (Ok_bind h)) (fun v1 h hnv1 => ?_)
  refine G_if_eq (tgt := 22) d_Berths_add_9 (by decide) (fun c => ?_) (fun c => ?_)
  · replace h := Ok_t c h
    refine G_iconst d_Berths_add_22 lt_iconst_m1 ?_
    replace h := Ok_some h
    exact G_iret rfl (vp_nar_int _) d_Berths_add_23 (hR _ _ h)
  replace h := Ok_f c h
  refine G_iload_n d_Berths_add_12 rfl 2 rfl ?_
  refine G_iconst d_Berths_add_13 lt_iconst_0 ?_
  refine G_bipush d_Berths_add_14 lt_bipush_60 ?_
  refine G_callNp (st := []) (As := [.int a2, .int (0 : Int32), .int (60 : Int32)]) d_Berths_add_16 mi_Hb_isWithin w_422 w_423 rfl (Nat.le_of_ble_eq_true rfl) (by decide) (c_Hb_isWithin a2 (0 : Int32) (60 : Int32) s (Ok_bind h)) (fun v2 h hnv2 => ?_)
  refine G_if_ne (tgt := 24) d_Berths_add_19 (by decide) (fun c => ?_) (fun c => ?_)
  · replace h := Ok_f c h
    refine G_aload_n d_Berths_add_24 rfl 0 rfl ?_
    refine gx_Berths_count d_Berths_add_25 w_49 ?_
    refine G_bipush d_Berths_add_28 lt_bipush_10 ?_
    refine G_icmp_lt (tgt := 35) d_Berths_add_30 (by decide) (fun c => ?_) (fun c => ?_)
    · replace h := Ok_t c h
      refine G_aload_n d_Berths_add_35 rfl 0 rfl ?_
      refine gx_Berths_length d_Berths_add_36 w_45 ?_
      refine G_aload_n d_Berths_add_39 rfl 0 rfl ?_
      refine gx_Berths_count d_Berths_add_40 w_49 ?_
      refine G_iload_n d_Berths_add_43 rfl 1 rfl ?_
      refine sx_4 d_Berths_add_44 (Ok_ld h).1 (fun s3 e => ?_)
      replace h := (Ok_ld h).2 s3 e
      clear e
      refine G_aload_n d_Berths_add_45 rfl 0 rfl ?_
      refine gx_Berths_depth d_Berths_add_46 w_46 ?_
      refine G_aload_n d_Berths_add_49 rfl 0 rfl ?_
      refine gx_Berths_count d_Berths_add_50 w_49 ?_
      refine G_iload_n d_Berths_add_53 rfl 2 rfl ?_
      refine sx_5 d_Berths_add_54 (Ok_ld h).1 (fun s4 e => ?_)
      replace h := (Ok_ld h).2 s4 e
      clear e
      refine G_aload_n d_Berths_add_55 rfl 0 rfl ?_
      refine gx_Berths_holder d_Berths_add_56 w_47 ?_
      refine G_aload_n d_Berths_add_59 rfl 0 rfl ?_
      refine gx_Berths_count d_Berths_add_60 w_49 ?_
      refine G_iconst d_Berths_add_63 lt_iconst_m1 ?_
      refine sx_6 d_Berths_add_64 (Ok_ld h).1 (fun s5 e => ?_)
      replace h := (Ok_ld h).2 s5 e
      clear e
      refine G_aload_n d_Berths_add_65 rfl 0 rfl ?_
      refine G_dup d_Berths_add_66 rfl ?_
      refine gx_Berths_count d_Berths_add_67 w_49 ?_
      refine G_dup_x1 d_Berths_add_70 rfl rfl ?_
      refine G_iconst d_Berths_add_71 lt_iconst_1 ?_
      refine G_iadd d_Berths_add_72 ?_
      refine px_Berths_count d_Berths_add_73 w_49 (fun s6 e => ?_)
      replace h := Ok_bnd h s6 e
      clear e
      replace h := Ok_some h
      exact G_iret rfl (vp_nar_int _) d_Berths_add_76 (hR _ _ h)
    replace h := Ok_f c h
    refine G_iconst d_Berths_add_33 lt_iconst_m1 ?_
    replace h := Ok_some h
    exact G_iret rfl (vp_nar_int _) d_Berths_add_34 (hR _ _ h)
  replace h := Ok_t c h
  refine G_iconst d_Berths_add_22 lt_iconst_m1 ?_
  replace h := Ok_some h
  exact G_iret rfl (vp_nar_int _) d_Berths_add_23 (hR _ _ h)
theorem c_Berths_add {l : Launch} {D : va_G} {cI cZ cJ : ClassId} {ad : Nat → Nat} (a1 a2 : Int32) (s : MS) {P : Int32 → MS → Prop} (h : Ok2 (f_Berths_add a1 a2 s) P) : Ct (XX l D cI cZ cJ ad) y_Berths_add b_Berths_add 3 (some .int) 1 [.ref (ad 2), .int a1, .int a2] s (P) :=
  Ct.of mi_Berths_add (Nat.le_of_ble_eq_true rfl) (f_Berths_add_w a1 a2 s (Post := fun q => P q.1 q.2) (fun _ _ h => h) (Ok2_ok h))
-- Berths_has
noncomputable def f_Berths_has (a1 : Int32) (s : MS) : Option Int32 :=
  if a1 < 0 then (some (0 : Int32)) else (if (s.1 2) ≤ a1 then (some (0 : Int32)) else (some (1 : Int32)))
theorem f_Berths_has_w {l : Launch} {D : va_G} {cI cZ cJ : ClassId} {ad : Nat → Nat} (a1 : Int32) (s : MS) {Q : Int32 → MS → Prop} {Post : Int32 → Prop} (hR : ∀ (r9 : Int32), Post (r9) → Q r9 s) (h : Ok (f_Berths_has a1 s) Post) : G (XX l D cI cZ cJ ad) "SmallHarbour$Berths" b_Berths_has 2 (some .boolean) 0 0 [(0, .ref (ad 2)), (1, .int a1)] [] s Q := by
  unfold f_Berths_has at h
  refine G_iload_n d_Berths_has_0 rfl 1 rfl ?_
  refine G_if_lt (tgt := 16) d_Berths_has_1 (by decide) (fun c => ?_) (fun c => ?_)
  · replace h := Ok_t c h
    refine G_iconst d_Berths_has_16 lt_iconst_0 ?_
    replace h := Ok_some h
    exact G_iret rfl rfl d_Berths_has_17 (hR _ h)
  replace h := Ok_f c h
  refine G_iload_n d_Berths_has_4 rfl 1 rfl ?_
  refine G_aload_n d_Berths_has_5 rfl 0 rfl ?_
  refine gx_Berths_count d_Berths_has_6 w_49 ?_
  refine G_icmp_ge (tgt := 16) d_Berths_has_9 (by decide) (fun c => ?_) (fun c => ?_)
  · replace h := Ok_t c h
    refine G_iconst d_Berths_has_16 lt_iconst_0 ?_
    replace h := Ok_some h
    exact G_iret rfl rfl d_Berths_has_17 (hR _ h)
  replace h := Ok_f c h
  refine G_iconst d_Berths_has_12 lt_iconst_1 ?_
  refine G_goto (tgt := 17) d_Berths_has_13 (by decide) ?_
  replace h := Ok_some h
  exact G_iret rfl rfl d_Berths_has_17 (hR _ h)
theorem c_Berths_has {l : Launch} {D : va_G} {cI cZ cJ : ClassId} {ad : Nat → Nat} (a1 : Int32) (s : MS) {P : Int32 → Prop} (h : Ok (f_Berths_has a1 s) P) : Ct (XX l D cI cZ cJ ad) y_Berths_has b_Berths_has 2 (some .boolean) 0 [.ref (ad 2), .int a1] s (fun r9 s9 => s9 = s ∧ P r9) :=
  Ct.of mi_Berths_has (Nat.le_of_ble_eq_true rfl) (f_Berths_has_w a1 s (fun _ h => ⟨rfl, h⟩) h)
-- Berths_isAnyHeld
noncomputable def Berths_isAnyHeld_l2 (s : MS) (x1 : Int32) : Option ((Int32) ⊕ Int32) :=
  if (s.1 2) ≤ x1 then (xit (some (0 : Int32))) else (chk (inb x1 10) (bnd (s.2 6 x1.toNatClampNeg) fun v1 => if v1 = (-1 : Int32) then (bnd (x1 + (1 : Int32)) fun v2 => some (.inl v2)) else (xit (some (1 : Int32)))))
theorem Berths_isAnyHeld_l2_w {l : Launch} {D : va_G} {cI cZ cJ : ClassId} {ad : Nat → Nat} (x1 : Int32) (s : MS) {Q : Int32 → MS → Prop} {Post : ((Int32) ⊕ Int32) → Prop} (hR : ∀ (r9 : Int32), Post (.inr (r9)) → Q r9 s) (hL2 : ∀ (z1 : Int32) , Post (.inl z1) → G (XX l D cI cZ cJ ad) "SmallHarbour$Berths" b_Berths_isAnyHeld 2 (some .boolean) 0 2 [(0, .ref (ad 2)), (1, .int z1)] [] s Q) (h : Ok (Berths_isAnyHeld_l2 s x1) Post) : G (XX l D cI cZ cJ ad) "SmallHarbour$Berths" b_Berths_isAnyHeld 2 (some .boolean) 0 2 [(0, .ref (ad 2)), (1, .int x1)] [] s Q := by
  unfold Berths_isAnyHeld_l2 at h
  refine G_iload_n d_Berths_isAnyHeld_2 rfl 1 rfl ?_
  refine G_aload_n d_Berths_isAnyHeld_3 rfl 0 rfl ?_
  refine gx_Berths_count d_Berths_isAnyHeld_4 w_49 ?_
  refine G_icmp_ge (tgt := 28) d_Berths_isAnyHeld_7 (by decide) (fun c => ?_) (fun c => ?_)
  · replace h := Ok_t c h
    replace h := Ok_xit h
    refine G_iconst d_Berths_isAnyHeld_28 lt_iconst_0 ?_
    replace h := Ok_some h
    exact G_iret rfl rfl d_Berths_isAnyHeld_29 (hR _ h)
  replace h := Ok_f c h
  refine G_aload_n d_Berths_isAnyHeld_10 rfl 0 rfl ?_
  refine gx_Berths_holder d_Berths_isAnyHeld_11 w_47 ?_
  refine G_iload_n d_Berths_isAnyHeld_14 rfl 1 rfl ?_
  refine lx_6 d_Berths_isAnyHeld_15 (Ok_ld h).1 (fun v1 e => ?_)
  replace h := (Ok_ld h).2 v1 e
  clear e
  refine G_iconst d_Berths_isAnyHeld_16 lt_iconst_m1 ?_
  refine G_icmp_eq (tgt := 22) d_Berths_isAnyHeld_17 (by decide) (fun c => ?_) (fun c => ?_)
  · replace h := Ok_t c h
    refine G_iinc d_Berths_isAnyHeld_22 1 rfl lt_iconst_1 rfl (Nat.le_of_ble_eq_true rfl) (fun x => [(1, .int x), (0, .ref (ad 2))]) (fun _ => rfl) (fun v2 e => ?_)
    replace h := Ok_bnd h v2 e
    clear e
    refine G_goto (tgt := 2) d_Berths_isAnyHeld_25 (by decide) ?_
    refine G_lv [1, 0] rfl ?_
    replace h := Ok_some h
    exact hL2 v2 h
  replace h := Ok_f c h
  replace h := Ok_xit h
  refine G_iconst d_Berths_isAnyHeld_20 lt_iconst_1 ?_
  replace h := Ok_some h
  exact G_iret rfl rfl d_Berths_isAnyHeld_21 (hR _ h)
noncomputable def f_Berths_isAnyHeld (s : MS) : Option Int32 :=
  loop (fun z => Berths_isAnyHeld_l2 s z) (0 : Int32)
theorem f_Berths_isAnyHeld_w {l : Launch} {D : va_G} {cI cZ cJ : ClassId} {ad : Nat → Nat} (s : MS) {Q : Int32 → MS → Prop} {Post : Int32 → Prop} (hR : ∀ (r9 : Int32), Post (r9) → Q r9 s) (h : Ok (f_Berths_isAnyHeld s) Post) : G (XX l D cI cZ cJ ad) "SmallHarbour$Berths" b_Berths_isAnyHeld 2 (some .boolean) 0 0 [(0, .ref (ad 2))] [] s Q := by
  unfold f_Berths_isAnyHeld at h
  refine G_iconst d_Berths_isAnyHeld_0 lt_iconst_0 ?_
  refine G_istore_n d_Berths_isAnyHeld_1 rfl (Nat.le_of_ble_eq_true rfl) (fun x => [(1, .int x), (0, .ref (ad 2))]) (fun _ => rfl) (fun x e => ?_)
  subst e
  refine G_lv [1, 0] rfl ?_
  refine G_loop (J := (fun z => G (XX l D cI cZ cJ ad) "SmallHarbour$Berths" b_Berths_isAnyHeld 2 (some .boolean) 0 2 [(0, .ref (ad 2)), (1, .int z)] [] s Q)) (fun z h => ?_) (0 : Int32) h
  refine Berths_isAnyHeld_l2_w z s ?_ ?_ h
  · exact hR
  · exact (fun z1 h => h)
theorem c_Berths_isAnyHeld {l : Launch} {D : va_G} {cI cZ cJ : ClassId} {ad : Nat → Nat} (s : MS) {P : Int32 → Prop} (h : Ok (f_Berths_isAnyHeld  s) P) : Ct (XX l D cI cZ cJ ad) y_Berths_isAnyHeld b_Berths_isAnyHeld 2 (some .boolean) 0 [.ref (ad 2)] s (fun r9 s9 => s9 = s ∧ P r9) :=
  Ct.of mi_Berths_isAnyHeld (Nat.le_of_ble_eq_true rfl) (f_Berths_isAnyHeld_w  s (fun _ h => ⟨rfl, h⟩) h)
-- Berths_takes
noncomputable def f_Berths_takes (a1 a2 a3 a4 : Int32) (s : MS) : Option Int32 :=
  chk (inb a1 10) (bnd (s.2 4 a1.toNatClampNeg) fun v1 => if v1 < a2 then (some (0 : Int32)) else (chk (inb a1 10) (bnd (s.2 5 a1.toNatClampNeg) fun v2 => if (v2 + a4) < a3 then (some (0 : Int32)) else (some (1 : Int32)))))
theorem f_Berths_takes_w {l : Launch} {D : va_G} {cI cZ cJ : ClassId} {ad : Nat → Nat} (a1 a2 a3 a4 : Int32) (s : MS) {Q : Int32 → MS → Prop} {Post : Int32 → Prop} (hR : ∀ (r9 : Int32), Post (r9) → Q r9 s) (h : Ok (f_Berths_takes a1 a2 a3 a4 s) Post) : G (XX l D cI cZ cJ ad) "SmallHarbour$Berths" b_Berths_takes 5 (some .boolean) 0 0 [(0, .ref (ad 2)), (1, .int a1), (2, .int a2), (3, .int a3), (4, .int a4)] [] s Q := by
  unfold f_Berths_takes at h
  refine G_iload_n d_Berths_takes_0 rfl 2 rfl ?_
  refine G_aload_n d_Berths_takes_1 rfl 0 rfl ?_
  refine gx_Berths_length d_Berths_takes_2 w_45 ?_
  refine G_iload_n d_Berths_takes_5 rfl 1 rfl ?_
  refine lx_4 d_Berths_takes_6 (Ok_ld h).1 (fun v1 e => ?_)
  replace h := (Ok_ld h).2 v1 e
  clear e
  refine G_icmp_gt (tgt := 27) d_Berths_takes_7 (by decide) (fun c => ?_) (fun c => ?_)
  · replace h := Ok_t c h
    refine G_iconst d_Berths_takes_27 lt_iconst_0 ?_
    replace h := Ok_some h
    exact G_iret rfl rfl d_Berths_takes_28 (hR _ h)
  replace h := Ok_f c h
  refine G_iload_n d_Berths_takes_10 rfl 3 rfl ?_
  refine G_aload_n d_Berths_takes_11 rfl 0 rfl ?_
  refine gx_Berths_depth d_Berths_takes_12 w_46 ?_
  refine G_iload_n d_Berths_takes_15 rfl 1 rfl ?_
  refine lx_5 d_Berths_takes_16 (Ok_ld h).1 (fun v2 e => ?_)
  replace h := (Ok_ld h).2 v2 e
  clear e
  refine G_iload d_Berths_takes_17 4 rfl ?_
  refine G_iadd d_Berths_takes_19 ?_
  refine G_icmp_gt (tgt := 27) d_Berths_takes_20 (by decide) (fun c => ?_) (fun c => ?_)
  · replace h := Ok_t c h
    refine G_iconst d_Berths_takes_27 lt_iconst_0 ?_
    replace h := Ok_some h
    exact G_iret rfl rfl d_Berths_takes_28 (hR _ h)
  replace h := Ok_f c h
  refine G_iconst d_Berths_takes_23 lt_iconst_1 ?_
  refine G_goto (tgt := 28) d_Berths_takes_24 (by decide) ?_
  replace h := Ok_some h
  exact G_iret rfl rfl d_Berths_takes_28 (hR _ h)
theorem c_Berths_takes {l : Launch} {D : va_G} {cI cZ cJ : ClassId} {ad : Nat → Nat} (a1 a2 a3 a4 : Int32) (s : MS) {P : Int32 → Prop} (h : Ok (f_Berths_takes a1 a2 a3 a4 s) P) : Ct (XX l D cI cZ cJ ad) y_Berths_takes b_Berths_takes 5 (some .boolean) 0 [.ref (ad 2), .int a1, .int a2, .int a3, .int a4] s (fun r9 s9 => s9 = s ∧ P r9) :=
  Ct.of mi_Berths_takes (Nat.le_of_ble_eq_true rfl) (f_Berths_takes_w a1 a2 a3 a4 s (fun _ h => ⟨rfl, h⟩) h)
-- Boats_add
noncomputable def f_Boats_add (a1 a2 a3 a4 : Int32) (s : MS) : Option (Int32 × MS) :=
  if (s.1 3) < (30 : Int32) then (chk (inb (s.1 3) 30) (bnd (pa s 7 (s.1 3).toNatClampNeg a1) fun s1 => chk (inb (s1.1 3) 30) (bnd (pa s1 8 (s1.1 3).toNatClampNeg a2) fun s2 => chk (inb (s2.1 3) 30) (bnd (pa s2 9 (s2.1 3).toNatClampNeg a3) fun s3 => chk (inb (s3.1 3) 30) (bnd (pa s3 10 (s3.1 3).toNatClampNeg a4) fun s4 => bnd (pf s4 3 ((s4.1 3) + (1 : Int32))) fun s5 => some ((s4.1 3), s5)))))) else (some ((-1 : Int32), s))
theorem f_Boats_add_w {l : Launch} {D : va_G} {cI cZ cJ : ClassId} {ad : Nat → Nat} (a1 a2 a3 a4 : Int32) (s : MS) {Q : Int32 → MS → Prop} {Post : (Int32 × MS) → Prop} (hR : ∀ (r9 : Int32) (s9 : MS), Post ((r9, s9)) → Q r9 s9) (h : Ok (f_Boats_add a1 a2 a3 a4 s) Post) : G (XX l D cI cZ cJ ad) "SmallHarbour$Boats" b_Boats_add 5 (some .int) 0 0 [(0, .ref (ad 3)), (1, .int a1), (2, .int a2), (3, .int a3), (4, .int a4)] [] s Q := by
  unfold f_Boats_add at h
  refine G_aload_n d_Boats_add_0 rfl 0 rfl ?_
  refine gx_Boats_count d_Boats_add_1 w_74 ?_
  refine G_bipush d_Boats_add_4 lt_bipush_30 ?_
  refine G_icmp_lt (tgt := 11) d_Boats_add_6 (by decide) (fun c => ?_) (fun c => ?_)
  · replace h := Ok_t c h
    refine G_aload_n d_Boats_add_11 rfl 0 rfl ?_
    refine gx_Boats_length d_Boats_add_12 w_66 ?_
    refine G_aload_n d_Boats_add_15 rfl 0 rfl ?_
    refine gx_Boats_count d_Boats_add_16 w_74 ?_
    refine G_iload_n d_Boats_add_19 rfl 1 rfl ?_
    refine sx_7 d_Boats_add_20 (Ok_ld h).1 (fun s1 e => ?_)
    replace h := (Ok_ld h).2 s1 e
    clear e
    refine G_aload_n d_Boats_add_21 rfl 0 rfl ?_
    refine gx_Boats_draught d_Boats_add_22 w_68 ?_
    refine G_aload_n d_Boats_add_25 rfl 0 rfl ?_
    refine gx_Boats_count d_Boats_add_26 w_74 ?_
    refine G_iload_n d_Boats_add_29 rfl 2 rfl ?_
    refine sx_8 d_Boats_add_30 (Ok_ld h).1 (fun s2 e => ?_)
    replace h := (Ok_ld h).2 s2 e
    clear e
    refine G_aload_n d_Boats_add_31 rfl 0 rfl ?_
    refine gx_Boats_weight d_Boats_add_32 w_70 ?_
    refine G_aload_n d_Boats_add_35 rfl 0 rfl ?_
    refine gx_Boats_count d_Boats_add_36 w_74 ?_
    refine G_iload_n d_Boats_add_39 rfl 3 rfl ?_
    refine sx_9 d_Boats_add_40 (Ok_ld h).1 (fun s3 e => ?_)
    replace h := (Ok_ld h).2 s3 e
    clear e
    refine G_aload_n d_Boats_add_41 rfl 0 rfl ?_
    refine gx_Boats_home d_Boats_add_42 w_72 ?_
    refine G_aload_n d_Boats_add_45 rfl 0 rfl ?_
    refine gx_Boats_count d_Boats_add_46 w_74 ?_
    refine G_iload d_Boats_add_49 4 rfl ?_
    refine sx_10 d_Boats_add_51 (Ok_ld h).1 (fun s4 e => ?_)
    replace h := (Ok_ld h).2 s4 e
    clear e
    refine G_aload_n d_Boats_add_52 rfl 0 rfl ?_
    refine G_dup d_Boats_add_53 rfl ?_
    refine gx_Boats_count d_Boats_add_54 w_74 ?_
    refine G_dup_x1 d_Boats_add_57 rfl rfl ?_
    refine G_iconst d_Boats_add_58 lt_iconst_1 ?_
    refine G_iadd d_Boats_add_59 ?_
    refine px_Boats_count d_Boats_add_60 w_74 (fun s5 e => ?_)
    replace h := Ok_bnd h s5 e
    clear e
    replace h := Ok_some h
    exact G_iret rfl (vp_nar_int _) d_Boats_add_63 (hR _ _ h)
  replace h := Ok_f c h
  refine G_iconst d_Boats_add_9 lt_iconst_m1 ?_
  replace h := Ok_some h
  exact G_iret rfl (vp_nar_int _) d_Boats_add_10 (hR _ _ h)
theorem c_Boats_add {l : Launch} {D : va_G} {cI cZ cJ : ClassId} {ad : Nat → Nat} (a1 a2 a3 a4 : Int32) (s : MS) {P : Int32 → MS → Prop} (h : Ok2 (f_Boats_add a1 a2 a3 a4 s) P) : Ct (XX l D cI cZ cJ ad) y_Boats_add b_Boats_add 5 (some .int) 0 [.ref (ad 3), .int a1, .int a2, .int a3, .int a4] s (P) :=
  Ct.of mi_Boats_add (Nat.le_of_ble_eq_true rfl) (f_Boats_add_w a1 a2 a3 a4 s (Post := fun q => P q.1 q.2) (fun _ _ h => h) (Ok2_ok h))
-- Boats_has
noncomputable def f_Boats_has (a1 : Int32) (s : MS) : Option Int32 :=
  if a1 < 0 then (some (0 : Int32)) else (if (s.1 3) ≤ a1 then (some (0 : Int32)) else (some (1 : Int32)))
theorem f_Boats_has_w {l : Launch} {D : va_G} {cI cZ cJ : ClassId} {ad : Nat → Nat} (a1 : Int32) (s : MS) {Q : Int32 → MS → Prop} {Post : Int32 → Prop} (hR : ∀ (r9 : Int32), Post (r9) → Q r9 s) (h : Ok (f_Boats_has a1 s) Post) : G (XX l D cI cZ cJ ad) "SmallHarbour$Boats" b_Boats_has 2 (some .boolean) 0 0 [(0, .ref (ad 3)), (1, .int a1)] [] s Q := by
  unfold f_Boats_has at h
  refine G_iload_n d_Boats_has_0 rfl 1 rfl ?_
  refine G_if_lt (tgt := 16) d_Boats_has_1 (by decide) (fun c => ?_) (fun c => ?_)
  · replace h := Ok_t c h
    refine G_iconst d_Boats_has_16 lt_iconst_0 ?_
    replace h := Ok_some h
    exact G_iret rfl rfl d_Boats_has_17 (hR _ h)
  replace h := Ok_f c h
  refine G_iload_n d_Boats_has_4 rfl 1 rfl ?_
  refine G_aload_n d_Boats_has_5 rfl 0 rfl ?_
  refine gx_Boats_count d_Boats_has_6 w_74 ?_
  refine G_icmp_ge (tgt := 16) d_Boats_has_9 (by decide) (fun c => ?_) (fun c => ?_)
  · replace h := Ok_t c h
    refine G_iconst d_Boats_has_16 lt_iconst_0 ?_
    replace h := Ok_some h
    exact G_iret rfl rfl d_Boats_has_17 (hR _ h)
  replace h := Ok_f c h
  refine G_iconst d_Boats_has_12 lt_iconst_1 ?_
  refine G_goto (tgt := 17) d_Boats_has_13 (by decide) ?_
  replace h := Ok_some h
  exact G_iret rfl rfl d_Boats_has_17 (hR _ h)
theorem c_Boats_has {l : Launch} {D : va_G} {cI cZ cJ : ClassId} {ad : Nat → Nat} (a1 : Int32) (s : MS) {P : Int32 → Prop} (h : Ok (f_Boats_has a1 s) P) : Ct (XX l D cI cZ cJ ad) y_Boats_has b_Boats_has 2 (some .boolean) 0 [.ref (ad 3), .int a1] s (fun r9 s9 => s9 = s ∧ P r9) :=
  Ct.of mi_Boats_has (Nat.le_of_ble_eq_true rfl) (f_Boats_has_w a1 s (fun _ h => ⟨rfl, h⟩) h)
-- Hb_about
noncomputable def f_Hb_about (a1 : Int32) (s : MS) : Option Int32 :=
  bnd a1 fun v1 => if v1 = (0 : Int32) then (some (s.1 2)) else (if v1 = (1 : Int32) then (some (s.1 3)) else (if v1 = (2 : Int32) then (some (s.1 5)) else (if v1 = (3 : Int32) then (some (s.1 4)) else (if v1 = (4 : Int32) then (some (s.1 10)) else (if v1 = (5 : Int32) then (some (s.1 14)) else (if v1 = (6 : Int32) then (some (s.1 28)) else (if v1 = (7 : Int32) then (some (s.1 18)) else (if v1 = (8 : Int32) then (some (s.1 0)) else (some (-1 : Int32))))))))))
theorem f_Hb_about_w {l : Launch} {D : va_G} {cI cZ cJ : ClassId} {ad : Nat → Nat} (a1 : Int32) (s : MS) {Q : Int32 → MS → Prop} {Post : Int32 → Prop} (hR : ∀ (r9 : Int32), Post (r9) → Q r9 s) (h : Ok (f_Hb_about a1 s) Post) : G (XX l D cI cZ cJ ad) "SmallHarbour" b_Hb_about 2 (some .int) 0 0 [(0, .ref (ad 0)), (1, .int a1)] [] s Q := by
  unfold f_Hb_about at h
  refine G_iload_n d_Hb_about_0 rfl 1 rfl ?_
  refine G_topi (fun v1 e => ?_)
  replace h := Ok_bnd h v1 e
  clear e
  by_cases c0 : v1 = (0 : Int32)
  · replace h := Ok_t c0 h
    refine G_tableIn (tgt := 52) d_Hb_about_1 (by rw [c0]; decide) (by rw [c0]; decide) (by rw [c0]; rfl) (by decide) ?_
    refine G_aload_n d_Hb_about_52 rfl 0 rfl ?_
    refine gx_Hb_berths d_Hb_about_53 w_348 ?_
    refine gx_Berths_count d_Hb_about_56 w_50 ?_
    replace h := Ok_some h
    exact G_iret rfl (vp_nar_int _) d_Hb_about_59 (hR _ h)
  replace h := Ok_f c0 h
  have n0 := ne_ti (z := 0) (by decide) c0
  by_cases c1 : v1 = (1 : Int32)
  · replace h := Ok_t c1 h
    refine G_tableIn (tgt := 60) d_Hb_about_1 (by rw [c1]; decide) (by rw [c1]; decide) (by rw [c1]; rfl) (by decide) ?_
    refine G_aload_n d_Hb_about_60 rfl 0 rfl ?_
    refine gx_Hb_boats d_Hb_about_61 w_349 ?_
    refine gx_Boats_count d_Hb_about_64 w_75 ?_
    replace h := Ok_some h
    exact G_iret rfl (vp_nar_int _) d_Hb_about_67 (hR _ h)
  replace h := Ok_f c1 h
  have n1 := ne_ti (z := 1) (by decide) c1
  by_cases c2 : v1 = (2 : Int32)
  · replace h := Ok_t c2 h
    refine G_tableIn (tgt := 68) d_Hb_about_1 (by rw [c2]; decide) (by rw [c2]; decide) (by rw [c2]; rfl) (by decide) ?_
    refine G_aload_n d_Hb_about_68 rfl 0 rfl ?_
    refine gx_Hb_stays d_Hb_about_69 w_351 ?_
    refine gx_Stays_count d_Hb_about_72 w_124 ?_
    replace h := Ok_some h
    exact G_iret rfl (vp_nar_int _) d_Hb_about_75 (hR _ h)
  replace h := Ok_f c2 h
  have n2 := ne_ti (z := 2) (by decide) c2
  by_cases c3 : v1 = (3 : Int32)
  · replace h := Ok_t c3 h
    refine G_tableIn (tgt := 76) d_Hb_about_1 (by rw [c3]; decide) (by rw [c3]; decide) (by rw [c3]; rfl) (by decide) ?_
    refine G_aload_n d_Hb_about_76 rfl 0 rfl ?_
    refine gx_Hb_spans d_Hb_about_77 w_350 ?_
    refine gx_Spans_count d_Hb_about_80 w_99 ?_
    replace h := Ok_some h
    exact G_iret rfl (vp_nar_int _) d_Hb_about_83 (hR _ h)
  replace h := Ok_f c3 h
  have n3 := ne_ti (z := 3) (by decide) c3
  by_cases c4 : v1 = (4 : Int32)
  · replace h := Ok_t c4 h
    refine G_tableIn (tgt := 84) d_Hb_about_1 (by rw [c4]; decide) (by rw [c4]; decide) (by rw [c4]; rfl) (by decide) ?_
    refine G_aload_n d_Hb_about_84 rfl 0 rfl ?_
    refine gx_Hb_crane d_Hb_about_85 w_353 ?_
    refine gx_Hoist_count d_Hb_about_88 w_194 ?_
    replace h := Ok_some h
    exact G_iret rfl (vp_nar_int _) d_Hb_about_91 (hR _ h)
  replace h := Ok_f c4 h
  have n4 := ne_ti (z := 4) (by decide) c4
  by_cases c5 : v1 = (5 : Int32)
  · replace h := Ok_t c5 h
    refine G_tableIn (tgt := 92) d_Hb_about_1 (by rw [c5]; decide) (by rw [c5]; decide) (by rw [c5]; rfl) (by decide) ?_
    refine G_aload_n d_Hb_about_92 rfl 0 rfl ?_
    refine gx_Hb_barn d_Hb_about_93 w_354 ?_
    refine gx_Shed_count d_Hb_about_96 w_226 ?_
    replace h := Ok_some h
    exact G_iret rfl (vp_nar_int _) d_Hb_about_99 (hR _ h)
  replace h := Ok_f c5 h
  have n5 := ne_ti (z := 5) (by decide) c5
  by_cases c6 : v1 = (6 : Int32)
  · replace h := Ok_t c6 h
    refine G_tableIn (tgt := 100) d_Hb_about_1 (by rw [c6]; decide) (by rw [c6]; decide) (by rw [c6]; rfl) (by decide) ?_
    refine G_aload_n d_Hb_about_100 rfl 0 rfl ?_
    refine gx_Hb_rules d_Hb_about_101 w_357 ?_
    refine gx_Rules_count d_Hb_about_104 w_326 ?_
    replace h := Ok_some h
    exact G_iret rfl (vp_nar_int _) d_Hb_about_107 (hR _ h)
  replace h := Ok_f c6 h
  have n6 := ne_ti (z := 6) (by decide) c6
  by_cases c7 : v1 = (7 : Int32)
  · replace h := Ok_t c7 h
    refine G_tableIn (tgt := 108) d_Hb_about_1 (by rw [c7]; decide) (by rw [c7]; decide) (by rw [c7]; rfl) (by decide) ?_
    refine G_aload_n d_Hb_about_108 rfl 0 rfl ?_
    refine gx_Hb_tape d_Hb_about_109 w_355 ?_
    refine gx_Tape_count d_Hb_about_112 w_269 ?_
    replace h := Ok_some h
    exact G_iret rfl (vp_nar_int _) d_Hb_about_115 (hR _ h)
  replace h := Ok_f c7 h
  have n7 := ne_ti (z := 7) (by decide) c7
  by_cases c8 : v1 = (8 : Int32)
  · replace h := Ok_t c8 h
    refine G_tableIn (tgt := 116) d_Hb_about_1 (by rw [c8]; decide) (by rw [c8]; decide) (by rw [c8]; rfl) (by decide) ?_
    refine G_aload_n d_Hb_about_116 rfl 0 rfl ?_
    refine gx_Hb_keptCount d_Hb_about_117 w_359 ?_
    replace h := Ok_some h
    exact G_iret rfl (vp_nar_int _) d_Hb_about_120 (hR _ h)
  replace h := Ok_f c8 h
  have n8 := ne_ti (z := 8) (by decide) c8
  refine G_tableOut (tgt := 121) d_Hb_about_1 (by omega) (by decide) ?_
  refine G_iconst d_Hb_about_121 lt_iconst_m1 ?_
  replace h := Ok_some h
  exact G_iret rfl (vp_nar_int _) d_Hb_about_122 (hR _ h)
theorem c_Hb_about {l : Launch} {D : va_G} {cI cZ cJ : ClassId} {ad : Nat → Nat} (a1 : Int32) (s : MS) {P : Int32 → Prop} (h : Ok (f_Hb_about a1 s) P) : Ct (XX l D cI cZ cJ ad) y_Hb_about b_Hb_about 2 (some .int) 0 [.ref (ad 0), .int a1] s (fun r9 s9 => s9 = s ∧ P r9) :=
  Ct.of mi_Hb_about (Nat.le_of_ble_eq_true rfl) (f_Hb_about_w a1 s (fun _ h => ⟨rfl, h⟩) h)
-- Hb_areNights
noncomputable def f_Hb_areNights (a1 a2 : Int32) : Option Int32 :=
  if a1 < 0 then (some (0 : Int32)) else (if a2 ≤ a1 then (some (0 : Int32)) else (if (400 : Int32) < a2 then (some (0 : Int32)) else (some (1 : Int32))))
theorem f_Hb_areNights_w {l : Launch} {D : va_G} {cI cZ cJ : ClassId} {ad : Nat → Nat} (a1 a2 : Int32) (s : MS) {Q : Int32 → MS → Prop} {Post : Int32 → Prop} (hR : ∀ (r9 : Int32), Post (r9) → Q r9 s) (h : Ok (f_Hb_areNights a1 a2) Post) : G (XX l D cI cZ cJ ad) "SmallHarbour" b_Hb_areNights 2 (some .boolean) 0 0 [(0, .int a1), (1, .int a2)] [] s Q := by
  unfold f_Hb_areNights at h
  refine G_iload_n d_Hb_areNights_0 rfl 0 rfl ?_
  refine G_if_lt (tgt := 20) d_Hb_areNights_1 (by decide) (fun c => ?_) (fun c => ?_)
  · replace h := Ok_t c h
    refine G_iconst d_Hb_areNights_20 lt_iconst_0 ?_
    replace h := Ok_some h
    exact G_iret rfl rfl d_Hb_areNights_21 (hR _ h)
  replace h := Ok_f c h
  refine G_iload_n d_Hb_areNights_4 rfl 0 rfl ?_
  refine G_iload_n d_Hb_areNights_5 rfl 1 rfl ?_
  refine G_icmp_ge (tgt := 20) d_Hb_areNights_6 (by decide) (fun c => ?_) (fun c => ?_)
  · replace h := Ok_t c h
    refine G_iconst d_Hb_areNights_20 lt_iconst_0 ?_
    replace h := Ok_some h
    exact G_iret rfl rfl d_Hb_areNights_21 (hR _ h)
  replace h := Ok_f c h
  refine G_iload_n d_Hb_areNights_9 rfl 1 rfl ?_
  refine G_sipush d_Hb_areNights_10 lt_sipush_400 ?_
  refine G_icmp_gt (tgt := 20) d_Hb_areNights_13 (by decide) (fun c => ?_) (fun c => ?_)
  · replace h := Ok_t c h
    refine G_iconst d_Hb_areNights_20 lt_iconst_0 ?_
    replace h := Ok_some h
    exact G_iret rfl rfl d_Hb_areNights_21 (hR _ h)
  replace h := Ok_f c h
  refine G_iconst d_Hb_areNights_16 lt_iconst_1 ?_
  refine G_goto (tgt := 21) d_Hb_areNights_17 (by decide) ?_
  replace h := Ok_some h
  exact G_iret rfl rfl d_Hb_areNights_21 (hR _ h)
theorem c_Hb_areNights {l : Launch} {D : va_G} {cI cZ cJ : ClassId} {ad : Nat → Nat} (a1 a2 : Int32) (s : MS) {P : Int32 → Prop} (h : Ok (f_Hb_areNights a1 a2) P) : Ct (XX l D cI cZ cJ ad) y_Hb_areNights b_Hb_areNights 2 (some .boolean) 0 [.int a1, .int a2] s (fun r9 s9 => s9 = s ∧ P r9) :=
  Ct.of mi_Hb_areNights (Nat.le_of_ble_eq_true rfl) (f_Hb_areNights_w a1 a2 s (fun _ h => ⟨rfl, h⟩) h)
-- Spans_add
noncomputable def f_Spans_add (a1 a2 a3 : Int32) (s : MS) : Option (Int32 × MS) :=
  if (s.1 4) < (60 : Int32) then (chk (inb (s.1 4) 60) (bnd (pa s 11 (s.1 4).toNatClampNeg a1) fun s1 => chk (inb (s1.1 4) 60) (bnd (pa s1 12 (s1.1 4).toNatClampNeg a2) fun s2 => chk (inb (s2.1 4) 60) (bnd (pa s2 13 (s2.1 4).toNatClampNeg a3) fun s3 => bnd (pf s3 4 ((s3.1 4) + (1 : Int32))) fun s4 => some ((1 : Int32), s4))))) else (some ((0 : Int32), s))
theorem f_Spans_add_w {l : Launch} {D : va_G} {cI cZ cJ : ClassId} {ad : Nat → Nat} (a1 a2 a3 : Int32) (s : MS) {Q : Int32 → MS → Prop} {Post : (Int32 × MS) → Prop} (hR : ∀ (r9 : Int32) (s9 : MS), Post ((r9, s9)) → Q r9 s9) (h : Ok (f_Spans_add a1 a2 a3 s) Post) : G (XX l D cI cZ cJ ad) "SmallHarbour$Spans" b_Spans_add 4 (some .boolean) 0 0 [(0, .ref (ad 4)), (1, .int a1), (2, .int a2), (3, .int a3)] [] s Q := by
  unfold f_Spans_add at h
  refine G_aload_n d_Spans_add_0 rfl 0 rfl ?_
  refine gx_Spans_count d_Spans_add_1 w_98 ?_
  refine G_bipush d_Spans_add_4 lt_bipush_60 ?_
  refine G_icmp_lt (tgt := 11) d_Spans_add_6 (by decide) (fun c => ?_) (fun c => ?_)
  · replace h := Ok_t c h
    refine G_aload_n d_Spans_add_11 rfl 0 rfl ?_
    refine gx_Spans_boat d_Spans_add_12 w_93 ?_
    refine G_aload_n d_Spans_add_15 rfl 0 rfl ?_
    refine gx_Spans_count d_Spans_add_16 w_98 ?_
    refine G_iload_n d_Spans_add_19 rfl 1 rfl ?_
    refine sx_11 d_Spans_add_20 (Ok_ld h).1 (fun s1 e => ?_)
    replace h := (Ok_ld h).2 s1 e
    clear e
    refine G_aload_n d_Spans_add_21 rfl 0 rfl ?_
    refine gx_Spans_from d_Spans_add_22 w_94 ?_
    refine G_aload_n d_Spans_add_25 rfl 0 rfl ?_
    refine gx_Spans_count d_Spans_add_26 w_98 ?_
    refine G_iload_n d_Spans_add_29 rfl 2 rfl ?_
    refine sx_12 d_Spans_add_30 (Ok_ld h).1 (fun s2 e => ?_)
    replace h := (Ok_ld h).2 s2 e
    clear e
    refine G_aload_n d_Spans_add_31 rfl 0 rfl ?_
    refine gx_Spans_to d_Spans_add_32 w_96 ?_
    refine G_aload_n d_Spans_add_35 rfl 0 rfl ?_
    refine gx_Spans_count d_Spans_add_36 w_98 ?_
    refine G_iload_n d_Spans_add_39 rfl 3 rfl ?_
    refine sx_13 d_Spans_add_40 (Ok_ld h).1 (fun s3 e => ?_)
    replace h := (Ok_ld h).2 s3 e
    clear e
    refine G_aload_n d_Spans_add_41 rfl 0 rfl ?_
    refine G_dup d_Spans_add_42 rfl ?_
    refine gx_Spans_count d_Spans_add_43 w_98 ?_
    refine G_iconst d_Spans_add_46 lt_iconst_1 ?_
    refine G_iadd d_Spans_add_47 ?_
    refine px_Spans_count d_Spans_add_48 w_98 (fun s4 e => ?_)
    replace h := Ok_bnd h s4 e
    clear e
    refine G_iconst d_Spans_add_51 lt_iconst_1 ?_
    replace h := Ok_some h
    exact G_iret rfl rfl d_Spans_add_52 (hR _ _ h)
  replace h := Ok_f c h
  refine G_iconst d_Spans_add_9 lt_iconst_0 ?_
  replace h := Ok_some h
  exact G_iret rfl rfl d_Spans_add_10 (hR _ _ h)
theorem c_Spans_add {l : Launch} {D : va_G} {cI cZ cJ : ClassId} {ad : Nat → Nat} (a1 a2 a3 : Int32) (s : MS) {P : Int32 → MS → Prop} (h : Ok2 (f_Spans_add a1 a2 a3 s) P) : Ct (XX l D cI cZ cJ ad) y_Spans_add b_Spans_add 4 (some .boolean) 0 [.ref (ad 4), .int a1, .int a2, .int a3] s (P) :=
  Ct.of mi_Spans_add (Nat.le_of_ble_eq_true rfl) (f_Spans_add_w a1 a2 a3 s (Post := fun q => P q.1 q.2) (fun _ _ h => h) (Ok2_ok h))
-- Spans_nightsAway
noncomputable def Spans_nightsAway_l6 (x1 x2 x3 : Int32) (s : MS) (x4 x5 : Int32) : Option ((Int32 × Int32) ⊕ Int32) :=
  if (s.1 4) ≤ x5 then (xit (some x4)) else (chk (inb x5 60) (bnd (s.2 11 x5.toNatClampNeg) fun v1 => if v1 = x1 then (chk (inb x5 60) (bnd (s.2 13 x5.toNatClampNeg) fun v3 => bnd (if v3 < x3 then v3 else x3) fun v4 => chk (inb x5 60) (bnd (s.2 12 x5.toNatClampNeg) fun v5 => bnd (if x2 < v5 then v5 else x2) fun v6 => bnd (if (0 : Int32) < (v4 - v6) then (v4 - v6) else (0 : Int32)) fun v7 => bnd (x4 + v7) fun v8 => bnd (x5 + (1 : Int32)) fun v9 => some (.inl (v8, v9))))) else (bnd (x5 + (1 : Int32)) fun v2 => some (.inl (x4, v2)))))
theorem Spans_nightsAway_l6_w {l : Launch} {D : va_G} {cI cZ cJ : ClassId} {ad : Nat → Nat} (x1 x2 x3 x4 x5 : Int32) (s : MS) {Q : Int32 → MS → Prop} {Post : ((Int32 × Int32) ⊕ Int32) → Prop} (hR : ∀ (r9 : Int32), Post (.inr (r9)) → Q r9 s) (hL6 : ∀ (z4 z5 : Int32) , Post (.inl (z4, z5)) → G (XX l D cI cZ cJ ad) "SmallHarbour$Spans" b_Spans_nightsAway 6 (some .int) 1 6 [(0, .ref (ad 4)), (1, .int x1), (2, .int x2), (3, .int x3), (4, .int z4), (5, .int z5)] [] s Q) (h : Ok (Spans_nightsAway_l6 x1 x2 x3 s x4 x5) Post) : G (XX l D cI cZ cJ ad) "SmallHarbour$Spans" b_Spans_nightsAway 6 (some .int) 1 6 [(0, .ref (ad 4)), (1, .int x1), (2, .int x2), (3, .int x3), (4, .int x4), (5, .int x5)] [] s Q := by
  unfold Spans_nightsAway_l6 at h
  refine G_iload d_Spans_nightsAway_6 5 rfl ?_
  refine G_aload_n d_Spans_nightsAway_8 rfl 0 rfl ?_
  refine gx_Spans_count d_Spans_nightsAway_9 w_98 ?_
  refine G_icmp_ge (tgt := 64) d_Spans_nightsAway_12 (by decide) (fun c => ?_) (fun c => ?_)
  · replace h := Ok_t c h
    replace h := Ok_xit h
    refine G_iload d_Spans_nightsAway_64 4 rfl ?_
    replace h := Ok_some h
    exact G_iret rfl (vp_nar_int _) d_Spans_nightsAway_66 (hR _ h)
  replace h := Ok_f c h
  refine G_aload_n d_Spans_nightsAway_15 rfl 0 rfl ?_
  refine gx_Spans_boat d_Spans_nightsAway_16 w_93 ?_
  refine G_iload d_Spans_nightsAway_19 5 rfl ?_
  refine lx_11 d_Spans_nightsAway_21 (Ok_ld h).1 (fun v1 e => ?_)
  replace h := (Ok_ld h).2 v1 e
  clear e
  refine G_iload_n d_Spans_nightsAway_22 rfl 1 rfl ?_
  refine G_icmp_ne (tgt := 58) d_Spans_nightsAway_23 (by decide) (fun c => ?_) (fun c => ?_)
  · replace h := Ok_f c h
    refine G_iinc d_Spans_nightsAway_58 5 rfl lt_iconst_1 rfl (Nat.le_of_ble_eq_true rfl) (fun x => [(5, .int x), (0, .ref (ad 4)), (1, .int x1), (2, .int x2), (3, .int x3), (4, .int x4)]) (fun _ => rfl) (fun v2 e => ?_)
    replace h := Ok_bnd h v2 e
    clear e
    refine G_goto (tgt := 6) d_Spans_nightsAway_61 (by decide) ?_
    refine G_lv [1, 2, 3, 4, 5, 0] rfl ?_
    replace h := Ok_some h
    exact hL6 x4 v2 h
  replace h := Ok_t c h
  refine G_iload d_Spans_nightsAway_26 4 rfl ?_
  refine G_iconst d_Spans_nightsAway_28 lt_iconst_0 ?_
  refine G_iload_n d_Spans_nightsAway_29 rfl 3 rfl ?_
  refine G_aload_n d_Spans_nightsAway_30 rfl 0 rfl ?_
  refine gx_Spans_to d_Spans_nightsAway_31 w_96 ?_
  refine G_iload d_Spans_nightsAway_34 5 rfl ?_
  refine lx_13 d_Spans_nightsAway_36 (Ok_ld h).1 (fun v3 e => ?_)
  replace h := (Ok_ld h).2 v3 e
  clear e
  refine G_min d_Spans_nightsAway_37 w_504 w_451 w_15 w_452 (by decide) (Nat.le_of_ble_eq_true rfl) (G_topi (fun v4 e => ?_))
  replace h := Ok_bnd h v4 e
  clear e
  refine G_iload_n d_Spans_nightsAway_40 rfl 2 rfl ?_
  refine G_aload_n d_Spans_nightsAway_41 rfl 0 rfl ?_
  refine gx_Spans_from d_Spans_nightsAway_42 w_94 ?_
  refine G_iload d_Spans_nightsAway_45 5 rfl ?_
  refine lx_12 d_Spans_nightsAway_47 (Ok_ld h).1 (fun v5 e => ?_)
  replace h := (Ok_ld h).2 v5 e
  clear e
  refine G_max d_Spans_nightsAway_48 w_505 w_506 w_15 w_507 (by decide) (Nat.le_of_ble_eq_true rfl) (G_topi (fun v6 e => ?_))
  replace h := Ok_bnd h v6 e
  clear e
  refine G_isub d_Spans_nightsAway_51 ?_
  refine G_max d_Spans_nightsAway_52 w_505 w_506 w_15 w_507 (by decide) (Nat.le_of_ble_eq_true rfl) (G_topi (fun v7 e => ?_))
  replace h := Ok_bnd h v7 e
  clear e
  refine G_iadd d_Spans_nightsAway_55 ?_
  refine G_istore d_Spans_nightsAway_56 (Nat.le_of_ble_eq_true rfl) (fun x => [(4, .int x), (0, .ref (ad 4)), (1, .int x1), (2, .int x2), (3, .int x3), (5, .int x5)]) (fun _ => rfl) (fun v8 e => ?_)
  replace h := Ok_bnd h v8 e.symm
  clear e
  refine G_iinc d_Spans_nightsAway_58 5 rfl lt_iconst_1 rfl (Nat.le_of_ble_eq_true rfl) (fun x => [(5, .int x), (4, .int v8), (0, .ref (ad 4)), (1, .int x1), (2, .int x2), (3, .int x3)]) (fun _ => rfl) (fun v9 e => ?_)
  replace h := Ok_bnd h v9 e
  clear e
  refine G_goto (tgt := 6) d_Spans_nightsAway_61 (by decide) ?_
  refine G_lv [2, 3, 4, 5, 1, 0] rfl ?_
  replace h := Ok_some h
  exact hL6 v8 v9 h
noncomputable def f_Spans_nightsAway (a1 a2 a3 : Int32) (s : MS) : Option Int32 :=
  loop (fun z => Spans_nightsAway_l6 a1 a2 a3 s z.1 z.2) ((0 : Int32), (0 : Int32))
theorem f_Spans_nightsAway_w {l : Launch} {D : va_G} {cI cZ cJ : ClassId} {ad : Nat → Nat} (a1 a2 a3 : Int32) (s : MS) {Q : Int32 → MS → Prop} {Post : Int32 → Prop} (hR : ∀ (r9 : Int32), Post (r9) → Q r9 s) (h : Ok (f_Spans_nightsAway a1 a2 a3 s) Post) : G (XX l D cI cZ cJ ad) "SmallHarbour$Spans" b_Spans_nightsAway 6 (some .int) 1 0 [(0, .ref (ad 4)), (1, .int a1), (2, .int a2), (3, .int a3)] [] s Q := by
  unfold f_Spans_nightsAway at h
  refine G_iconst d_Spans_nightsAway_0 lt_iconst_0 ?_
  refine G_istore d_Spans_nightsAway_1 (Nat.le_of_ble_eq_true rfl) (fun x => [(4, .int x), (0, .ref (ad 4)), (1, .int a1), (2, .int a2), (3, .int a3)]) (fun _ => rfl) (fun x e => ?_)
  subst e
  refine G_iconst d_Spans_nightsAway_3 lt_iconst_0 ?_
  refine G_istore d_Spans_nightsAway_4 (Nat.le_of_ble_eq_true rfl) (fun x => [(5, .int x), (4, .int (0 : Int32)), (0, .ref (ad 4)), (1, .int a1), (2, .int a2), (3, .int a3)]) (fun _ => rfl) (fun x e => ?_)
  subst e
  refine G_lv [2, 3, 4, 5, 1, 0] rfl ?_
  refine G_loop (J := (fun z => G (XX l D cI cZ cJ ad) "SmallHarbour$Spans" b_Spans_nightsAway 6 (some .int) 1 6 [(0, .ref (ad 4)), (1, .int a1), (2, .int a2), (3, .int a3), (4, .int (z.1)), (5, .int (z.2))] [] s Q)) (fun z h => ?_) ((0 : Int32), (0 : Int32)) h
  refine Spans_nightsAway_l6_w a1 a2 a3 z.1 z.2 s ?_ ?_ h
  · exact hR
  · exact (fun z4 z5 h => h)
theorem c_Spans_nightsAway {l : Launch} {D : va_G} {cI cZ cJ : ClassId} {ad : Nat → Nat} (a1 a2 a3 : Int32) (s : MS) {P : Int32 → Prop} (h : Ok (f_Spans_nightsAway a1 a2 a3 s) P) : Ct (XX l D cI cZ cJ ad) y_Spans_nightsAway b_Spans_nightsAway 6 (some .int) 1 [.ref (ad 4), .int a1, .int a2, .int a3] s (fun r9 s9 => s9 = s ∧ P r9) :=
  Ct.of mi_Spans_nightsAway (Nat.le_of_ble_eq_true rfl) (f_Spans_nightsAway_w a1 a2 a3 s (fun _ h => ⟨rfl, h⟩) h)
-- Hb_away
noncomputable def f_Hb_away (a1 a2 a3 : Int32) (s : MS) : Option (Int32 × MS) :=
  (f_Boats_has a1 s).bind fun v1 => if v1 = 0 then (some ((0 : Int32), s)) else (chk (inb a1 30) (bnd (s.2 10 a1.toNatClampNeg) fun v2 => if v2 = (-1 : Int32) then (some ((0 : Int32), s)) else ((f_Hb_areNights a2 a3).bind fun v3 => if v3 = 0 then (some ((0 : Int32), s)) else ((f_Spans_nightsAway a1 a2 a3 s).bind fun v4 => if v4 = 0 then (bd2 (f_Spans_add a1 a2 a3 s) fun v5 s6 => if v5 = 0 then (some ((0 : Int32), s6)) else (some ((1 : Int32), s6))) else (some ((0 : Int32), s))))))
theorem f_Hb_away_w {l : Launch} {D : va_G} {cI cZ cJ : ClassId} {ad : Nat → Nat} (a1 a2 a3 : Int32) (s : MS) {Q : Int32 → MS → Prop} {Post : (Int32 × MS) → Prop} (hR : ∀ (r9 : Int32) (s9 : MS), Post ((r9, s9)) → Q r9 s9) (h : Ok (f_Hb_away a1 a2 a3 s) Post) : G (XX l D cI cZ cJ ad) "SmallHarbour" b_Hb_away 4 (some .boolean) 2 0 [(0, .ref (ad 0)), (1, .int a1), (2, .int a2), (3, .int a3)] [] s Q := by
  unfold f_Hb_away at h
  refine G_aload_n d_Hb_away_0 rfl 0 rfl ?_
  refine gx_Hb_boats d_Hb_away_1 w_349 ?_
  refine G_iload_n d_Hb_away_4 rfl 1 rfl ?_
  refine G_callVp (st := []) (As := [.int a1]) (b := ad 3) d_Hb_away_5 mi_Boats_has w_465 3 rfl rfl mv_Boats_has rfl (Nat.le_of_ble_eq_true rfl) (by decide) (c_Boats_has a1 s (Ok_bind h)) (fun v1 h hnv1 => ?_)
  refine G_if_eq (tgt := 32) d_Hb_away_8 (by decide) (fun c => ?_) (fun c => ?_)
  · replace h := Ok_t c h
    refine G_iconst d_Hb_away_32 lt_iconst_0 ?_
    replace h := Ok_some h
    exact G_iret rfl rfl d_Hb_away_33 (hR _ _ h)
  replace h := Ok_f c h
  refine G_aload_n d_Hb_away_11 rfl 0 rfl ?_
  refine gx_Hb_boats d_Hb_away_12 w_349 ?_
  refine gx_Boats_home d_Hb_away_15 w_73 ?_
  refine G_iload_n d_Hb_away_18 rfl 1 rfl ?_
  refine lx_10 d_Hb_away_19 (Ok_ld h).1 (fun v2 e => ?_)
  replace h := (Ok_ld h).2 v2 e
  clear e
  refine G_iconst d_Hb_away_20 lt_iconst_m1 ?_
  refine G_icmp_eq (tgt := 32) d_Hb_away_21 (by decide) (fun c => ?_) (fun c => ?_)
  · replace h := Ok_t c h
    refine G_iconst d_Hb_away_32 lt_iconst_0 ?_
    replace h := Ok_some h
    exact G_iret rfl rfl d_Hb_away_33 (hR _ _ h)
  replace h := Ok_f c h
  refine G_iload_n d_Hb_away_24 rfl 2 rfl ?_
  refine G_iload_n d_Hb_away_25 rfl 3 rfl ?_
  refine G_callSp (st := []) (As := [.int a2, .int a3]) d_Hb_away_26 mi_Hb_areNights w_512 w_513 rfl (Nat.le_of_ble_eq_true rfl) (by decide) (c_Hb_areNights a2 a3 s (Ok_bind h)) (fun v3 h hnv3 => ?_)
  refine G_if_ne (tgt := 34) d_Hb_away_29 (by decide) (fun c => ?_) (fun c => ?_)
  · replace h := Ok_f c h
    refine G_aload_n d_Hb_away_34 rfl 0 rfl ?_
    refine gx_Hb_spans d_Hb_away_35 w_350 ?_
    refine G_iload_n d_Hb_away_38 rfl 1 rfl ?_
    refine G_iload_n d_Hb_away_39 rfl 2 rfl ?_
    refine G_iload_n d_Hb_away_40 rfl 3 rfl ?_
    refine G_callVp (st := []) (As := [.int a1, .int a2, .int a3]) (b := ad 4) d_Hb_away_41 mi_Spans_nightsAway w_500 4 rfl rfl mv_Spans_nightsAway rfl (Nat.le_of_ble_eq_true rfl) (by decide) (c_Spans_nightsAway a1 a2 a3 s (Ok_bind h)) (fun v4 h hnv4 => ?_)
    refine G_if_ne (tgt := 64) d_Hb_away_44 (by decide) (fun c => ?_) (fun c => ?_)
    · replace h := Ok_f c h
      refine G_iconst d_Hb_away_64 lt_iconst_0 ?_
      replace h := Ok_some h
      exact G_iret rfl rfl d_Hb_away_65 (hR _ _ h)
    replace h := Ok_t c h
    refine G_aload_n d_Hb_away_47 rfl 0 rfl ?_
    refine gx_Hb_spans d_Hb_away_48 w_350 ?_
    refine G_iload_n d_Hb_away_51 rfl 1 rfl ?_
    refine G_iload_n d_Hb_away_52 rfl 2 rfl ?_
    refine G_iload_n d_Hb_away_53 rfl 3 rfl ?_
    refine G_callVi (st := []) (As := [.int a1, .int a2, .int a3]) (b := ad 4) d_Hb_away_54 mi_Spans_add w_515 4 rfl rfl mv_Spans_add rfl (Nat.le_of_ble_eq_true rfl) (by decide) (c_Spans_add a1 a2 a3 s (Ok_bd2 h)) (fun v5 s6 h hnv5 => ?_)
    refine G_if_eq (tgt := 64) d_Hb_away_57 (by decide) (fun c => ?_) (fun c => ?_)
    · replace h := Ok_t c h
      refine G_iconst d_Hb_away_64 lt_iconst_0 ?_
      replace h := Ok_some h
      exact G_iret rfl rfl d_Hb_away_65 (hR _ _ h)
    replace h := Ok_f c h
    refine G_iconst d_Hb_away_60 lt_iconst_1 ?_
    refine G_goto (tgt := 65) d_Hb_away_61 (by decide) ?_
    replace h := Ok_some h
    exact G_iret rfl rfl d_Hb_away_65 (hR _ _ h)
  replace h := Ok_t c h
  refine G_iconst d_Hb_away_32 lt_iconst_0 ?_
  replace h := Ok_some h
  exact G_iret rfl rfl d_Hb_away_33 (hR _ _ h)
theorem c_Hb_away {l : Launch} {D : va_G} {cI cZ cJ : ClassId} {ad : Nat → Nat} (a1 a2 a3 : Int32) (s : MS) {P : Int32 → MS → Prop} (h : Ok2 (f_Hb_away a1 a2 a3 s) P) : Ct (XX l D cI cZ cJ ad) y_Hb_away b_Hb_away 4 (some .boolean) 2 [.ref (ad 0), .int a1, .int a2, .int a3] s (P) :=
  Ct.of mi_Hb_away (Nat.le_of_ble_eq_true rfl) (f_Hb_away_w a1 a2 a3 s (Post := fun q => P q.1 q.2) (fun _ _ h => h) (Ok2_ok h))
-- Hb_berth
noncomputable def f_Hb_berth (a1 a2 : Int32) (s : MS) : Option (Int32 × MS) :=
  bd2 (f_Berths_add a1 a2 s) fun v1 s2 => some (v1, s2)
theorem f_Hb_berth_w {l : Launch} {D : va_G} {cI cZ cJ : ClassId} {ad : Nat → Nat} (a1 a2 : Int32) (s : MS) {Q : Int32 → MS → Prop} {Post : (Int32 × MS) → Prop} (hR : ∀ (r9 : Int32) (s9 : MS), Post ((r9, s9)) → Q r9 s9) (h : Ok (f_Hb_berth a1 a2 s) Post) : G (XX l D cI cZ cJ ad) "SmallHarbour" b_Hb_berth 3 (some .int) 2 0 [(0, .ref (ad 0)), (1, .int a1), (2, .int a2)] [] s Q := by
  unfold f_Hb_berth at h
  refine G_aload_n d_Hb_berth_0 rfl 0 rfl ?_
  refine gx_Hb_berths d_Hb_berth_1 w_348 ?_
  refine G_iload_n d_Hb_berth_4 rfl 1 rfl ?_
  refine G_iload_n d_Hb_berth_5 rfl 2 rfl ?_
  refine G_callVi (st := []) (As := [.int a1, .int a2]) (b := ad 2) d_Hb_berth_6 mi_Berths_add w_418 2 rfl rfl mv_Berths_add rfl (Nat.le_of_ble_eq_true rfl) (by decide) (c_Berths_add a1 a2 s (Ok_bd2 h)) (fun v1 s2 h hnv1 => ?_)
  replace h := Ok_some h
  exact G_iret rfl (vp_nar_int _) d_Hb_berth_9 (hR _ _ h)
theorem c_Hb_berth {l : Launch} {D : va_G} {cI cZ cJ : ClassId} {ad : Nat → Nat} (a1 a2 : Int32) (s : MS) {P : Int32 → MS → Prop} (h : Ok2 (f_Hb_berth a1 a2 s) P) : Ct (XX l D cI cZ cJ ad) y_Hb_berth b_Hb_berth 3 (some .int) 2 [.ref (ad 0), .int a1, .int a2] s (P) :=
  Ct.of mi_Hb_berth (Nat.le_of_ble_eq_true rfl) (f_Hb_berth_w a1 a2 s (Post := fun q => P q.1 q.2) (fun _ _ h => h) (Ok2_ok h))
-- Hb_isDay
noncomputable def f_Hb_isDay (a1 : Int32) : Option Int32 :=
  if a1 < 0 then (some (0 : Int32)) else (if (400 : Int32) ≤ a1 then (some (0 : Int32)) else (some (1 : Int32)))
theorem f_Hb_isDay_w {l : Launch} {D : va_G} {cI cZ cJ : ClassId} {ad : Nat → Nat} (a1 : Int32) (s : MS) {Q : Int32 → MS → Prop} {Post : Int32 → Prop} (hR : ∀ (r9 : Int32), Post (r9) → Q r9 s) (h : Ok (f_Hb_isDay a1) Post) : G (XX l D cI cZ cJ ad) "SmallHarbour" b_Hb_isDay 1 (some .boolean) 0 0 [(0, .int a1)] [] s Q := by
  unfold f_Hb_isDay at h
  refine G_iload_n d_Hb_isDay_0 rfl 0 rfl ?_
  refine G_if_lt (tgt := 15) d_Hb_isDay_1 (by decide) (fun c => ?_) (fun c => ?_)
  · replace h := Ok_t c h
    refine G_iconst d_Hb_isDay_15 lt_iconst_0 ?_
    replace h := Ok_some h
    exact G_iret rfl rfl d_Hb_isDay_16 (hR _ h)
  replace h := Ok_f c h
  refine G_iload_n d_Hb_isDay_4 rfl 0 rfl ?_
  refine G_sipush d_Hb_isDay_5 lt_sipush_400 ?_
  refine G_icmp_ge (tgt := 15) d_Hb_isDay_8 (by decide) (fun c => ?_) (fun c => ?_)
  · replace h := Ok_t c h
    refine G_iconst d_Hb_isDay_15 lt_iconst_0 ?_
    replace h := Ok_some h
    exact G_iret rfl rfl d_Hb_isDay_16 (hR _ h)
  replace h := Ok_f c h
  refine G_iconst d_Hb_isDay_11 lt_iconst_1 ?_
  refine G_goto (tgt := 16) d_Hb_isDay_12 (by decide) ?_
  replace h := Ok_some h
  exact G_iret rfl rfl d_Hb_isDay_16 (hR _ h)
theorem c_Hb_isDay {l : Launch} {D : va_G} {cI cZ cJ : ClassId} {ad : Nat → Nat} (a1 : Int32) (s : MS) {P : Int32 → Prop} (h : Ok (f_Hb_isDay a1) P) : Ct (XX l D cI cZ cJ ad) y_Hb_isDay b_Hb_isDay 1 (some .boolean) 0 [.int a1] s (fun r9 s9 => s9 = s ∧ P r9) :=
  Ct.of mi_Hb_isDay (Nat.le_of_ble_eq_true rfl) (f_Hb_isDay_w a1 s (fun _ h => ⟨rfl, h⟩) h)
-- Spans_find
noncomputable def Spans_find_l2 (x1 x2 : Int32) (s : MS) (x3 : Int32) : Option ((Int32) ⊕ Int32) :=
  if (s.1 4) ≤ x3 then (xit (some (-1 : Int32))) else (chk (inb x3 60) (bnd (s.2 11 x3.toNatClampNeg) fun v1 => if v1 = x1 then (chk (inb x3 60) (bnd (s.2 12 x3.toNatClampNeg) fun v3 => if x2 < v3 then (bnd (x3 + (1 : Int32)) fun v4 => some (.inl v4)) else (chk (inb x3 60) (bnd (s.2 13 x3.toNatClampNeg) fun v5 => if v5 ≤ x2 then (bnd (x3 + (1 : Int32)) fun v6 => some (.inl v6)) else (xit (some x3)))))) else (bnd (x3 + (1 : Int32)) fun v2 => some (.inl v2))))
theorem Spans_find_l2_w {l : Launch} {D : va_G} {cI cZ cJ : ClassId} {ad : Nat → Nat} (x1 x2 x3 : Int32) (s : MS) {Q : Int32 → MS → Prop} {Post : ((Int32) ⊕ Int32) → Prop} (hR : ∀ (r9 : Int32), Post (.inr (r9)) → Q r9 s) (hL2 : ∀ (z3 : Int32) , Post (.inl z3) → G (XX l D cI cZ cJ ad) "SmallHarbour$Spans" b_Spans_find 4 (some .int) 0 2 [(0, .ref (ad 4)), (1, .int x1), (2, .int x2), (3, .int z3)] [] s Q) (h : Ok (Spans_find_l2 x1 x2 s x3) Post) : G (XX l D cI cZ cJ ad) "SmallHarbour$Spans" b_Spans_find 4 (some .int) 0 2 [(0, .ref (ad 4)), (1, .int x1), (2, .int x2), (3, .int x3)] [] s Q := by
  unfold Spans_find_l2 at h
  refine G_iload_n d_Spans_find_2 rfl 3 rfl ?_
  refine G_aload_n d_Spans_find_3 rfl 0 rfl ?_
  refine gx_Spans_count d_Spans_find_4 w_98 ?_
  refine G_icmp_ge (tgt := 48) d_Spans_find_7 (by decide) (fun c => ?_) (fun c => ?_)
  · replace h := Ok_t c h
    replace h := Ok_xit h
    refine G_iconst d_Spans_find_48 lt_iconst_m1 ?_
    replace h := Ok_some h
    exact G_iret rfl (vp_nar_int _) d_Spans_find_49 (hR _ h)
  replace h := Ok_f c h
  refine G_aload_n d_Spans_find_10 rfl 0 rfl ?_
  refine gx_Spans_boat d_Spans_find_11 w_93 ?_
  refine G_iload_n d_Spans_find_14 rfl 3 rfl ?_
  refine lx_11 d_Spans_find_15 (Ok_ld h).1 (fun v1 e => ?_)
  replace h := (Ok_ld h).2 v1 e
  clear e
  refine G_iload_n d_Spans_find_16 rfl 1 rfl ?_
  refine G_icmp_ne (tgt := 42) d_Spans_find_17 (by decide) (fun c => ?_) (fun c => ?_)
  · replace h := Ok_f c h
    refine G_iinc d_Spans_find_42 3 rfl lt_iconst_1 rfl (Nat.le_of_ble_eq_true rfl) (fun x => [(3, .int x), (0, .ref (ad 4)), (1, .int x1), (2, .int x2)]) (fun _ => rfl) (fun v2 e => ?_)
    replace h := Ok_bnd h v2 e
    clear e
    refine G_goto (tgt := 2) d_Spans_find_45 (by decide) ?_
    refine G_lv [1, 2, 3, 0] rfl ?_
    replace h := Ok_some h
    exact hL2 v2 h
  replace h := Ok_t c h
  refine G_aload_n d_Spans_find_20 rfl 0 rfl ?_
  refine gx_Spans_from d_Spans_find_21 w_94 ?_
  refine G_iload_n d_Spans_find_24 rfl 3 rfl ?_
  refine lx_12 d_Spans_find_25 (Ok_ld h).1 (fun v3 e => ?_)
  replace h := (Ok_ld h).2 v3 e
  clear e
  refine G_iload_n d_Spans_find_26 rfl 2 rfl ?_
  refine G_icmp_gt (tgt := 42) d_Spans_find_27 (by decide) (fun c => ?_) (fun c => ?_)
  · replace h := Ok_t c h
    refine G_iinc d_Spans_find_42 3 rfl lt_iconst_1 rfl (Nat.le_of_ble_eq_true rfl) (fun x => [(3, .int x), (0, .ref (ad 4)), (1, .int x1), (2, .int x2)]) (fun _ => rfl) (fun v4 e => ?_)
    replace h := Ok_bnd h v4 e
    clear e
    refine G_goto (tgt := 2) d_Spans_find_45 (by decide) ?_
    refine G_lv [1, 2, 3, 0] rfl ?_
    replace h := Ok_some h
    exact hL2 v4 h
  replace h := Ok_f c h
  refine G_iload_n d_Spans_find_30 rfl 2 rfl ?_
  refine G_aload_n d_Spans_find_31 rfl 0 rfl ?_
  refine gx_Spans_to d_Spans_find_32 w_96 ?_
  refine G_iload_n d_Spans_find_35 rfl 3 rfl ?_
  refine lx_13 d_Spans_find_36 (Ok_ld h).1 (fun v5 e => ?_)
  replace h := (Ok_ld h).2 v5 e
  clear e
  refine G_icmp_ge (tgt := 42) d_Spans_find_37 (by decide) (fun c => ?_) (fun c => ?_)
  · replace h := Ok_t c h
    refine G_iinc d_Spans_find_42 3 rfl lt_iconst_1 rfl (Nat.le_of_ble_eq_true rfl) (fun x => [(3, .int x), (0, .ref (ad 4)), (1, .int x1), (2, .int x2)]) (fun _ => rfl) (fun v6 e => ?_)
    replace h := Ok_bnd h v6 e
    clear e
    refine G_goto (tgt := 2) d_Spans_find_45 (by decide) ?_
    refine G_lv [1, 2, 3, 0] rfl ?_
    replace h := Ok_some h
    exact hL2 v6 h
  replace h := Ok_f c h
  replace h := Ok_xit h
  refine G_iload_n d_Spans_find_40 rfl 3 rfl ?_
  replace h := Ok_some h
  exact G_iret rfl (vp_nar_int _) d_Spans_find_41 (hR _ h)
noncomputable def f_Spans_find (a1 a2 : Int32) (s : MS) : Option Int32 :=
  loop (fun z => Spans_find_l2 a1 a2 s z) (0 : Int32)
theorem f_Spans_find_w {l : Launch} {D : va_G} {cI cZ cJ : ClassId} {ad : Nat → Nat} (a1 a2 : Int32) (s : MS) {Q : Int32 → MS → Prop} {Post : Int32 → Prop} (hR : ∀ (r9 : Int32), Post (r9) → Q r9 s) (h : Ok (f_Spans_find a1 a2 s) Post) : G (XX l D cI cZ cJ ad) "SmallHarbour$Spans" b_Spans_find 4 (some .int) 0 0 [(0, .ref (ad 4)), (1, .int a1), (2, .int a2)] [] s Q := by
  unfold f_Spans_find at h
  refine G_iconst d_Spans_find_0 lt_iconst_0 ?_
  refine G_istore_n d_Spans_find_1 rfl (Nat.le_of_ble_eq_true rfl) (fun x => [(3, .int x), (0, .ref (ad 4)), (1, .int a1), (2, .int a2)]) (fun _ => rfl) (fun x e => ?_)
  subst e
  refine G_lv [1, 2, 3, 0] rfl ?_
  refine G_loop (J := (fun z => G (XX l D cI cZ cJ ad) "SmallHarbour$Spans" b_Spans_find 4 (some .int) 0 2 [(0, .ref (ad 4)), (1, .int a1), (2, .int a2), (3, .int z)] [] s Q)) (fun z h => ?_) (0 : Int32) h
  refine Spans_find_l2_w a1 a2 z s ?_ ?_ h
  · exact hR
  · exact (fun z3 h => h)
theorem c_Spans_find {l : Launch} {D : va_G} {cI cZ cJ : ClassId} {ad : Nat → Nat} (a1 a2 : Int32) (s : MS) {P : Int32 → Prop} (h : Ok (f_Spans_find a1 a2 s) P) : Ct (XX l D cI cZ cJ ad) y_Spans_find b_Spans_find 4 (some .int) 0 [.ref (ad 4), .int a1, .int a2] s (fun r9 s9 => s9 = s ∧ P r9) :=
  Ct.of mi_Spans_find (Nat.le_of_ble_eq_true rfl) (f_Spans_find_w a1 a2 s (fun _ h => ⟨rfl, h⟩) h)
