-- Md_left
noncomputable def Md_left_l8 (x1 x2 : Int32) (s : MS) (x3 x4 : Int32) : Option ((Int32 × Int32) ⊕ Int32) :=
  if x2 ≤ x4 then (xit (some x3)) else (chk (inb x4 40) (bnd (s.2 24 x4.toNatClampNeg) fun v1 => if v1 = x1 then (chk (inb x4 40) (bnd (s.2 23 x4.toNatClampNeg) fun v4 => bnd (x3 - v4) fun v5 => bnd (x4 + (1 : Int32)) fun v6 => some (.inl (v5, v6)))) else (bnd (x3 - (0 : Int32)) fun v2 => bnd (x4 + (1 : Int32)) fun v3 => some (.inl (v2, v3)))))
theorem Md_left_l8_w {l : Launch} {D : va_G} {cI cZ cJ : ClassId} {ad : Nat → Nat} (x1 x2 x3 x4 : Int32) (s : MS) {Q : Int32 → MS → Prop} {Post : ((Int32 × Int32) ⊕ Int32) → Prop} (hR : ∀ (r9 : Int32), Post (.inr (r9)) → Q r9 s) (hL8 : ∀ (z3 z4 : Int32) , Post (.inl (z3, z4)) → G (XM l D cI cZ cJ ad) "SmallHarbourModel" b_Md_left 5 (some .int) 0 8 [(0, .ref (ad 0)), (1, .int x1), (2, .int x2), (3, .int z3), (4, .int z4)] [] s Q) (h : Ok (Md_left_l8 x1 x2 s x3 x4) Post) : G (XM l D cI cZ cJ ad) "SmallHarbourModel" b_Md_left 5 (some .int) 0 8 [(0, .ref (ad 0)), (1, .int x1), (2, .int x2), (3, .int x3), (4, .int x4)] [] s Q := by
  unfold Md_left_l8 at h
  refine G_iload d_Md_left_8 4 rfl ?_
  refine G_iload_n d_Md_left_10 rfl 2 rfl ?_
  refine G_icmp_ge (tgt := 45) d_Md_left_11 (by decide) (fun c => ?_) (fun c => ?_)
  · replace h := Ok_t c h
    replace h := Ok_xit h
    refine G_iload_n d_Md_left_45 rfl 3 rfl ?_
    replace h := Ok_some h
    exact G_iret rfl (vp_nar_int _) d_Md_left_46 (hR _ h)
  replace h := Ok_f c h
  refine G_iload_n d_Md_left_14 rfl 3 rfl ?_
  refine G_aload_n d_Md_left_15 rfl 0 rfl ?_
  refine gm_Md_liftDay d_Md_left_16 w_876 ?_
  refine G_iload d_Md_left_19 4 rfl ?_
  refine lm_24 d_Md_left_21 (Ok_ld h).1 (fun v1 e => ?_)
  replace h := (Ok_ld h).2 v1 e
  clear e
  refine G_iload_n d_Md_left_22 rfl 1 rfl ?_
  refine G_icmp_ne (tgt := 36) d_Md_left_23 (by decide) (fun c => ?_) (fun c => ?_)
  · replace h := Ok_f c h
    refine G_iconst d_Md_left_36 lt_iconst_0 ?_
    refine G_isub d_Md_left_37 ?_
    refine G_istore_n d_Md_left_38 rfl (Nat.le_of_ble_eq_true rfl) (fun x => [(3, .int x), (0, .ref (ad 0)), (1, .int x1), (2, .int x2), (4, .int x4)]) (fun _ => rfl) (fun v2 e => ?_)
    replace h := Ok_bnd h v2 e.symm
    clear e
    refine G_iinc d_Md_left_39 4 rfl lt_iconst_1 rfl (Nat.le_of_ble_eq_true rfl) (fun x => [(4, .int x), (3, .int v2), (0, .ref (ad 0)), (1, .int x1), (2, .int x2)]) (fun _ => rfl) (fun v3 e => ?_)
    replace h := Ok_bnd h v3 e
    clear e
    refine G_goto (tgt := 8) d_Md_left_42 (by decide) ?_
    refine G_lv [2, 3, 4, 1, 0] rfl ?_
    replace h := Ok_some h
    exact hL8 v2 v3 h
  replace h := Ok_t c h
  refine G_aload_n d_Md_left_26 rfl 0 rfl ?_
  refine gm_Md_liftMinutes d_Md_left_27 w_875 ?_
  refine G_iload d_Md_left_30 4 rfl ?_
  refine lm_23 d_Md_left_32 (Ok_ld h).1 (fun v4 e => ?_)
  replace h := (Ok_ld h).2 v4 e
  clear e
  refine G_goto (tgt := 37) d_Md_left_33 (by decide) ?_
  refine G_isub d_Md_left_37 ?_
  refine G_istore_n d_Md_left_38 rfl (Nat.le_of_ble_eq_true rfl) (fun x => [(3, .int x), (0, .ref (ad 0)), (1, .int x1), (2, .int x2), (4, .int x4)]) (fun _ => rfl) (fun v5 e => ?_)
  replace h := Ok_bnd h v5 e.symm
  clear e
  refine G_iinc d_Md_left_39 4 rfl lt_iconst_1 rfl (Nat.le_of_ble_eq_true rfl) (fun x => [(4, .int x), (3, .int v5), (0, .ref (ad 0)), (1, .int x1), (2, .int x2)]) (fun _ => rfl) (fun v6 e => ?_)
  replace h := Ok_bnd h v6 e
  clear e
  refine G_goto (tgt := 8) d_Md_left_42 (by decide) ?_
  refine G_lv [2, 3, 4, 1, 0] rfl ?_
  replace h := Ok_some h
  exact hL8 v5 v6 h
noncomputable def f_Md_left (a1 a2 : Int32) (s : MS) : Option Int32 :=
  bnd (s.1 14) fun v1 => loop (fun z => Md_left_l8 a1 a2 s z.1 z.2) (v1, (0 : Int32))
theorem f_Md_left_w {l : Launch} {D : va_G} {cI cZ cJ : ClassId} {ad : Nat → Nat} (a1 a2 : Int32) (s : MS) {Q : Int32 → MS → Prop} {Post : Int32 → Prop} (hR : ∀ (r9 : Int32), Post (r9) → Q r9 s) (h : Ok (f_Md_left a1 a2 s) Post) : G (XM l D cI cZ cJ ad) "SmallHarbourModel" b_Md_left 5 (some .int) 0 0 [(0, .ref (ad 0)), (1, .int a1), (2, .int a2)] [] s Q := by
  unfold f_Md_left at h
  refine G_aload_n d_Md_left_0 rfl 0 rfl ?_
  refine gm_Md_dayMinutes d_Md_left_1 w_870 ?_
  refine G_istore_n d_Md_left_4 rfl (Nat.le_of_ble_eq_true rfl) (fun x => [(3, .int x), (0, .ref (ad 0)), (1, .int a1), (2, .int a2)]) (fun _ => rfl) (fun v1 e => ?_)
  replace h := Ok_bnd h v1 e.symm
  clear e
  refine G_iconst d_Md_left_5 lt_iconst_0 ?_
  refine G_istore d_Md_left_6 (Nat.le_of_ble_eq_true rfl) (fun x => [(4, .int x), (3, .int v1), (0, .ref (ad 0)), (1, .int a1), (2, .int a2)]) (fun _ => rfl) (fun x e => ?_)
  subst e
  refine G_lv [2, 3, 4, 1, 0] rfl ?_
  refine G_loop (J := (fun z => G (XM l D cI cZ cJ ad) "SmallHarbourModel" b_Md_left 5 (some .int) 0 8 [(0, .ref (ad 0)), (1, .int a1), (2, .int a2), (3, .int (z.1)), (4, .int (z.2))] [] s Q)) (fun z h => ?_) (v1, (0 : Int32)) h
  refine Md_left_l8_w a1 a2 z.1 z.2 s ?_ ?_ h
  · exact hR
  · exact (fun z3 z4 h => h)
theorem c_Md_left {l : Launch} {D : va_G} {cI cZ cJ : ClassId} {ad : Nat → Nat} (a1 a2 : Int32) (s : MS) {P : Int32 → Prop} (h : Ok (f_Md_left a1 a2 s) P) : Ct (XM l D cI cZ cJ ad) y_Md_left b_Md_left 5 (some .int) 0 [.ref (ad 0), .int a1, .int a2] s (fun r9 s9 => s9 = s ∧ P r9) :=
  Ct.of mi_Md_left (Nat.le_of_ble_eq_true rfl) (f_Md_left_w a1 a2 s (fun _ h => ⟨rfl, h⟩) h)
-- Md_level
noncomputable def f_Md_level (a1 a2 : Int32) (s : MS) : Option (Int32 × MS) :=
  (f_Md_isIn a1 (0 : Int32) ((s.1 0) - (1 : Int32))).bind fun v1 => if v1 = 0 then (some ((0 : Int32), s)) else ((f_Md_isIn a2 (0 : Int32) (40 : Int32)).bind fun v2 => if v2 = 0 then (some ((0 : Int32), s)) else ((f_Md_isBound s).bind fun v3 => if v3 = 0 then (chk (inb a1 30) (bnd (pa s 0 a1.toNatClampNeg a2) fun s4 => some ((1 : Int32), s4))) else (some ((0 : Int32), s))))
theorem f_Md_level_w {l : Launch} {D : va_G} {cI cZ cJ : ClassId} {ad : Nat → Nat} (a1 a2 : Int32) (s : MS) {Q : Int32 → MS → Prop} {Post : (Int32 × MS) → Prop} (hR : ∀ (r9 : Int32) (s9 : MS), Post ((r9, s9)) → Q r9 s9) (h : Ok (f_Md_level a1 a2 s) Post) : G (XM l D cI cZ cJ ad) "SmallHarbourModel" b_Md_level 3 (some .boolean) 1 0 [(0, .ref (ad 0)), (1, .int a1), (2, .int a2)] [] s Q := by
  unfold f_Md_level at h
  refine G_iload_n d_Md_level_0 rfl 1 rfl ?_
  refine G_iconst d_Md_level_1 lt_iconst_0 ?_
  refine G_aload_n d_Md_level_2 rfl 0 rfl ?_
  refine gm_Md_levels d_Md_level_3 w_836 ?_
  refine G_iconst d_Md_level_6 lt_iconst_1 ?_
  refine G_isub d_Md_level_7 ?_
  refine G_callSp (st := []) (As := [.int a1, .int (0 : Int32), .int ((s.1 0) - (1 : Int32))]) d_Md_level_8 mi_Md_isIn w_1045 w_1046 rfl (Nat.le_of_ble_eq_true rfl) (by decide) (c_Md_isIn a1 (0 : Int32) ((s.1 0) - (1 : Int32)) s (Ok_bind h)) (fun v1 h hnv1 => ?_)
  refine G_if_eq (tgt := 31) d_Md_level_11 (by decide) (fun c => ?_) (fun c => ?_)
  · replace h := Ok_t c h
    refine G_iconst d_Md_level_31 lt_iconst_0 ?_
    replace h := Ok_some h
    exact G_iret rfl rfl d_Md_level_32 (hR _ _ h)
  replace h := Ok_f c h
  refine G_iload_n d_Md_level_14 rfl 2 rfl ?_
  refine G_iconst d_Md_level_15 lt_iconst_0 ?_
  refine G_bipush d_Md_level_16 lt_bipush_40 ?_
  refine G_callSp (st := []) (As := [.int a2, .int (0 : Int32), .int (40 : Int32)]) d_Md_level_18 mi_Md_isIn w_1045 w_1046 rfl (Nat.le_of_ble_eq_true rfl) (by decide) (c_Md_isIn a2 (0 : Int32) (40 : Int32) s (Ok_bind h)) (fun v2 h hnv2 => ?_)
  refine G_if_eq (tgt := 31) d_Md_level_21 (by decide) (fun c => ?_) (fun c => ?_)
  · replace h := Ok_t c h
    refine G_iconst d_Md_level_31 lt_iconst_0 ?_
    replace h := Ok_some h
    exact G_iret rfl rfl d_Md_level_32 (hR _ _ h)
  replace h := Ok_f c h
  refine G_aload_n d_Md_level_24 rfl 0 rfl ?_
  refine G_callVp (st := []) (As := []) (b := ad 0) d_Md_level_25 mi_Md_isBound w_1048 0 rfl rfl mv_Md_isBound rfl (Nat.le_of_ble_eq_true rfl) (by decide) (c_Md_isBound  s (Ok_bind h)) (fun v3 h hnv3 => ?_)
  refine G_if_eq (tgt := 33) d_Md_level_28 (by decide) (fun c => ?_) (fun c => ?_)
  · replace h := Ok_t c h
    refine G_aload_n d_Md_level_33 rfl 0 rfl ?_
    refine gm_Md_level d_Md_level_34 w_837 ?_
    refine G_iload_n d_Md_level_37 rfl 1 rfl ?_
    refine G_iload_n d_Md_level_38 rfl 2 rfl ?_
    refine sm_0 d_Md_level_39 (Ok_ld h).1 (fun s4 e => ?_)
    replace h := (Ok_ld h).2 s4 e
    clear e
    refine G_iconst d_Md_level_40 lt_iconst_1 ?_
    replace h := Ok_some h
    exact G_iret rfl rfl d_Md_level_41 (hR _ _ h)
  replace h := Ok_f c h
  refine G_iconst d_Md_level_31 lt_iconst_0 ?_
  replace h := Ok_some h
  exact G_iret rfl rfl d_Md_level_32 (hR _ _ h)
theorem c_Md_level {l : Launch} {D : va_G} {cI cZ cJ : ClassId} {ad : Nat → Nat} (a1 a2 : Int32) (s : MS) {P : Int32 → MS → Prop} (h : Ok2 (f_Md_level a1 a2 s) P) : Ct (XM l D cI cZ cJ ad) y_Md_level b_Md_level 3 (some .boolean) 1 [.ref (ad 0), .int a1, .int a2] s (P) :=
  Ct.of mi_Md_level (Nat.le_of_ble_eq_true rfl) (f_Md_level_w a1 a2 s (Post := fun q => P q.1 q.2) (fun _ _ h => h) (Ok2_ok h))
-- Md_levels
noncomputable def Md_levels_l26 (x2 : Int32) (s : MS) : Option ((Int32 × MS) ⊕ (Int32 × MS)) :=
  if (30 : Int32) ≤ x2 then (xit (some ((1 : Int32), s))) else (chk (inb x2 30) (bnd (pa s 0 x2.toNatClampNeg (0 : Int32)) fun s1 => bnd (x2 + (1 : Int32)) fun v2 => some (.inl (v2, s1))))
theorem Md_levels_l26_w {l : Launch} {D : va_G} {cI cZ cJ : ClassId} {ad : Nat → Nat} (x2 : Int32) (s : MS) {Q : Int32 → MS → Prop} {Post : ((Int32 × MS) ⊕ (Int32 × MS)) → Prop} (hR : ∀ (r9 : Int32) (s9 : MS), Post (.inr ((r9, s9))) → Q r9 s9) (hL26 : ∀ (z2 : Int32) (s9 : MS), Post (.inl (z2, s9)) → G (XM l D cI cZ cJ ad) "SmallHarbourModel" b_Md_levels 3 (some .boolean) 1 26 [(0, .ref (ad 0)), (2, .int z2)] [] s9 Q) (h : Ok (Md_levels_l26 x2 s) Post) : G (XM l D cI cZ cJ ad) "SmallHarbourModel" b_Md_levels 3 (some .boolean) 1 26 [(0, .ref (ad 0)), (2, .int x2)] [] s Q := by
  unfold Md_levels_l26 at h
  refine G_iload_n d_Md_levels_26 rfl 1 rfl ?_
  refine G_bipush d_Md_levels_27 lt_bipush_30 ?_
  refine G_icmp_ge (tgt := 45) d_Md_levels_29 (by decide) (fun c => ?_) (fun c => ?_)
  · replace h := Ok_t c h
    replace h := Ok_xit h
    refine G_iconst d_Md_levels_45 lt_iconst_1 ?_
    replace h := Ok_some h
    exact G_iret rfl rfl d_Md_levels_46 (hR _ _ h)
  replace h := Ok_f c h
  refine G_aload_n d_Md_levels_32 rfl 0 rfl ?_
  refine gm_Md_level d_Md_levels_33 w_837 ?_
  refine G_iload_n d_Md_levels_36 rfl 1 rfl ?_
  refine G_iconst d_Md_levels_37 lt_iconst_0 ?_
  refine sm_0 d_Md_levels_38 (Ok_ld h).1 (fun s1 e => ?_)
  replace h := (Ok_ld h).2 s1 e
  clear e
  refine G_iinc d_Md_levels_39 1 rfl lt_iconst_1 rfl (Nat.le_of_ble_eq_true rfl) (fun x => [(2, .int x), (0, .ref (ad 0))]) (fun _ => rfl) (fun v2 e => ?_)
  replace h := Ok_bnd h v2 e
  clear e
  refine G_goto (tgt := 26) d_Md_levels_42 (by decide) ?_
  refine G_lv [1, 0] rfl ?_
  replace h := Ok_some h
  exact hL26 v2 s1 h
noncomputable def f_Md_levels (a1 : Int32) (s : MS) : Option (Int32 × MS) :=
  (f_Md_isIn a1 (1 : Int32) (30 : Int32)).bind fun v1 => if v1 = 0 then (some ((0 : Int32), s)) else ((f_Md_isBound s).bind fun v2 => if v2 = 0 then (bnd (pf s 0 a1) fun s3 => loop (fun z => Md_levels_l26 z.1 z.2) ((0 : Int32), s3)) else (some ((0 : Int32), s)))
theorem f_Md_levels_w {l : Launch} {D : va_G} {cI cZ cJ : ClassId} {ad : Nat → Nat} (a1 : Int32) (s : MS) {Q : Int32 → MS → Prop} {Post : (Int32 × MS) → Prop} (hR : ∀ (r9 : Int32) (s9 : MS), Post ((r9, s9)) → Q r9 s9) (h : Ok (f_Md_levels a1 s) Post) : G (XM l D cI cZ cJ ad) "SmallHarbourModel" b_Md_levels 3 (some .boolean) 1 0 [(0, .ref (ad 0)), (1, .int a1)] [] s Q := by
  unfold f_Md_levels at h
  refine G_iload_n d_Md_levels_0 rfl 1 rfl ?_
  refine G_iconst d_Md_levels_1 lt_iconst_1 ?_
  refine G_bipush d_Md_levels_2 lt_bipush_30 ?_
  refine G_callSp (st := []) (As := [.int a1, .int (1 : Int32), .int (30 : Int32)]) d_Md_levels_4 mi_Md_isIn w_1045 w_1046 rfl (Nat.le_of_ble_eq_true rfl) (by decide) (c_Md_isIn a1 (1 : Int32) (30 : Int32) s (Ok_bind h)) (fun v1 h hnv1 => ?_)
  refine G_if_eq (tgt := 17) d_Md_levels_7 (by decide) (fun c => ?_) (fun c => ?_)
  · replace h := Ok_t c h
    refine G_iconst d_Md_levels_17 lt_iconst_0 ?_
    replace h := Ok_some h
    exact G_iret rfl rfl d_Md_levels_18 (hR _ _ h)
  replace h := Ok_f c h
  refine G_aload_n d_Md_levels_10 rfl 0 rfl ?_
  refine G_callVp (st := []) (As := []) (b := ad 0) d_Md_levels_11 mi_Md_isBound w_1048 0 rfl rfl mv_Md_isBound rfl (Nat.le_of_ble_eq_true rfl) (by decide) (c_Md_isBound  s (Ok_bind h)) (fun v2 h hnv2 => ?_)
  refine G_if_eq (tgt := 19) d_Md_levels_14 (by decide) (fun c => ?_) (fun c => ?_)
  · replace h := Ok_t c h
    refine G_aload_n d_Md_levels_19 rfl 0 rfl ?_
    refine G_iload_n d_Md_levels_20 rfl 1 rfl ?_
    refine pm_Md_levels d_Md_levels_21 w_836 (fun s3 e => ?_)
    replace h := Ok_bnd h s3 e
    clear e
    refine G_iconst d_Md_levels_24 lt_iconst_0 ?_
    refine G_istore_n d_Md_levels_25 rfl (Nat.le_of_ble_eq_true rfl) (fun x => [(2, .int x), (0, .ref (ad 0)), (1, .int a1)]) (fun _ => rfl) (fun x e => ?_)
    subst e
    refine G_lv [1, 0] rfl ?_
    refine G_loop (J := (fun z => G (XM l D cI cZ cJ ad) "SmallHarbourModel" b_Md_levels 3 (some .boolean) 1 26 [(0, .ref (ad 0)), (2, .int (z.1))] [] z.2 Q)) (fun z h => ?_) ((0 : Int32), s3) h
    refine Md_levels_l26_w z.1 z.2 ?_ ?_ h
    · exact hR
    · exact (fun z2 s9 h => h)
  replace h := Ok_f c h
  refine G_iconst d_Md_levels_17 lt_iconst_0 ?_
  replace h := Ok_some h
  exact G_iret rfl rfl d_Md_levels_18 (hR _ _ h)
theorem c_Md_levels {l : Launch} {D : va_G} {cI cZ cJ : ClassId} {ad : Nat → Nat} (a1 : Int32) (s : MS) {P : Int32 → MS → Prop} (h : Ok2 (f_Md_levels a1 s) P) : Ct (XM l D cI cZ cJ ad) y_Md_levels b_Md_levels 3 (some .boolean) 1 [.ref (ad 0), .int a1] s (P) :=
  Ct.of mi_Md_levels (Nat.le_of_ble_eq_true rfl) (f_Md_levels_w a1 s (Post := fun q => P q.1 q.2) (fun _ _ h => h) (Ok2_ok h))
-- Md_lies
noncomputable def f_Md_lies (a1 a2 : Int32) (s : MS) : Option Int32 :=
  (f_Md_isIn a1 (0 : Int32) ((s.1 1) - (1 : Int32))).bind fun v1 => if v1 = 0 then (some (-1 : Int32)) else ((f_Md_isIn a2 (0 : Int32) (399 : Int32)).bind fun v2 => if v2 = 0 then (some (-1 : Int32)) else ((f_Md_at a1 a2 s).bind fun v3 => some v3))
theorem f_Md_lies_w {l : Launch} {D : va_G} {cI cZ cJ : ClassId} {ad : Nat → Nat} (a1 a2 : Int32) (s : MS) {Q : Int32 → MS → Prop} {Post : Int32 → Prop} (hR : ∀ (r9 : Int32), Post (r9) → Q r9 s) (h : Ok (f_Md_lies a1 a2 s) Post) : G (XM l D cI cZ cJ ad) "SmallHarbourModel" b_Md_lies 3 (some .int) 3 0 [(0, .ref (ad 0)), (1, .int a1), (2, .int a2)] [] s Q := by
  unfold f_Md_lies at h
  refine G_iload_n d_Md_lies_0 rfl 1 rfl ?_
  refine G_iconst d_Md_lies_1 lt_iconst_0 ?_
  refine G_aload_n d_Md_lies_2 rfl 0 rfl ?_
  refine gm_Md_berths d_Md_lies_3 w_838 ?_
  refine G_iconst d_Md_lies_6 lt_iconst_1 ?_
  refine G_isub d_Md_lies_7 ?_
  refine G_callSp (st := []) (As := [.int a1, .int (0 : Int32), .int ((s.1 1) - (1 : Int32))]) d_Md_lies_8 mi_Md_isIn w_1045 w_1046 rfl (Nat.le_of_ble_eq_true rfl) (by decide) (c_Md_isIn a1 (0 : Int32) ((s.1 1) - (1 : Int32)) s (Ok_bind h)) (fun v1 h hnv1 => ?_)
  refine G_if_eq (tgt := 34) d_Md_lies_11 (by decide) (fun c => ?_) (fun c => ?_)
  · replace h := Ok_t c h
    refine G_iconst d_Md_lies_34 lt_iconst_m1 ?_
    replace h := Ok_some h
    exact G_iret rfl (vp_nar_int _) d_Md_lies_35 (hR _ h)
  replace h := Ok_f c h
  refine G_iload_n d_Md_lies_14 rfl 2 rfl ?_
  refine G_iconst d_Md_lies_15 lt_iconst_0 ?_
  refine G_sipush d_Md_lies_16 lt_sipush_399 ?_
  refine G_callSp (st := []) (As := [.int a2, .int (0 : Int32), .int (399 : Int32)]) d_Md_lies_19 mi_Md_isIn w_1045 w_1046 rfl (Nat.le_of_ble_eq_true rfl) (by decide) (c_Md_isIn a2 (0 : Int32) (399 : Int32) s (Ok_bind h)) (fun v2 h hnv2 => ?_)
  refine G_if_eq (tgt := 34) d_Md_lies_22 (by decide) (fun c => ?_) (fun c => ?_)
  · replace h := Ok_t c h
    refine G_iconst d_Md_lies_34 lt_iconst_m1 ?_
    replace h := Ok_some h
    exact G_iret rfl (vp_nar_int _) d_Md_lies_35 (hR _ h)
  replace h := Ok_f c h
  refine G_aload_n d_Md_lies_25 rfl 0 rfl ?_
  refine G_iload_n d_Md_lies_26 rfl 1 rfl ?_
  refine G_iload_n d_Md_lies_27 rfl 2 rfl ?_
  refine G_callVp (st := []) (As := [.int a1, .int a2]) (b := ad 0) d_Md_lies_28 mi_Md_at w_1100 0 rfl rfl mv_Md_at rfl (Nat.le_of_ble_eq_true rfl) (by decide) (c_Md_at a1 a2 s (Ok_bind h)) (fun v3 h hnv3 => ?_)
  refine G_goto (tgt := 35) d_Md_lies_31 (by decide) ?_
  replace h := Ok_some h
  exact G_iret rfl (vp_nar_int _) d_Md_lies_35 (hR _ h)
theorem c_Md_lies {l : Launch} {D : va_G} {cI cZ cJ : ClassId} {ad : Nat → Nat} (a1 a2 : Int32) (s : MS) {P : Int32 → Prop} (h : Ok (f_Md_lies a1 a2 s) P) : Ct (XM l D cI cZ cJ ad) y_Md_lies b_Md_lies 3 (some .int) 3 [.ref (ad 0), .int a1, .int a2] s (fun r9 s9 => s9 = s ∧ P r9) :=
  Ct.of mi_Md_lies (Nat.le_of_ble_eq_true rfl) (f_Md_lies_w a1 a2 s (fun _ h => ⟨rfl, h⟩) h)
-- Md_lift
noncomputable def f_Md_lift (a1 a2 a3 : Int32) (s : MS) : Option (Int32 × MS) :=
  (f_Md_isBoat a1 s).bind fun v1 => if v1 = 0 then (some ((-1 : Int32), s)) else ((f_Md_isIn a2 (0 : Int32) (399 : Int32)).bind fun v2 => if v2 = 0 then (some ((-1 : Int32), s)) else ((f_Md_isIn a3 (1 : Int32) (600 : Int32)).bind fun v3 => if v3 = 0 then (some ((-1 : Int32), s)) else (if (s.1 15) = (40 : Int32) then (some ((-1 : Int32), s)) else (chk (inb (s.1 15) 40) (bnd (pa s 21 (s.1 15).toNatClampNeg a1) fun s4 => chk (inb (s4.1 15) 40) (bnd (pa s4 22 (s4.1 15).toNatClampNeg a2) fun s5 => chk (inb (s5.1 15) 40) (bnd (pa s5 23 (s5.1 15).toNatClampNeg a3) fun s6 => bnd (pf s6 15 ((s6.1 15) + (1 : Int32))) fun s7 => some (((s7.1 15) - (1 : Int32)), s7))))))))
theorem f_Md_lift_w {l : Launch} {D : va_G} {cI cZ cJ : ClassId} {ad : Nat → Nat} (a1 a2 a3 : Int32) (s : MS) {Q : Int32 → MS → Prop} {Post : (Int32 × MS) → Prop} (hR : ∀ (r9 : Int32) (s9 : MS), Post ((r9, s9)) → Q r9 s9) (h : Ok (f_Md_lift a1 a2 a3 s) Post) : G (XM l D cI cZ cJ ad) "SmallHarbourModel" b_Md_lift 4 (some .int) 2 0 [(0, .ref (ad 0)), (1, .int a1), (2, .int a2), (3, .int a3)] [] s Q := by
  unfold f_Md_lift at h
  refine G_aload_n d_Md_lift_0 rfl 0 rfl ?_
  refine G_iload_n d_Md_lift_1 rfl 1 rfl ?_
  refine G_callVp (st := []) (As := [.int a1]) (b := ad 0) d_Md_lift_2 mi_Md_isBoat w_1076 0 rfl rfl mv_Md_isBoat rfl (Nat.le_of_ble_eq_true rfl) (by decide) (c_Md_isBoat a1 s (Ok_bind h)) (fun v1 h hnv1 => ?_)
  refine G_if_eq (tgt := 39) d_Md_lift_5 (by decide) (fun c => ?_) (fun c => ?_)
  · replace h := Ok_t c h
    refine G_iconst d_Md_lift_39 lt_iconst_m1 ?_
    replace h := Ok_some h
    exact G_iret rfl (vp_nar_int _) d_Md_lift_40 (hR _ _ h)
  replace h := Ok_f c h
  refine G_iload_n d_Md_lift_8 rfl 2 rfl ?_
  refine G_iconst d_Md_lift_9 lt_iconst_0 ?_
  refine G_sipush d_Md_lift_10 lt_sipush_399 ?_
  refine G_callSp (st := []) (As := [.int a2, .int (0 : Int32), .int (399 : Int32)]) d_Md_lift_13 mi_Md_isIn w_1045 w_1046 rfl (Nat.le_of_ble_eq_true rfl) (by decide) (c_Md_isIn a2 (0 : Int32) (399 : Int32) s (Ok_bind h)) (fun v2 h hnv2 => ?_)
  refine G_if_eq (tgt := 39) d_Md_lift_16 (by decide) (fun c => ?_) (fun c => ?_)
  · replace h := Ok_t c h
    refine G_iconst d_Md_lift_39 lt_iconst_m1 ?_
    replace h := Ok_some h
    exact G_iret rfl (vp_nar_int _) d_Md_lift_40 (hR _ _ h)
  replace h := Ok_f c h
  refine G_iload_n d_Md_lift_19 rfl 3 rfl ?_
  refine G_iconst d_Md_lift_20 lt_iconst_1 ?_
  refine G_sipush d_Md_lift_21 lt_sipush_600 ?_
  refine G_callSp (st := []) (As := [.int a3, .int (1 : Int32), .int (600 : Int32)]) d_Md_lift_24 mi_Md_isIn w_1045 w_1046 rfl (Nat.le_of_ble_eq_true rfl) (by decide) (c_Md_isIn a3 (1 : Int32) (600 : Int32) s (Ok_bind h)) (fun v3 h hnv3 => ?_)
  refine G_if_eq (tgt := 39) d_Md_lift_27 (by decide) (fun c => ?_) (fun c => ?_)
  · replace h := Ok_t c h
    refine G_iconst d_Md_lift_39 lt_iconst_m1 ?_
    replace h := Ok_some h
    exact G_iret rfl (vp_nar_int _) d_Md_lift_40 (hR _ _ h)
  replace h := Ok_f c h
  refine G_aload_n d_Md_lift_30 rfl 0 rfl ?_
  refine gm_Md_lifts d_Md_lift_31 w_872 ?_
  refine G_bipush d_Md_lift_34 lt_bipush_40 ?_
  refine G_icmp_ne (tgt := 41) d_Md_lift_36 (by decide) (fun c => ?_) (fun c => ?_)
  · replace h := Ok_f c h
    refine G_aload_n d_Md_lift_41 rfl 0 rfl ?_
    refine gm_Md_liftBoat d_Md_lift_42 w_873 ?_
    refine G_aload_n d_Md_lift_45 rfl 0 rfl ?_
    refine gm_Md_lifts d_Md_lift_46 w_872 ?_
    refine G_iload_n d_Md_lift_49 rfl 1 rfl ?_
    refine sm_21 d_Md_lift_50 (Ok_ld h).1 (fun s4 e => ?_)
    replace h := (Ok_ld h).2 s4 e
    clear e
    refine G_aload_n d_Md_lift_51 rfl 0 rfl ?_
    refine gm_Md_liftFrom d_Md_lift_52 w_874 ?_
    refine G_aload_n d_Md_lift_55 rfl 0 rfl ?_
    refine gm_Md_lifts d_Md_lift_56 w_872 ?_
    refine G_iload_n d_Md_lift_59 rfl 2 rfl ?_
    refine sm_22 d_Md_lift_60 (Ok_ld h).1 (fun s5 e => ?_)
    replace h := (Ok_ld h).2 s5 e
    clear e
    refine G_aload_n d_Md_lift_61 rfl 0 rfl ?_
    refine gm_Md_liftMinutes d_Md_lift_62 w_875 ?_
    refine G_aload_n d_Md_lift_65 rfl 0 rfl ?_
    refine gm_Md_lifts d_Md_lift_66 w_872 ?_
    refine G_iload_n d_Md_lift_69 rfl 3 rfl ?_
    refine sm_23 d_Md_lift_70 (Ok_ld h).1 (fun s6 e => ?_)
    replace h := (Ok_ld h).2 s6 e
    clear e
    refine G_aload_n d_Md_lift_71 rfl 0 rfl ?_
    refine G_dup d_Md_lift_72 rfl ?_
    refine gm_Md_lifts d_Md_lift_73 w_872 ?_
    refine G_iconst d_Md_lift_76 lt_iconst_1 ?_
    refine G_iadd d_Md_lift_77 ?_
    refine pm_Md_lifts d_Md_lift_78 w_872 (fun s7 e => ?_)
    replace h := Ok_bnd h s7 e
    clear e
    refine G_aload_n d_Md_lift_81 rfl 0 rfl ?_
    refine gm_Md_lifts d_Md_lift_82 w_872 ?_
    refine G_iconst d_Md_lift_85 lt_iconst_1 ?_
    refine G_isub d_Md_lift_86 ?_
    replace h := Ok_some h
    exact G_iret rfl (vp_nar_int _) d_Md_lift_87 (hR _ _ h)
  replace h := Ok_t c h
  refine G_iconst d_Md_lift_39 lt_iconst_m1 ?_
  replace h := Ok_some h
  exact G_iret rfl (vp_nar_int _) d_Md_lift_40 (hR _ _ h)
theorem c_Md_lift {l : Launch} {D : va_G} {cI cZ cJ : ClassId} {ad : Nat → Nat} (a1 a2 a3 : Int32) (s : MS) {P : Int32 → MS → Prop} (h : Ok2 (f_Md_lift a1 a2 a3 s) P) : Ct (XM l D cI cZ cJ ad) y_Md_lift b_Md_lift 4 (some .int) 2 [.ref (ad 0), .int a1, .int a2, .int a3] s (P) :=
  Ct.of mi_Md_lift (Nat.le_of_ble_eq_true rfl) (f_Md_lift_w a1 a2 a3 s (Post := fun q => P q.1 q.2) (fun _ _ h => h) (Ok2_ok h))
-- Md_lifted
noncomputable def Md_lifted_j143 (x1 x2 x3 t0 t1 : Int32) (s : MS) : Option ((Int32 × Int32 × MS) ⊕ (Int32 × MS)) :=
  chk (inb t1 40) (bnd (pa s 24 t1.toNatClampNeg t0) fun s1 => chk (inb x3 40) (bnd (s1.2 24 x3.toNatClampNeg) fun v2 => if v2 < 0 then (bnd (x3 + (1 : Int32)) fun v3 => some (.inl (x2, v3, s1))) else (chk (inb x3 40) (bnd (s1.2 24 x3.toNatClampNeg) fun v4 => bnd (x3 + (1 : Int32)) fun v5 => some (.inl (v4, v5, s1))))))
theorem Md_lifted_j143_w {l : Launch} {D : va_G} {cI cZ cJ : ClassId} {ad : Nat → Nat} (x1 x2 x3 t0 t1 : Int32) (s : MS) {Q : Int32 → MS → Prop} {Post : ((Int32 × Int32 × MS) ⊕ (Int32 × MS)) → Prop} (hR : ∀ (r9 : Int32) (s9 : MS), Post (.inr ((r9, s9))) → Q r9 s9) (hL20 : ∀ (z2 z3 : Int32) (s9 : MS), Post (.inl (z2, z3, s9)) → G (XM l D cI cZ cJ ad) "SmallHarbourModel" b_Md_lifted 5 (some .int) 1 20 [(0, .ref (ad 0)), (1, .int x1), (2, .int z2), (3, .int z3)] [] s9 Q) (h : Ok (Md_lifted_j143 x1 x2 x3 t0 t1 s) Post) : G (XM l D cI cZ cJ ad) "SmallHarbourModel" b_Md_lifted 5 (some .int) 1 143 [(0, .ref (ad 0)), (1, .int x1), (2, .int x2), (3, .int x3)] [.int t0, .int t1, .ref (ad 25)] s Q := by
  unfold Md_lifted_j143 at h
  refine sm_24 d_Md_lifted_143 (Ok_ld h).1 (fun s1 e => ?_)
  replace h := (Ok_ld h).2 s1 e
  clear e
  refine G_aload_n d_Md_lifted_144 rfl 0 rfl ?_
  refine gm_Md_liftDay d_Md_lifted_145 w_876 ?_
  refine G_iload_n d_Md_lifted_148 rfl 3 rfl ?_
  refine lm_24 d_Md_lifted_149 (Ok_ld h).1 (fun v2 e => ?_)
  replace h := (Ok_ld h).2 v2 e
  clear e
  refine G_if_lt (tgt := 160) d_Md_lifted_150 (by decide) (fun c => ?_) (fun c => ?_)
  · replace h := Ok_t c h
    refine G_iinc d_Md_lifted_160 3 rfl lt_iconst_1 rfl (Nat.le_of_ble_eq_true rfl) (fun x => [(3, .int x), (0, .ref (ad 0)), (1, .int x1), (2, .int x2)]) (fun _ => rfl) (fun v3 e => ?_)
    replace h := Ok_bnd h v3 e
    clear e
    refine G_goto (tgt := 20) d_Md_lifted_163 (by decide) ?_
    refine G_lv [1, 2, 3, 0] rfl ?_
    replace h := Ok_some h
    exact hL20 x2 v3 s1 h
  replace h := Ok_f c h
  refine G_aload_n d_Md_lifted_153 rfl 0 rfl ?_
  refine gm_Md_liftDay d_Md_lifted_154 w_876 ?_
  refine G_iload_n d_Md_lifted_157 rfl 3 rfl ?_
  refine lm_24 d_Md_lifted_158 (Ok_ld h).1 (fun v4 e => ?_)
  replace h := (Ok_ld h).2 v4 e
  clear e
  refine G_istore_n d_Md_lifted_159 rfl (Nat.le_of_ble_eq_true rfl) (fun x => [(2, .int x), (0, .ref (ad 0)), (1, .int x1), (3, .int x3)]) (fun _ => rfl) (fun x e => ?_)
  subst e
  refine G_iinc d_Md_lifted_160 3 rfl lt_iconst_1 rfl (Nat.le_of_ble_eq_true rfl) (fun x => [(3, .int x), (2, .int v4), (0, .ref (ad 0)), (1, .int x1)]) (fun _ => rfl) (fun v5 e => ?_)
  replace h := Ok_bnd h v5 e
  clear e
  refine G_goto (tgt := 20) d_Md_lifted_163 (by decide) ?_
  refine G_lv [2, 3, 1, 0] rfl ?_
  replace h := Ok_some h
  exact hL20 v4 v5 s1 h
noncomputable def Md_lifted_j142 (x1 x2 x3 t0 : Int32) (s : MS) : Option ((Int32 × Int32 × MS) ⊕ (Int32 × MS)) :=
  Md_lifted_j143 x1 x2 x3 (-1 : Int32) t0 s
theorem Md_lifted_j142_w {l : Launch} {D : va_G} {cI cZ cJ : ClassId} {ad : Nat → Nat} (x1 x2 x3 t0 : Int32) (s : MS) {Q : Int32 → MS → Prop} {Post : ((Int32 × Int32 × MS) ⊕ (Int32 × MS)) → Prop} (hR : ∀ (r9 : Int32) (s9 : MS), Post (.inr ((r9, s9))) → Q r9 s9) (hL20 : ∀ (z2 z3 : Int32) (s9 : MS), Post (.inl (z2, z3, s9)) → G (XM l D cI cZ cJ ad) "SmallHarbourModel" b_Md_lifted 5 (some .int) 1 20 [(0, .ref (ad 0)), (1, .int x1), (2, .int z2), (3, .int z3)] [] s9 Q) (h : Ok (Md_lifted_j142 x1 x2 x3 t0 s) Post) : G (XM l D cI cZ cJ ad) "SmallHarbourModel" b_Md_lifted 5 (some .int) 1 142 [(0, .ref (ad 0)), (1, .int x1), (2, .int x2), (3, .int x3)] [.int t0, .ref (ad 25)] s Q := by
  unfold Md_lifted_j142 at h
  refine G_iconst d_Md_lifted_142 lt_iconst_m1 ?_
  refine Md_lifted_j143_w x1 x2 x3 (-1 : Int32) t0 s ?_ ?_ h
  · exact hR
  · exact hL20
noncomputable def Md_lifted_j106 (x1 x2 x3 x4 : Int32) (s : MS) : Option ((Int32 × Int32 × MS) ⊕ (Int32 × MS)) :=
  if (400 : Int32) ≤ x4 then (Md_lifted_j142 x1 x2 x3 x3 s) else (chk (inb x3 40) (bnd (s.2 21 x3.toNatClampNeg) fun v1 => chk (inb v1 30) (bnd (s.2 5 v1.toNatClampNeg) fun v2 => if (s.1 13) < v2 then (Md_lifted_j142 x1 x2 x3 x3 s) else (Md_lifted_j143 x1 x2 x3 x4 x3 s))))
theorem Md_lifted_j106_w {l : Launch} {D : va_G} {cI cZ cJ : ClassId} {ad : Nat → Nat} (x1 x2 x3 x4 : Int32) (s : MS) {Q : Int32 → MS → Prop} {Post : ((Int32 × Int32 × MS) ⊕ (Int32 × MS)) → Prop} (hR : ∀ (r9 : Int32) (s9 : MS), Post (.inr ((r9, s9))) → Q r9 s9) (hL20 : ∀ (z2 z3 : Int32) (s9 : MS), Post (.inl (z2, z3, s9)) → G (XM l D cI cZ cJ ad) "SmallHarbourModel" b_Md_lifted 5 (some .int) 1 20 [(0, .ref (ad 0)), (1, .int x1), (2, .int z2), (3, .int z3)] [] s9 Q) (h : Ok (Md_lifted_j106 x1 x2 x3 x4 s) Post) : G (XM l D cI cZ cJ ad) "SmallHarbourModel" b_Md_lifted 5 (some .int) 1 106 [(0, .ref (ad 0)), (1, .int x1), (2, .int x2), (3, .int x3), (4, .int x4)] [] s Q := by
  unfold Md_lifted_j106 at h
  refine G_aload_n d_Md_lifted_106 rfl 0 rfl ?_
  refine gm_Md_liftDay d_Md_lifted_107 w_876 ?_
  refine G_iload_n d_Md_lifted_110 rfl 3 rfl ?_
  refine G_iload d_Md_lifted_111 4 rfl ?_
  refine G_sipush d_Md_lifted_113 lt_sipush_400 ?_
  refine G_icmp_ge (tgt := 142) d_Md_lifted_116 (by decide) (fun c => ?_) (fun c => ?_)
  · replace h := Ok_t c h
    refine G_lv [0, 1, 2, 3] rfl ?_
    refine Md_lifted_j142_w x1 x2 x3 x3 s ?_ ?_ h
    · exact hR
    · exact hL20
  replace h := Ok_f c h
  refine G_aload_n d_Md_lifted_119 rfl 0 rfl ?_
  refine gm_Md_weight d_Md_lifted_120 w_844 ?_
  refine G_aload_n d_Md_lifted_123 rfl 0 rfl ?_
  refine gm_Md_liftBoat d_Md_lifted_124 w_873 ?_
  refine G_iload_n d_Md_lifted_127 rfl 3 rfl ?_
  refine lm_21 d_Md_lifted_128 (Ok_ld h).1 (fun v1 e => ?_)
  replace h := (Ok_ld h).2 v1 e
  clear e
  refine lm_5 d_Md_lifted_129 (Ok_ld h).1 (fun v2 e => ?_)
  replace h := (Ok_ld h).2 v2 e
  clear e
  refine G_aload_n d_Md_lifted_130 rfl 0 rfl ?_
  refine gm_Md_mostWeight d_Md_lifted_131 w_869 ?_
  refine G_icmp_gt (tgt := 142) d_Md_lifted_134 (by decide) (fun c => ?_) (fun c => ?_)
  · replace h := Ok_t c h
    refine G_lv [0, 1, 2, 3] rfl ?_
    refine Md_lifted_j142_w x1 x2 x3 x3 s ?_ ?_ h
    · exact hR
    · exact hL20
  replace h := Ok_f c h
  refine G_iload d_Md_lifted_137 4 rfl ?_
  refine G_goto (tgt := 143) d_Md_lifted_139 (by decide) ?_
  refine G_lv [0, 1, 2, 3] rfl ?_
  refine Md_lifted_j143_w x1 x2 x3 x4 x3 s ?_ ?_ h
  · exact hR
  · exact hL20
noncomputable def Md_lifted_l47 (x1 x2 x3 : Int32) (s : MS) (x4 : Int32) : Option ((Int32) ⊕ ((Int32 × Int32 × MS) ⊕ (Int32 × MS))) :=
  if (400 : Int32) ≤ x4 then (xit (Md_lifted_j106 x1 x2 x3 x4 s)) else (chk (inb x4 400) (bnd (s.2 20 x4.toNatClampNeg) fun v1 => if v1 = 0 then (chk (decide (¬ (s.1 0) = 0)) (chk (inb (x4 - x4 / (s.1 0) * (s.1 0)) 30) (bnd (s.2 0 (x4 - x4 / (s.1 0) * (s.1 0)).toNatClampNeg) fun v3 => if v3 < (s.1 12) then (bnd (x4 + (1 : Int32)) fun v4 => some (.inl v4)) else ((f_Md_left x4 x3 s).bind fun v5 => chk (inb x3 40) (bnd (s.2 23 x3.toNatClampNeg) fun v6 => if v6 ≤ v5 then (xit (Md_lifted_j106 x1 x2 x3 x4 s)) else (bnd (x4 + (1 : Int32)) fun v7 => some (.inl v7))))))) else (bnd (x4 + (1 : Int32)) fun v2 => some (.inl v2))))
theorem Md_lifted_l47_w {l : Launch} {D : va_G} {cI cZ cJ : ClassId} {ad : Nat → Nat} (x1 x2 x3 x4 : Int32) (s : MS) {Q : Int32 → MS → Prop} {Post : ((Int32) ⊕ ((Int32 × Int32 × MS) ⊕ (Int32 × MS))) → Prop} (hR : ∀ (r9 : Int32) (s9 : MS), Post (.inr (.inr ((r9, s9)))) → Q r9 s9) (hL20 : ∀ (z2 z3 : Int32) (s9 : MS), Post (.inr (.inl (z2, z3, s9))) → G (XM l D cI cZ cJ ad) "SmallHarbourModel" b_Md_lifted 5 (some .int) 1 20 [(0, .ref (ad 0)), (1, .int x1), (2, .int z2), (3, .int z3)] [] s9 Q) (hL47 : ∀ (z4 : Int32) , Post (.inl z4) → G (XM l D cI cZ cJ ad) "SmallHarbourModel" b_Md_lifted 5 (some .int) 1 47 [(0, .ref (ad 0)), (1, .int x1), (2, .int x2), (3, .int x3), (4, .int z4)] [] s Q) (h : Ok (Md_lifted_l47 x1 x2 x3 s x4) Post) : G (XM l D cI cZ cJ ad) "SmallHarbourModel" b_Md_lifted 5 (some .int) 1 47 [(0, .ref (ad 0)), (1, .int x1), (2, .int x2), (3, .int x3), (4, .int x4)] [] s Q := by
  unfold Md_lifted_l47 at h
  refine G_iload d_Md_lifted_47 4 rfl ?_
  refine G_sipush d_Md_lifted_49 lt_sipush_400 ?_
  refine G_icmp_ge (tgt := 106) d_Md_lifted_52 (by decide) (fun c => ?_) (fun c => ?_)
  · replace h := Ok_t c h
    replace h := Ok_xit h
    refine Md_lifted_j106_w x1 x2 x3 x4 s ?_ ?_ h
    · exact hR
    · exact hL20
  replace h := Ok_f c h
  refine G_aload_n d_Md_lifted_55 rfl 0 rfl ?_
  refine gm_Md_broken d_Md_lifted_56 w_871 ?_
  refine G_iload d_Md_lifted_59 4 rfl ?_
  refine lm_20 d_Md_lifted_61 (Ok_ld h).1 (fun v1 e => ?_)
  replace h := (Ok_ld h).2 v1 e
  clear e
  refine G_if_ne (tgt := 100) d_Md_lifted_62 (by decide) (fun c => ?_) (fun c => ?_)
  · replace h := Ok_f c h
    refine G_iinc d_Md_lifted_100 4 rfl lt_iconst_1 rfl (Nat.le_of_ble_eq_true rfl) (fun x => [(4, .int x), (0, .ref (ad 0)), (1, .int x1), (2, .int x2), (3, .int x3)]) (fun _ => rfl) (fun v2 e => ?_)
    replace h := Ok_bnd h v2 e
    clear e
    refine G_goto (tgt := 47) d_Md_lifted_103 (by decide) ?_
    refine G_lv [1, 2, 3, 4, 0] rfl ?_
    replace h := Ok_some h
    exact hL47 v2 h
  replace h := Ok_t c h
  refine G_aload_n d_Md_lifted_65 rfl 0 rfl ?_
  refine gm_Md_level d_Md_lifted_66 w_837 ?_
  refine G_iload d_Md_lifted_69 4 rfl ?_
  refine G_aload_n d_Md_lifted_71 rfl 0 rfl ?_
  refine gm_Md_levels d_Md_lifted_72 w_836 ?_
  refine G_irem d_Md_lifted_75 (of_decide_eq_true (Ok_chk h).1) ?_
  replace h := (Ok_chk h).2
  refine lm_0 d_Md_lifted_76 (Ok_ld h).1 (fun v3 e => ?_)
  replace h := (Ok_ld h).2 v3 e
  clear e
  refine G_aload_n d_Md_lifted_77 rfl 0 rfl ?_
  refine gm_Md_leastLevel d_Md_lifted_78 w_868 ?_
  refine G_icmp_lt (tgt := 100) d_Md_lifted_81 (by decide) (fun c => ?_) (fun c => ?_)
  · replace h := Ok_t c h
    refine G_iinc d_Md_lifted_100 4 rfl lt_iconst_1 rfl (Nat.le_of_ble_eq_true rfl) (fun x => [(4, .int x), (0, .ref (ad 0)), (1, .int x1), (2, .int x2), (3, .int x3)]) (fun _ => rfl) (fun v4 e => ?_)
    replace h := Ok_bnd h v4 e
    clear e
    refine G_goto (tgt := 47) d_Md_lifted_103 (by decide) ?_
    refine G_lv [1, 2, 3, 4, 0] rfl ?_
    replace h := Ok_some h
    exact hL47 v4 h
  replace h := Ok_f c h
  refine G_aload_n d_Md_lifted_84 rfl 0 rfl ?_
  refine G_iload d_Md_lifted_85 4 rfl ?_
  refine G_iload_n d_Md_lifted_87 rfl 3 rfl ?_
  refine G_callVp (st := []) (As := [.int x4, .int x3]) (b := ad 0) d_Md_lifted_88 mi_Md_left w_1200 0 rfl rfl mv_Md_left rfl (Nat.le_of_ble_eq_true rfl) (by decide) (c_Md_left x4 x3 s (Ok_bind h)) (fun v5 h hnv5 => ?_)
  refine G_aload_n d_Md_lifted_91 rfl 0 rfl ?_
  refine gm_Md_liftMinutes d_Md_lifted_92 w_875 ?_
  refine G_iload_n d_Md_lifted_95 rfl 3 rfl ?_
  refine lm_23 d_Md_lifted_96 (Ok_ld h).1 (fun v6 e => ?_)
  replace h := (Ok_ld h).2 v6 e
  clear e
  refine G_icmp_ge (tgt := 106) d_Md_lifted_97 (by decide) (fun c => ?_) (fun c => ?_)
  · replace h := Ok_t c h
    replace h := Ok_xit h
    refine Md_lifted_j106_w x1 x2 x3 x4 s ?_ ?_ h
    · exact hR
    · exact hL20
  replace h := Ok_f c h
  refine G_iinc d_Md_lifted_100 4 rfl lt_iconst_1 rfl (Nat.le_of_ble_eq_true rfl) (fun x => [(4, .int x), (0, .ref (ad 0)), (1, .int x1), (2, .int x2), (3, .int x3)]) (fun _ => rfl) (fun v7 e => ?_)
  replace h := Ok_bnd h v7 e
  clear e
  refine G_goto (tgt := 47) d_Md_lifted_103 (by decide) ?_
  refine G_lv [1, 2, 3, 4, 0] rfl ?_
  replace h := Ok_some h
  exact hL47 v7 h
noncomputable def Md_lifted_l20 (x1 : Int32) (x2 x3 : Int32) (s : MS) : Option ((Int32 × Int32 × MS) ⊕ (Int32 × MS)) :=
  if x1 < x3 then (xit (chk (inb x1 40) (bnd (s.2 24 x1.toNatClampNeg) fun v1 => some (v1, s)))) else (chk (inb x3 40) (bnd (s.2 22 x3.toNatClampNeg) fun v2 => if x2 ≤ v2 then (chk (inb x3 40) (bnd (s.2 22 x3.toNatClampNeg) fun v3 => loop (fun z => Md_lifted_l47 x1 x2 x3 s z) v3)) else (loop (fun z => Md_lifted_l47 x1 x2 x3 s z) x2)))
theorem Md_lifted_l20_w {l : Launch} {D : va_G} {cI cZ cJ : ClassId} {ad : Nat → Nat} (x1 x2 x3 : Int32) (s : MS) {Q : Int32 → MS → Prop} {Post : ((Int32 × Int32 × MS) ⊕ (Int32 × MS)) → Prop} (hR : ∀ (r9 : Int32) (s9 : MS), Post (.inr ((r9, s9))) → Q r9 s9) (hL20 : ∀ (z2 z3 : Int32) (s9 : MS), Post (.inl (z2, z3, s9)) → G (XM l D cI cZ cJ ad) "SmallHarbourModel" b_Md_lifted 5 (some .int) 1 20 [(0, .ref (ad 0)), (1, .int x1), (2, .int z2), (3, .int z3)] [] s9 Q) (h : Ok (Md_lifted_l20 x1 x2 x3 s) Post) : G (XM l D cI cZ cJ ad) "SmallHarbourModel" b_Md_lifted 5 (some .int) 1 20 [(0, .ref (ad 0)), (1, .int x1), (2, .int x2), (3, .int x3)] [] s Q := by
  unfold Md_lifted_l20 at h
  refine G_iload_n d_Md_lifted_20 rfl 3 rfl ?_
  refine G_iload_n d_Md_lifted_21 rfl 1 rfl ?_
  refine G_icmp_gt (tgt := 166) d_Md_lifted_22 (by decide) (fun c => ?_) (fun c => ?_)
  · replace h := Ok_t c h
    replace h := Ok_xit h
    refine G_aload_n d_Md_lifted_166 rfl 0 rfl ?_
    refine gm_Md_liftDay d_Md_lifted_167 w_876 ?_
    refine G_iload_n d_Md_lifted_170 rfl 1 rfl ?_
    refine lm_24 d_Md_lifted_171 (Ok_ld h).1 (fun v1 e => ?_)
    replace h := (Ok_ld h).2 v1 e
    clear e
    replace h := Ok_some h
    exact G_iret rfl (vp_nar_int _) d_Md_lifted_172 (hR _ _ h)
  replace h := Ok_f c h
  refine G_aload_n d_Md_lifted_25 rfl 0 rfl ?_
  refine gm_Md_liftFrom d_Md_lifted_26 w_874 ?_
  refine G_iload_n d_Md_lifted_29 rfl 3 rfl ?_
  refine lm_22 d_Md_lifted_30 (Ok_ld h).1 (fun v2 e => ?_)
  replace h := (Ok_ld h).2 v2 e
  clear e
  refine G_iload_n d_Md_lifted_31 rfl 2 rfl ?_
  refine G_icmp_ge (tgt := 39) d_Md_lifted_32 (by decide) (fun c => ?_) (fun c => ?_)
  · replace h := Ok_t c h
    refine G_aload_n d_Md_lifted_39 rfl 0 rfl ?_
    refine gm_Md_liftFrom d_Md_lifted_40 w_874 ?_
    refine G_iload_n d_Md_lifted_43 rfl 3 rfl ?_
    refine lm_22 d_Md_lifted_44 (Ok_ld h).1 (fun v3 e => ?_)
    replace h := (Ok_ld h).2 v3 e
    clear e
    refine G_istore d_Md_lifted_45 (Nat.le_of_ble_eq_true rfl) (fun x => [(4, .int x), (0, .ref (ad 0)), (1, .int x1), (2, .int x2), (3, .int x3)]) (fun _ => rfl) (fun x e => ?_)
    subst e
    refine G_lv [1, 2, 3, 4, 0] rfl ?_
    refine G_loop (J := (fun z => G (XM l D cI cZ cJ ad) "SmallHarbourModel" b_Md_lifted 5 (some .int) 1 47 [(0, .ref (ad 0)), (1, .int x1), (2, .int x2), (3, .int x3), (4, .int z)] [] s Q)) (fun z h => ?_) v3 h
    refine Md_lifted_l47_w x1 x2 x3 z s ?_ ?_ ?_ h
    · exact hR
    · exact hL20
    · exact (fun z4 h => h)
  replace h := Ok_f c h
  refine G_iload_n d_Md_lifted_35 rfl 2 rfl ?_
  refine G_goto (tgt := 45) d_Md_lifted_36 (by decide) ?_
  refine G_istore d_Md_lifted_45 (Nat.le_of_ble_eq_true rfl) (fun x => [(4, .int x), (0, .ref (ad 0)), (1, .int x1), (2, .int x2), (3, .int x3)]) (fun _ => rfl) (fun x e => ?_)
  subst e
  refine G_lv [1, 2, 3, 4, 0] rfl ?_
  refine G_loop (J := (fun z => G (XM l D cI cZ cJ ad) "SmallHarbourModel" b_Md_lifted 5 (some .int) 1 47 [(0, .ref (ad 0)), (1, .int x1), (2, .int x2), (3, .int x3), (4, .int z)] [] s Q)) (fun z h => ?_) x2 h
  refine Md_lifted_l47_w x1 x2 x3 z s ?_ ?_ ?_ h
  · exact hR
  · exact hL20
  · exact (fun z4 h => h)
noncomputable def f_Md_lifted (a1 : Int32) (s : MS) : Option (Int32 × MS) :=
  (f_Md_isIn a1 (0 : Int32) ((s.1 15) - (1 : Int32))).bind fun v1 => if v1 = 0 then (some ((-1 : Int32), s)) else (loop (fun z => Md_lifted_l20 a1 z.1 z.2.1 z.2.2) ((0 : Int32), (0 : Int32), s))
theorem f_Md_lifted_w {l : Launch} {D : va_G} {cI cZ cJ : ClassId} {ad : Nat → Nat} (a1 : Int32) (s : MS) {Q : Int32 → MS → Prop} {Post : (Int32 × MS) → Prop} (hR : ∀ (r9 : Int32) (s9 : MS), Post ((r9, s9)) → Q r9 s9) (h : Ok (f_Md_lifted a1 s) Post) : G (XM l D cI cZ cJ ad) "SmallHarbourModel" b_Md_lifted 5 (some .int) 1 0 [(0, .ref (ad 0)), (1, .int a1)] [] s Q := by
  unfold f_Md_lifted at h
  refine G_iload_n d_Md_lifted_0 rfl 1 rfl ?_
  refine G_iconst d_Md_lifted_1 lt_iconst_0 ?_
  refine G_aload_n d_Md_lifted_2 rfl 0 rfl ?_
  refine gm_Md_lifts d_Md_lifted_3 w_872 ?_
  refine G_iconst d_Md_lifted_6 lt_iconst_1 ?_
  refine G_isub d_Md_lifted_7 ?_
  refine G_callSp (st := []) (As := [.int a1, .int (0 : Int32), .int ((s.1 15) - (1 : Int32))]) d_Md_lifted_8 mi_Md_isIn w_1045 w_1046 rfl (Nat.le_of_ble_eq_true rfl) (by decide) (c_Md_isIn a1 (0 : Int32) ((s.1 15) - (1 : Int32)) s (Ok_bind h)) (fun v1 h hnv1 => ?_)
  refine G_if_ne (tgt := 16) d_Md_lifted_11 (by decide) (fun c => ?_) (fun c => ?_)
  · replace h := Ok_f c h
    refine G_iconst d_Md_lifted_16 lt_iconst_0 ?_
    refine G_istore_n d_Md_lifted_17 rfl (Nat.le_of_ble_eq_true rfl) (fun x => [(2, .int x), (0, .ref (ad 0)), (1, .int a1)]) (fun _ => rfl) (fun x e => ?_)
    subst e
    refine G_iconst d_Md_lifted_18 lt_iconst_0 ?_
    refine G_istore_n d_Md_lifted_19 rfl (Nat.le_of_ble_eq_true rfl) (fun x => [(3, .int x), (2, .int (0 : Int32)), (0, .ref (ad 0)), (1, .int a1)]) (fun _ => rfl) (fun x e => ?_)
    subst e
    refine G_lv [2, 3, 1, 0] rfl ?_
    refine G_loop (J := (fun z => G (XM l D cI cZ cJ ad) "SmallHarbourModel" b_Md_lifted 5 (some .int) 1 20 [(0, .ref (ad 0)), (1, .int a1), (2, .int (z.1)), (3, .int (z.2.1))] [] z.2.2 Q)) (fun z h => ?_) ((0 : Int32), (0 : Int32), s) h
    refine Md_lifted_l20_w a1 z.1 z.2.1 z.2.2 ?_ ?_ h
    · exact hR
    · exact (fun z2 z3 s9 h => h)
  replace h := Ok_t c h
  refine G_iconst d_Md_lifted_14 lt_iconst_m1 ?_
  replace h := Ok_some h
  exact G_iret rfl (vp_nar_int _) d_Md_lifted_15 (hR _ _ h)
theorem c_Md_lifted {l : Launch} {D : va_G} {cI cZ cJ : ClassId} {ad : Nat → Nat} (a1 : Int32) (s : MS) {P : Int32 → MS → Prop} (h : Ok2 (f_Md_lifted a1 s) P) : Ct (XM l D cI cZ cJ ad) y_Md_lifted b_Md_lifted 5 (some .int) 1 [.ref (ad 0), .int a1] s (P) :=
  Ct.of mi_Md_lifted (Nat.le_of_ble_eq_true rfl) (f_Md_lifted_w a1 s (Post := fun q => P q.1 q.2) (fun _ _ h => h) (Ok2_ok h))
-- Md_moved
noncomputable def f_Md_moved (a1 a2 : Int32) (s : MS) : Option Int32 :=
  (f_Md_isIn a1 (0 : Int32) ((s.1 11) - (1 : Int32))).bind fun v1 => if v1 = 0 then (some (-1 : Int32)) else (if a2 = 0 then (chk (inb a1 12) (bnd (s.2 17 a1.toNatClampNeg) fun v4 => some v4)) else (if a2 = (1 : Int32) then (chk (inb a1 12) (bnd (s.2 18 a1.toNatClampNeg) fun v3 => some v3)) else (if a2 = (2 : Int32) then (chk (inb a1 12) (bnd (s.2 19 a1.toNatClampNeg) fun v2 => some v2)) else (some (-1 : Int32)))))
theorem f_Md_moved_w {l : Launch} {D : va_G} {cI cZ cJ : ClassId} {ad : Nat → Nat} (a1 a2 : Int32) (s : MS) {Q : Int32 → MS → Prop} {Post : Int32 → Prop} (hR : ∀ (r9 : Int32), Post (r9) → Q r9 s) (h : Ok (f_Md_moved a1 a2 s) Post) : G (XM l D cI cZ cJ ad) "SmallHarbourModel" b_Md_moved 3 (some .int) 1 0 [(0, .ref (ad 0)), (1, .int a1), (2, .int a2)] [] s Q := by
  unfold f_Md_moved at h
  refine G_iload_n d_Md_moved_0 rfl 1 rfl ?_
  refine G_iconst d_Md_moved_1 lt_iconst_0 ?_
  refine G_aload_n d_Md_moved_2 rfl 0 rfl ?_
  refine gm_Md_moves d_Md_moved_3 w_864 ?_
  refine G_iconst d_Md_moved_6 lt_iconst_1 ?_
  refine G_isub d_Md_moved_7 ?_
  refine G_callSp (st := []) (As := [.int a1, .int (0 : Int32), .int ((s.1 11) - (1 : Int32))]) d_Md_moved_8 mi_Md_isIn w_1045 w_1046 rfl (Nat.le_of_ble_eq_true rfl) (by decide) (c_Md_isIn a1 (0 : Int32) ((s.1 11) - (1 : Int32)) s (Ok_bind h)) (fun v1 h hnv1 => ?_)
  refine G_if_ne (tgt := 16) d_Md_moved_11 (by decide) (fun c => ?_) (fun c => ?_)
  · replace h := Ok_f c h
    refine G_iload_n d_Md_moved_16 rfl 2 rfl ?_
    refine G_if_ne (tgt := 29) d_Md_moved_17 (by decide) (fun c => ?_) (fun c => ?_)
    · replace h := Ok_f c h
      refine G_iload_n d_Md_moved_29 rfl 2 rfl ?_
      refine G_iconst d_Md_moved_30 lt_iconst_1 ?_
      refine G_icmp_ne (tgt := 43) d_Md_moved_31 (by decide) (fun c => ?_) (fun c => ?_)
      · replace h := Ok_f c h
        refine G_iload_n d_Md_moved_43 rfl 2 rfl ?_
        refine G_iconst d_Md_moved_44 lt_iconst_2 ?_
        refine G_icmp_ne (tgt := 57) d_Md_moved_45 (by decide) (fun c => ?_) (fun c => ?_)
        · replace h := Ok_f c h
          refine G_iconst d_Md_moved_57 lt_iconst_m1 ?_
          replace h := Ok_some h
          exact G_iret rfl (vp_nar_int _) d_Md_moved_58 (hR _ h)
        replace h := Ok_t c h
        refine G_aload_n d_Md_moved_48 rfl 0 rfl ?_
        refine gm_Md_movedNow d_Md_moved_49 w_867 ?_
        refine G_iload_n d_Md_moved_52 rfl 1 rfl ?_
        refine lm_19 d_Md_moved_53 (Ok_ld h).1 (fun v2 e => ?_)
        replace h := (Ok_ld h).2 v2 e
        clear e
        refine G_goto (tgt := 58) d_Md_moved_54 (by decide) ?_
        replace h := Ok_some h
        exact G_iret rfl (vp_nar_int _) d_Md_moved_58 (hR _ h)
      replace h := Ok_t c h
      refine G_aload_n d_Md_moved_34 rfl 0 rfl ?_
      refine gm_Md_movedBerth d_Md_moved_35 w_866 ?_
      refine G_iload_n d_Md_moved_38 rfl 1 rfl ?_
      refine lm_18 d_Md_moved_39 (Ok_ld h).1 (fun v3 e => ?_)
      replace h := (Ok_ld h).2 v3 e
      clear e
      refine G_goto (tgt := 58) d_Md_moved_40 (by decide) ?_
      replace h := Ok_some h
      exact G_iret rfl (vp_nar_int _) d_Md_moved_58 (hR _ h)
    replace h := Ok_t c h
    refine G_aload_n d_Md_moved_20 rfl 0 rfl ?_
    refine gm_Md_movedStay d_Md_moved_21 w_865 ?_
    refine G_iload_n d_Md_moved_24 rfl 1 rfl ?_
    refine lm_17 d_Md_moved_25 (Ok_ld h).1 (fun v4 e => ?_)
    replace h := (Ok_ld h).2 v4 e
    clear e
    refine G_goto (tgt := 58) d_Md_moved_26 (by decide) ?_
    replace h := Ok_some h
    exact G_iret rfl (vp_nar_int _) d_Md_moved_58 (hR _ h)
  replace h := Ok_t c h
  refine G_iconst d_Md_moved_14 lt_iconst_m1 ?_
  replace h := Ok_some h
  exact G_iret rfl (vp_nar_int _) d_Md_moved_15 (hR _ h)
theorem c_Md_moved {l : Launch} {D : va_G} {cI cZ cJ : ClassId} {ad : Nat → Nat} (a1 a2 : Int32) (s : MS) {P : Int32 → Prop} (h : Ok (f_Md_moved a1 a2 s) P) : Ct (XM l D cI cZ cJ ad) y_Md_moved b_Md_moved 3 (some .int) 1 [.ref (ad 0), .int a1, .int a2] s (fun r9 s9 => s9 = s ∧ P r9) :=
  Ct.of mi_Md_moved (Nat.le_of_ble_eq_true rfl) (f_Md_moved_w a1 a2 s (fun _ h => ⟨rfl, h⟩) h)
-- Md_moves
noncomputable def f_Md_moves (s : MS) : Option (Int32 × MS) :=
  bd2 (f_Md_fewest s) fun v1 s2 => some (v1, s2)
theorem f_Md_moves_w {l : Launch} {D : va_G} {cI cZ cJ : ClassId} {ad : Nat → Nat} (s : MS) {Q : Int32 → MS → Prop} {Post : (Int32 × MS) → Prop} (hR : ∀ (r9 : Int32) (s9 : MS), Post ((r9, s9)) → Q r9 s9) (h : Ok (f_Md_moves s) Post) : G (XM l D cI cZ cJ ad) "SmallHarbourModel" b_Md_moves 1 (some .int) 2 0 [(0, .ref (ad 0))] [] s Q := by
  unfold f_Md_moves at h
  refine G_aload_n d_Md_moves_0 rfl 0 rfl ?_
  refine G_callVi (st := []) (As := []) (b := ad 0) d_Md_moves_1 mi_Md_fewest w_1216 0 rfl rfl mv_Md_fewest rfl (Nat.le_of_ble_eq_true rfl) (by decide) (c_Md_fewest  s (Ok_bd2 h)) (fun v1 s2 h hnv1 => ?_)
  replace h := Ok_some h
  exact G_iret rfl (vp_nar_int _) d_Md_moves_4 (hR _ _ h)
theorem c_Md_moves {l : Launch} {D : va_G} {cI cZ cJ : ClassId} {ad : Nat → Nat} (s : MS) {P : Int32 → MS → Prop} (h : Ok2 (f_Md_moves  s) P) : Ct (XM l D cI cZ cJ ad) y_Md_moves b_Md_moves 1 (some .int) 2 [.ref (ad 0)] s (P) :=
  Ct.of mi_Md_moves (Nat.le_of_ble_eq_true rfl) (f_Md_moves_w  s (Post := fun q => P q.1 q.2) (fun _ _ h => h) (Ok2_ok h))
-- Md_see
noncomputable def f_Md_see (a1 : Int32) (s : MS) : Option Int32 :=
  if (s.1 19) ≤ a1 then (some (-1 : Int32)) else (chk (inb a1 200) (bnd (s.2 29 a1.toNatClampNeg) fun v1 => some v1))
theorem f_Md_see_w {l : Launch} {D : va_G} {cI cZ cJ : ClassId} {ad : Nat → Nat} (a1 : Int32) (s : MS) {Q : Int32 → MS → Prop} {Post : Int32 → Prop} (hR : ∀ (r9 : Int32), Post (r9) → Q r9 s) (h : Ok (f_Md_see a1 s) Post) : G (XM l D cI cZ cJ ad) "SmallHarbourModel" b_Md_see 2 (some .int) 0 0 [(0, .ref (ad 0)), (1, .int a1)] [] s Q := by
  unfold f_Md_see at h
  refine G_iload_n d_Md_see_0 rfl 1 rfl ?_
  refine G_aload_n d_Md_see_1 rfl 0 rfl ?_
  refine gm_Md_taped d_Md_see_2 w_885 ?_
  refine G_icmp_ge (tgt := 17) d_Md_see_5 (by decide) (fun c => ?_) (fun c => ?_)
  · replace h := Ok_t c h
    refine G_iconst d_Md_see_17 lt_iconst_m1 ?_
    replace h := Ok_some h
    exact G_iret rfl (vp_nar_int _) d_Md_see_18 (hR _ h)
  replace h := Ok_f c h
  refine G_aload_n d_Md_see_8 rfl 0 rfl ?_
  refine gm_Md_tape d_Md_see_9 w_884 ?_
  refine G_iload_n d_Md_see_12 rfl 1 rfl ?_
  refine lm_29 d_Md_see_13 (Ok_ld h).1 (fun v1 e => ?_)
  replace h := (Ok_ld h).2 v1 e
  clear e
  refine G_goto (tgt := 18) d_Md_see_14 (by decide) ?_
  replace h := Ok_some h
  exact G_iret rfl (vp_nar_int _) d_Md_see_18 (hR _ h)
theorem c_Md_see {l : Launch} {D : va_G} {cI cZ cJ : ClassId} {ad : Nat → Nat} (a1 : Int32) (s : MS) {P : Int32 → Prop} (h : Ok (f_Md_see a1 s) P) : Ct (XM l D cI cZ cJ ad) y_Md_see b_Md_see 2 (some .int) 0 [.ref (ad 0), .int a1] s (fun r9 s9 => s9 = s ∧ P r9) :=
  Ct.of mi_Md_see (Nat.le_of_ble_eq_true rfl) (f_Md_see_w a1 s (fun _ h => ⟨rfl, h⟩) h)
-- Md_signOf
noncomputable def f_Md_signOf (a1 : Int32) : Option Int32 :=
  bnd a1 fun v1 => if v1 = (37 : Int32) then (some (14 : Int32)) else (if v1 = (38 : Int32) then (some (17 : Int32)) else (if v1 = (39 : Int32) then (some (17 : Int32)) else (if v1 = (40 : Int32) then (some (8 : Int32)) else (if v1 = (41 : Int32) then (some (9 : Int32)) else (if v1 = (42 : Int32) then (some (12 : Int32)) else (if v1 = (43 : Int32) then (some (10 : Int32)) else (if v1 = (44 : Int32) then (some (17 : Int32)) else (if v1 = (45 : Int32) then (some (11 : Int32)) else (if v1 = (46 : Int32) then (some (17 : Int32)) else (if v1 = (47 : Int32) then (some (13 : Int32)) else (if v1 = (48 : Int32) then (some (17 : Int32)) else (if v1 = (49 : Int32) then (some (17 : Int32)) else (if v1 = (50 : Int32) then (some (17 : Int32)) else (if v1 = (51 : Int32) then (some (17 : Int32)) else (if v1 = (52 : Int32) then (some (17 : Int32)) else (if v1 = (53 : Int32) then (some (17 : Int32)) else (if v1 = (54 : Int32) then (some (17 : Int32)) else (if v1 = (55 : Int32) then (some (17 : Int32)) else (if v1 = (56 : Int32) then (some (17 : Int32)) else (if v1 = (57 : Int32) then (some (17 : Int32)) else (if v1 = (58 : Int32) then (some (17 : Int32)) else (if v1 = (59 : Int32) then (some (17 : Int32)) else (if v1 = (60 : Int32) then (some (15 : Int32)) else (if v1 = (61 : Int32) then (some (16 : Int32)) else (some (17 : Int32))))))))))))))))))))))))))
theorem f_Md_signOf_w {l : Launch} {D : va_G} {cI cZ cJ : ClassId} {ad : Nat → Nat} (a1 : Int32) (s : MS) {Q : Int32 → MS → Prop} {Post : Int32 → Prop} (hR : ∀ (r9 : Int32), Post (r9) → Q r9 s) (h : Ok (f_Md_signOf a1) Post) : G (XM l D cI cZ cJ ad) "SmallHarbourModel" b_Md_signOf 1 (some .int) 0 0 [(0, .int a1)] [] s Q := by
  unfold f_Md_signOf at h
  refine G_iload_n d_Md_signOf_0 rfl 0 rfl ?_
  refine G_topi (fun v1 e => ?_)
  replace h := Ok_bnd h v1 e
  clear e
  by_cases c0 : v1 = (37 : Int32)
  · replace h := Ok_t c0 h
    refine G_tableIn (tgt := 134) d_Md_signOf_1 (by rw [c0]; decide) (by rw [c0]; decide) (by rw [c0]; rfl) (by decide) ?_
    refine G_bipush d_Md_signOf_134 lt_bipush_14 ?_
    replace h := Ok_some h
    exact G_iret rfl (vp_nar_int _) d_Md_signOf_136 (hR _ h)
  replace h := Ok_f c0 h
  have n0 := ne_ti (z := 37) (by decide) c0
  by_cases c1 : v1 = (38 : Int32)
  · replace h := Ok_t c1 h
    refine G_tableIn (tgt := 143) d_Md_signOf_1 (by rw [c1]; decide) (by rw [c1]; decide) (by rw [c1]; rfl) (by decide) ?_
    refine G_bipush d_Md_signOf_143 lt_bipush_17 ?_
    replace h := Ok_some h
    exact G_iret rfl (vp_nar_int _) d_Md_signOf_145 (hR _ h)
  replace h := Ok_f c1 h
  have n1 := ne_ti (z := 38) (by decide) c1
  by_cases c2 : v1 = (39 : Int32)
  · replace h := Ok_t c2 h
    refine G_tableIn (tgt := 143) d_Md_signOf_1 (by rw [c2]; decide) (by rw [c2]; decide) (by rw [c2]; rfl) (by decide) ?_
    refine G_bipush d_Md_signOf_143 lt_bipush_17 ?_
    replace h := Ok_some h
    exact G_iret rfl (vp_nar_int _) d_Md_signOf_145 (hR _ h)
  replace h := Ok_f c2 h
  have n2 := ne_ti (z := 39) (by decide) c2
  by_cases c3 : v1 = (40 : Int32)
  · replace h := Ok_t c3 h
    refine G_tableIn (tgt := 116) d_Md_signOf_1 (by rw [c3]; decide) (by rw [c3]; decide) (by rw [c3]; rfl) (by decide) ?_
    refine G_bipush d_Md_signOf_116 lt_bipush_8 ?_
    replace h := Ok_some h
    exact G_iret rfl (vp_nar_int _) d_Md_signOf_118 (hR _ h)
  replace h := Ok_f c3 h
  have n3 := ne_ti (z := 40) (by decide) c3
  by_cases c4 : v1 = (41 : Int32)
  · replace h := Ok_t c4 h
    refine G_tableIn (tgt := 119) d_Md_signOf_1 (by rw [c4]; decide) (by rw [c4]; decide) (by rw [c4]; rfl) (by decide) ?_
    refine G_bipush d_Md_signOf_119 lt_bipush_9 ?_
    replace h := Ok_some h
    exact G_iret rfl (vp_nar_int _) d_Md_signOf_121 (hR _ h)
  replace h := Ok_f c4 h
  have n4 := ne_ti (z := 41) (by decide) c4
  by_cases c5 : v1 = (42 : Int32)
  · replace h := Ok_t c5 h
    refine G_tableIn (tgt := 128) d_Md_signOf_1 (by rw [c5]; decide) (by rw [c5]; decide) (by rw [c5]; rfl) (by decide) ?_
    refine G_bipush d_Md_signOf_128 lt_bipush_12 ?_
    replace h := Ok_some h
    exact G_iret rfl (vp_nar_int _) d_Md_signOf_130 (hR _ h)
  replace h := Ok_f c5 h
  have n5 := ne_ti (z := 42) (by decide) c5
  by_cases c6 : v1 = (43 : Int32)
  · replace h := Ok_t c6 h
    refine G_tableIn (tgt := 122) d_Md_signOf_1 (by rw [c6]; decide) (by rw [c6]; decide) (by rw [c6]; rfl) (by decide) ?_
    refine G_bipush d_Md_signOf_122 lt_bipush_10 ?_
    replace h := Ok_some h
    exact G_iret rfl (vp_nar_int _) d_Md_signOf_124 (hR _ h)
  replace h := Ok_f c6 h
  have n6 := ne_ti (z := 43) (by decide) c6
  by_cases c7 : v1 = (44 : Int32)
  · replace h := Ok_t c7 h
    refine G_tableIn (tgt := 143) d_Md_signOf_1 (by rw [c7]; decide) (by rw [c7]; decide) (by rw [c7]; rfl) (by decide) ?_
    refine G_bipush d_Md_signOf_143 lt_bipush_17 ?_
    replace h := Ok_some h
    exact G_iret rfl (vp_nar_int _) d_Md_signOf_145 (hR _ h)
  replace h := Ok_f c7 h
  have n7 := ne_ti (z := 44) (by decide) c7
  by_cases c8 : v1 = (45 : Int32)
  · replace h := Ok_t c8 h
    refine G_tableIn (tgt := 125) d_Md_signOf_1 (by rw [c8]; decide) (by rw [c8]; decide) (by rw [c8]; rfl) (by decide) ?_
    refine G_bipush d_Md_signOf_125 lt_bipush_11 ?_
    replace h := Ok_some h
    exact G_iret rfl (vp_nar_int _) d_Md_signOf_127 (hR _ h)
  replace h := Ok_f c8 h
  have n8 := ne_ti (z := 45) (by decide) c8
  by_cases c9 : v1 = (46 : Int32)
  · replace h := Ok_t c9 h
    refine G_tableIn (tgt := 143) d_Md_signOf_1 (by rw [c9]; decide) (by rw [c9]; decide) (by rw [c9]; rfl) (by decide) ?_
    refine G_bipush d_Md_signOf_143 lt_bipush_17 ?_
    replace h := Ok_some h
    exact G_iret rfl (vp_nar_int _) d_Md_signOf_145 (hR _ h)
  replace h := Ok_f c9 h
  have n9 := ne_ti (z := 46) (by decide) c9
  by_cases c10 : v1 = (47 : Int32)
  · replace h := Ok_t c10 h
    refine G_tableIn (tgt := 131) d_Md_signOf_1 (by rw [c10]; decide) (by rw [c10]; decide) (by rw [c10]; rfl) (by decide) ?_
    refine G_bipush d_Md_signOf_131 lt_bipush_13 ?_
    replace h := Ok_some h
    exact G_iret rfl (vp_nar_int _) d_Md_signOf_133 (hR _ h)
  replace h := Ok_f c10 h
  have n10 := ne_ti (z := 47) (by decide) c10
  by_cases c11 : v1 = (48 : Int32)
  · replace h := Ok_t c11 h
    refine G_tableIn (tgt := 143) d_Md_signOf_1 (by rw [c11]; decide) (by rw [c11]; decide) (by rw [c11]; rfl) (by decide) ?_
    refine G_bipush d_Md_signOf_143 lt_bipush_17 ?_
    replace h := Ok_some h
    exact G_iret rfl (vp_nar_int _) d_Md_signOf_145 (hR _ h)
  replace h := Ok_f c11 h
  have n11 := ne_ti (z := 48) (by decide) c11
  by_cases c12 : v1 = (49 : Int32)
  · replace h := Ok_t c12 h
    refine G_tableIn (tgt := 143) d_Md_signOf_1 (by rw [c12]; decide) (by rw [c12]; decide) (by rw [c12]; rfl) (by decide) ?_
    refine G_bipush d_Md_signOf_143 lt_bipush_17 ?_
    replace h := Ok_some h
    exact G_iret rfl (vp_nar_int _) d_Md_signOf_145 (hR _ h)
  replace h := Ok_f c12 h
  have n12 := ne_ti (z := 49) (by decide) c12
  by_cases c13 : v1 = (50 : Int32)
  · replace h := Ok_t c13 h
    refine G_tableIn (tgt := 143) d_Md_signOf_1 (by rw [c13]; decide) (by rw [c13]; decide) (by rw [c13]; rfl) (by decide) ?_
    refine G_bipush d_Md_signOf_143 lt_bipush_17 ?_
    replace h := Ok_some h
    exact G_iret rfl (vp_nar_int _) d_Md_signOf_145 (hR _ h)
  replace h := Ok_f c13 h
  have n13 := ne_ti (z := 50) (by decide) c13
  by_cases c14 : v1 = (51 : Int32)
  · replace h := Ok_t c14 h
    refine G_tableIn (tgt := 143) d_Md_signOf_1 (by rw [c14]; decide) (by rw [c14]; decide) (by rw [c14]; rfl) (by decide) ?_
    refine G_bipush d_Md_signOf_143 lt_bipush_17 ?_
    replace h := Ok_some h
    exact G_iret rfl (vp_nar_int _) d_Md_signOf_145 (hR _ h)
  replace h := Ok_f c14 h
  have n14 := ne_ti (z := 51) (by decide) c14
  by_cases c15 : v1 = (52 : Int32)
  · replace h := Ok_t c15 h
    refine G_tableIn (tgt := 143) d_Md_signOf_1 (by rw [c15]; decide) (by rw [c15]; decide) (by rw [c15]; rfl) (by decide) ?_
    refine G_bipush d_Md_signOf_143 lt_bipush_17 ?_
    replace h := Ok_some h
    exact G_iret rfl (vp_nar_int _) d_Md_signOf_145 (hR _ h)
  replace h := Ok_f c15 h
  have n15 := ne_ti (z := 52) (by decide) c15
  by_cases c16 : v1 = (53 : Int32)
  · replace h := Ok_t c16 h
    refine G_tableIn (tgt := 143) d_Md_signOf_1 (by rw [c16]; decide) (by rw [c16]; decide) (by rw [c16]; rfl) (by decide) ?_
    refine G_bipush d_Md_signOf_143 lt_bipush_17 ?_
    replace h := Ok_some h
    exact G_iret rfl (vp_nar_int _) d_Md_signOf_145 (hR _ h)
  replace h := Ok_f c16 h
  have n16 := ne_ti (z := 53) (by decide) c16
  by_cases c17 : v1 = (54 : Int32)
  · replace h := Ok_t c17 h
    refine G_tableIn (tgt := 143) d_Md_signOf_1 (by rw [c17]; decide) (by rw [c17]; decide) (by rw [c17]; rfl) (by decide) ?_
    refine G_bipush d_Md_signOf_143 lt_bipush_17 ?_
    replace h := Ok_some h
    exact G_iret rfl (vp_nar_int _) d_Md_signOf_145 (hR _ h)
  replace h := Ok_f c17 h
  have n17 := ne_ti (z := 54) (by decide) c17
  by_cases c18 : v1 = (55 : Int32)
  · replace h := Ok_t c18 h
    refine G_tableIn (tgt := 143) d_Md_signOf_1 (by rw [c18]; decide) (by rw [c18]; decide) (by rw [c18]; rfl) (by decide) ?_
    refine G_bipush d_Md_signOf_143 lt_bipush_17 ?_
    replace h := Ok_some h
    exact G_iret rfl (vp_nar_int _) d_Md_signOf_145 (hR _ h)
  replace h := Ok_f c18 h
  have n18 := ne_ti (z := 55) (by decide) c18
  by_cases c19 : v1 = (56 : Int32)
  · replace h := Ok_t c19 h
    refine G_tableIn (tgt := 143) d_Md_signOf_1 (by rw [c19]; decide) (by rw [c19]; decide) (by rw [c19]; rfl) (by decide) ?_
    refine G_bipush d_Md_signOf_143 lt_bipush_17 ?_
    replace h := Ok_some h
    exact G_iret rfl (vp_nar_int _) d_Md_signOf_145 (hR _ h)
  replace h := Ok_f c19 h
  have n19 := ne_ti (z := 56) (by decide) c19
  by_cases c20 : v1 = (57 : Int32)
  · replace h := Ok_t c20 h
    refine G_tableIn (tgt := 143) d_Md_signOf_1 (by rw [c20]; decide) (by rw [c20]; decide) (by rw [c20]; rfl) (by decide) ?_
    refine G_bipush d_Md_signOf_143 lt_bipush_17 ?_
    replace h := Ok_some h
    exact G_iret rfl (vp_nar_int _) d_Md_signOf_145 (hR _ h)
  replace h := Ok_f c20 h
  have n20 := ne_ti (z := 57) (by decide) c20
  by_cases c21 : v1 = (58 : Int32)
  · replace h := Ok_t c21 h
    refine G_tableIn (tgt := 143) d_Md_signOf_1 (by rw [c21]; decide) (by rw [c21]; decide) (by rw [c21]; rfl) (by decide) ?_
    refine G_bipush d_Md_signOf_143 lt_bipush_17 ?_
    replace h := Ok_some h
    exact G_iret rfl (vp_nar_int _) d_Md_signOf_145 (hR _ h)
  replace h := Ok_f c21 h
  have n21 := ne_ti (z := 58) (by decide) c21
  by_cases c22 : v1 = (59 : Int32)
  · replace h := Ok_t c22 h
    refine G_tableIn (tgt := 143) d_Md_signOf_1 (by rw [c22]; decide) (by rw [c22]; decide) (by rw [c22]; rfl) (by decide) ?_
    refine G_bipush d_Md_signOf_143 lt_bipush_17 ?_
    replace h := Ok_some h
    exact G_iret rfl (vp_nar_int _) d_Md_signOf_145 (hR _ h)
  replace h := Ok_f c22 h
  have n22 := ne_ti (z := 59) (by decide) c22
  by_cases c23 : v1 = (60 : Int32)
  · replace h := Ok_t c23 h
    refine G_tableIn (tgt := 137) d_Md_signOf_1 (by rw [c23]; decide) (by rw [c23]; decide) (by rw [c23]; rfl) (by decide) ?_
    refine G_bipush d_Md_signOf_137 lt_bipush_15 ?_
    replace h := Ok_some h
    exact G_iret rfl (vp_nar_int _) d_Md_signOf_139 (hR _ h)
  replace h := Ok_f c23 h
  have n23 := ne_ti (z := 60) (by decide) c23
  by_cases c24 : v1 = (61 : Int32)
  · replace h := Ok_t c24 h
    refine G_tableIn (tgt := 140) d_Md_signOf_1 (by rw [c24]; decide) (by rw [c24]; decide) (by rw [c24]; rfl) (by decide) ?_
    refine G_bipush d_Md_signOf_140 lt_bipush_16 ?_
    replace h := Ok_some h
    exact G_iret rfl (vp_nar_int _) d_Md_signOf_142 (hR _ h)
  replace h := Ok_f c24 h
  have n24 := ne_ti (z := 61) (by decide) c24
  refine G_tableOut (tgt := 143) d_Md_signOf_1 (by omega) (by decide) ?_
  refine G_bipush d_Md_signOf_143 lt_bipush_17 ?_
  replace h := Ok_some h
  exact G_iret rfl (vp_nar_int _) d_Md_signOf_145 (hR _ h)
theorem c_Md_signOf {l : Launch} {D : va_G} {cI cZ cJ : ClassId} {ad : Nat → Nat} (a1 : Int32) (s : MS) {P : Int32 → Prop} (h : Ok (f_Md_signOf a1) P) : Ct (XM l D cI cZ cJ ad) y_Md_signOf b_Md_signOf 1 (some .int) 0 [.int a1] s (fun r9 s9 => s9 = s ∧ P r9) :=
  Ct.of mi_Md_signOf (Nat.le_of_ble_eq_true rfl) (f_Md_signOf_w a1 s (fun _ h => ⟨rfl, h⟩) h)
-- Md_wordOf
noncomputable def f_Md_wordOf (a1 : Int32) : Option Int32 :=
  if a1 = (102 : Int32) then (some (1 : Int32)) else (if a1 = (110 : Int32) then (some (2 : Int32)) else (if a1 = (100 : Int32) then (some (3 : Int32)) else (if a1 = (26982 : Int32) then (some (5 : Int32)) else (if a1 = (1952998766 : Int32) then (some (6 : Int32)) else (if a1 = (1701606245 : Int32) then (some (7 : Int32)) else (some (17 : Int32)))))))
theorem f_Md_wordOf_w {l : Launch} {D : va_G} {cI cZ cJ : ClassId} {ad : Nat → Nat} (a1 : Int32) (s : MS) {Q : Int32 → MS → Prop} {Post : Int32 → Prop} (hR : ∀ (r9 : Int32), Post (r9) → Q r9 s) (h : Ok (f_Md_wordOf a1) Post) : G (XM l D cI cZ cJ ad) "SmallHarbourModel" b_Md_wordOf 1 (some .int) 0 0 [(0, .int a1)] [] s Q := by
  unfold f_Md_wordOf at h
  refine G_iload_n d_Md_wordOf_0 rfl 0 rfl ?_
  refine G_bipush d_Md_wordOf_1 lt_bipush_102 ?_
  refine G_icmp_ne (tgt := 8) d_Md_wordOf_3 (by decide) (fun c => ?_) (fun c => ?_)
  · replace h := Ok_f c h
    refine G_iload_n d_Md_wordOf_8 rfl 0 rfl ?_
    refine G_bipush d_Md_wordOf_9 lt_bipush_110 ?_
    refine G_icmp_ne (tgt := 16) d_Md_wordOf_11 (by decide) (fun c => ?_) (fun c => ?_)
    · replace h := Ok_f c h
      refine G_iload_n d_Md_wordOf_16 rfl 0 rfl ?_
      refine G_bipush d_Md_wordOf_17 lt_bipush_100 ?_
      refine G_icmp_ne (tgt := 24) d_Md_wordOf_19 (by decide) (fun c => ?_) (fun c => ?_)
      · replace h := Ok_f c h
        refine G_iload_n d_Md_wordOf_24 rfl 0 rfl ?_
        refine G_sipush d_Md_wordOf_25 lt_sipush_26982 ?_
        refine G_icmp_ne (tgt := 33) d_Md_wordOf_28 (by decide) (fun c => ?_) (fun c => ?_)
        · replace h := Ok_f c h
          refine G_iload_n d_Md_wordOf_33 rfl 0 rfl ?_
          refine G_ldc_w d_Md_wordOf_34 w_1267 ?_
          refine G_icmp_ne (tgt := 43) d_Md_wordOf_37 (by decide) (fun c => ?_) (fun c => ?_)
          · replace h := Ok_f c h
            refine G_iload_n d_Md_wordOf_43 rfl 0 rfl ?_
            refine G_ldc_w d_Md_wordOf_44 w_1268 ?_
            refine G_icmp_ne (tgt := 55) d_Md_wordOf_47 (by decide) (fun c => ?_) (fun c => ?_)
            · replace h := Ok_f c h
              refine G_bipush d_Md_wordOf_55 lt_bipush_17 ?_
              replace h := Ok_some h
              exact G_iret rfl (vp_nar_int _) d_Md_wordOf_57 (hR _ h)
            replace h := Ok_t c h
            refine G_bipush d_Md_wordOf_50 lt_bipush_7 ?_
            refine G_goto (tgt := 57) d_Md_wordOf_52 (by decide) ?_
            replace h := Ok_some h
            exact G_iret rfl (vp_nar_int _) d_Md_wordOf_57 (hR _ h)
          replace h := Ok_t c h
          refine G_bipush d_Md_wordOf_40 lt_bipush_6 ?_
          replace h := Ok_some h
          exact G_iret rfl (vp_nar_int _) d_Md_wordOf_42 (hR _ h)
        replace h := Ok_t c h
        refine G_iconst d_Md_wordOf_31 lt_iconst_5 ?_
        replace h := Ok_some h
        exact G_iret rfl (vp_nar_int _) d_Md_wordOf_32 (hR _ h)
      replace h := Ok_t c h
      refine G_iconst d_Md_wordOf_22 lt_iconst_3 ?_
      replace h := Ok_some h
      exact G_iret rfl (vp_nar_int _) d_Md_wordOf_23 (hR _ h)
    replace h := Ok_t c h
    refine G_iconst d_Md_wordOf_14 lt_iconst_2 ?_
    replace h := Ok_some h
    exact G_iret rfl (vp_nar_int _) d_Md_wordOf_15 (hR _ h)
  replace h := Ok_t c h
  refine G_iconst d_Md_wordOf_6 lt_iconst_1 ?_
  replace h := Ok_some h
  exact G_iret rfl (vp_nar_int _) d_Md_wordOf_7 (hR _ h)
theorem c_Md_wordOf {l : Launch} {D : va_G} {cI cZ cJ : ClassId} {ad : Nat → Nat} (a1 : Int32) (s : MS) {P : Int32 → Prop} (h : Ok (f_Md_wordOf a1) P) : Ct (XM l D cI cZ cJ ad) y_Md_wordOf b_Md_wordOf 1 (some .int) 0 [.int a1] s (fun r9 s9 => s9 = s ∧ P r9) :=
  Ct.of mi_Md_wordOf (Nat.le_of_ble_eq_true rfl) (f_Md_wordOf_w a1 s (fun _ h => ⟨rfl, h⟩) h)
-- Md_nextToken
noncomputable def Md_nextToken_j187 (t0 : Int32) (s : MS) : Option ((Int32 × MS) ⊕ MS) :=
  bnd (pf s 20 ((s.1 20) + (1 : Int32))) fun s1 => some (.inl (t0, s1))
theorem Md_nextToken_j187_w {l : Launch} {D : va_G} {cI cZ cJ : ClassId} {ad : Nat → Nat} (t0 : Int32) (s : MS) {Q : Int32 → MS → Prop} {Post : ((Int32 × MS) ⊕ MS) → Prop} (hR : ∀ (s9 : MS), Post (.inr (s9)) → Q 0 s9) (hL141 : ∀ (z2 : Int32) (s9 : MS), Post (.inl (z2, s9)) → G (XM l D cI cZ cJ ad) "SmallHarbourModel" b_Md_nextToken 3 none 2 141 [(0, .ref (ad 0)), (2, .int z2)] [] s9 Q) (h : Ok (Md_nextToken_j187 t0 s) Post) : G (XM l D cI cZ cJ ad) "SmallHarbourModel" b_Md_nextToken 3 none 2 187 [(0, .ref (ad 0))] [.int t0] s Q := by
  unfold Md_nextToken_j187 at h
  refine G_istore_n d_Md_nextToken_187 rfl (Nat.le_of_ble_eq_true rfl) (fun x => [(2, .int x), (0, .ref (ad 0))]) (fun _ => rfl) (fun x e => ?_)
  subst e
  refine G_aload_n d_Md_nextToken_188 rfl 1 rfl ?_
  refine G_dup d_Md_nextToken_189 rfl ?_
  refine gm_Md_at d_Md_nextToken_190 w_886 ?_
  refine G_iconst d_Md_nextToken_193 lt_iconst_1 ?_
  refine G_iadd d_Md_nextToken_194 ?_
  refine pm_Md_at d_Md_nextToken_195 w_886 (fun s1 e => ?_)
  replace h := Ok_bnd h s1 e
  clear e
  refine G_goto (tgt := 141) d_Md_nextToken_198 (by decide) ?_
  refine G_lv [1, 0] rfl ?_
  replace h := Ok_some h
  exact hL141 t0 s1 h
noncomputable def Md_nextToken_l141 (x2 : Int32) (s : MS) : Option ((Int32 × MS) ⊕ MS) :=
  (f_Md_see (s.1 20) s).bind fun v1 => (f_Md_isLetter v1).bind fun v2 => if v2 = 0 then (xit ((f_Md_wordOf x2).bind fun v3 => bnd (pf s 22 v3) fun s4 => some s4)) else (if x2 < (16777216 : Int32) then (if 0 ≤ x2 then ((f_Md_see (s.1 20) s).bind fun v5 => Md_nextToken_j187 ((x2 <<< ((8 : Int32) &&& 31)) ||| v5) s) else (Md_nextToken_j187 x2 s)) else (Md_nextToken_j187 (-1 : Int32) s))
theorem Md_nextToken_l141_w {l : Launch} {D : va_G} {cI cZ cJ : ClassId} {ad : Nat → Nat} (x2 : Int32) (s : MS) {Q : Int32 → MS → Prop} {Post : ((Int32 × MS) ⊕ MS) → Prop} (hR : ∀ (s9 : MS), Post (.inr (s9)) → Q 0 s9) (hL141 : ∀ (z2 : Int32) (s9 : MS), Post (.inl (z2, s9)) → G (XM l D cI cZ cJ ad) "SmallHarbourModel" b_Md_nextToken 3 none 2 141 [(0, .ref (ad 0)), (2, .int z2)] [] s9 Q) (h : Ok (Md_nextToken_l141 x2 s) Post) : G (XM l D cI cZ cJ ad) "SmallHarbourModel" b_Md_nextToken 3 none 2 141 [(0, .ref (ad 0)), (2, .int x2)] [] s Q := by
  unfold Md_nextToken_l141 at h
  refine G_aload_n d_Md_nextToken_141 rfl 0 rfl ?_
  refine G_aload_n d_Md_nextToken_142 rfl 0 rfl ?_
  refine gm_Md_at d_Md_nextToken_143 w_886 ?_
  refine G_callVp (st := []) (As := [.int (s.1 20)]) (b := ad 0) d_Md_nextToken_146 mi_Md_see w_1252 0 rfl rfl mv_Md_see rfl (Nat.le_of_ble_eq_true rfl) (by decide) (c_Md_see (s.1 20) s (Ok_bind h)) (fun v1 h hnv1 => ?_)
  refine G_callSp (st := []) (As := [.int v1]) d_Md_nextToken_149 mi_Md_isLetter w_1260 w_1261 rfl (Nat.le_of_ble_eq_true rfl) (by decide) (c_Md_isLetter v1 s (Ok_bind h)) (fun v2 h hnv2 => ?_)
  refine G_if_eq (tgt := 201) d_Md_nextToken_152 (by decide) (fun c => ?_) (fun c => ?_)
  · replace h := Ok_t c h
    replace h := Ok_xit h
    refine G_aload_n d_Md_nextToken_201 rfl 0 rfl ?_
    refine G_iload_n d_Md_nextToken_202 rfl 1 rfl ?_
    refine G_callSp (st := [.ref (ad 0)]) (As := [.int x2]) d_Md_nextToken_203 mi_Md_wordOf w_1264 w_1265 rfl (Nat.le_of_ble_eq_true rfl) (by decide) (c_Md_wordOf x2 s (Ok_bind h)) (fun v3 h hnv3 => ?_)
    refine pm_Md_kind d_Md_nextToken_206 w_888 (fun s4 e => ?_)
    replace h := Ok_bnd h s4 e
    clear e
    refine G_goto (tgt := 230) d_Md_nextToken_209 (by decide) ?_
    replace h := Ok_some h
    exact G_vret rfl d_Md_nextToken_230 (hR _ h)
  replace h := Ok_f c h
  refine G_iload_n d_Md_nextToken_155 rfl 1 rfl ?_
  refine G_ldc_w d_Md_nextToken_156 w_1263 ?_
  refine G_icmp_lt (tgt := 166) d_Md_nextToken_159 (by decide) (fun c => ?_) (fun c => ?_)
  · replace h := Ok_t c h
    refine G_iload_n d_Md_nextToken_166 rfl 1 rfl ?_
    refine G_if_ge (tgt := 174) d_Md_nextToken_167 (by decide) (fun c => ?_) (fun c => ?_)
    · replace h := Ok_t c h
      refine G_iload_n d_Md_nextToken_174 rfl 1 rfl ?_
      refine G_bipush d_Md_nextToken_175 lt_bipush_8 ?_
      refine G_ishl d_Md_nextToken_177 ?_
      refine G_aload_n d_Md_nextToken_178 rfl 0 rfl ?_
      refine G_aload_n d_Md_nextToken_179 rfl 0 rfl ?_
      refine gm_Md_at d_Md_nextToken_180 w_886 ?_
      refine G_callVp (st := [.int (x2 <<< ((8 : Int32) &&& 31))]) (As := [.int (s.1 20)]) (b := ad 0) d_Md_nextToken_183 mi_Md_see w_1252 0 rfl rfl mv_Md_see rfl (Nat.le_of_ble_eq_true rfl) (by decide) (c_Md_see (s.1 20) s (Ok_bind h)) (fun v5 h hnv5 => ?_)
      refine G_ior d_Md_nextToken_186 ?_
      refine G_lv [0] rfl ?_
      refine Md_nextToken_j187_w ((x2 <<< ((8 : Int32) &&& 31)) ||| v5) s ?_ ?_ h
      · exact hR
      · exact hL141
    replace h := Ok_f c h
    refine G_iload_n d_Md_nextToken_170 rfl 1 rfl ?_
    refine G_goto (tgt := 187) d_Md_nextToken_171 (by decide) ?_
    refine G_lv [0] rfl ?_
    refine Md_nextToken_j187_w x2 s ?_ ?_ h
    · exact hR
    · exact hL141
  replace h := Ok_f c h
  refine G_iconst d_Md_nextToken_162 lt_iconst_m1 ?_
  refine G_goto (tgt := 187) d_Md_nextToken_163 (by decide) ?_
  refine G_lv [0] rfl ?_
  refine Md_nextToken_j187_w (-1 : Int32) s ?_ ?_ h
  · exact hR
  · exact hL141
noncomputable def Md_nextToken_l72 (s : MS) : Option ((MS) ⊕ MS) :=
  (f_Md_see (s.1 20) s).bind fun v1 => (f_Md_isDigit v1).bind fun v2 => if v2 = 0 then (xit (some s)) else (if (100000 : Int32) ≤ (s.1 23) then (bnd (pf s 20 ((s.1 20) + (1 : Int32))) fun s3 => some (.inl s3)) else ((f_Md_see (s.1 20) s).bind fun v4 => bnd (pf s 23 ((((10 : Int32) * (s.1 23)) + v4) - (48 : Int32))) fun s5 => bnd (pf s5 20 ((s5.1 20) + (1 : Int32))) fun s6 => some (.inl s6)))
theorem Md_nextToken_l72_w {l : Launch} {D : va_G} {cI cZ cJ : ClassId} {ad : Nat → Nat} (s : MS) {Q : Int32 → MS → Prop} {Post : ((MS) ⊕ MS) → Prop} (hR : ∀ (s9 : MS), Post (.inr (s9)) → Q 0 s9) (hL72 : ∀ (s9 : MS), Post (.inl s9) → G (XM l D cI cZ cJ ad) "SmallHarbourModel" b_Md_nextToken 3 none 2 72 [(0, .ref (ad 0))] [] s9 Q) (h : Ok (Md_nextToken_l72 s) Post) : G (XM l D cI cZ cJ ad) "SmallHarbourModel" b_Md_nextToken 3 none 2 72 [(0, .ref (ad 0))] [] s Q := by
  unfold Md_nextToken_l72 at h
  refine G_aload_n d_Md_nextToken_72 rfl 0 rfl ?_
  refine G_aload_n d_Md_nextToken_73 rfl 0 rfl ?_
  refine gm_Md_at d_Md_nextToken_74 w_886 ?_
  refine G_callVp (st := []) (As := [.int (s.1 20)]) (b := ad 0) d_Md_nextToken_77 mi_Md_see w_1252 0 rfl rfl mv_Md_see rfl (Nat.le_of_ble_eq_true rfl) (by decide) (c_Md_see (s.1 20) s (Ok_bind h)) (fun v1 h hnv1 => ?_)
  refine G_callSp (st := []) (As := [.int v1]) d_Md_nextToken_80 mi_Md_isDigit w_1256 w_1257 rfl (Nat.le_of_ble_eq_true rfl) (by decide) (c_Md_isDigit v1 s (Ok_bind h)) (fun v2 h hnv2 => ?_)
  refine G_if_eq (tgt := 230) d_Md_nextToken_83 (by decide) (fun c => ?_) (fun c => ?_)
  · replace h := Ok_t c h
    replace h := Ok_xit h
    replace h := Ok_some h
    exact G_vret rfl d_Md_nextToken_230 (hR _ h)
  replace h := Ok_f c h
  refine G_aload_n d_Md_nextToken_86 rfl 0 rfl ?_
  refine gm_Md_number d_Md_nextToken_87 w_889 ?_
  refine G_ldc_w d_Md_nextToken_90 w_1259 ?_
  refine G_icmp_ge (tgt := 119) d_Md_nextToken_93 (by decide) (fun c => ?_) (fun c => ?_)
  · replace h := Ok_t c h
    refine G_aload_n d_Md_nextToken_119 rfl 0 rfl ?_
    refine G_dup d_Md_nextToken_120 rfl ?_
    refine gm_Md_at d_Md_nextToken_121 w_886 ?_
    refine G_iconst d_Md_nextToken_124 lt_iconst_1 ?_
    refine G_iadd d_Md_nextToken_125 ?_
    refine pm_Md_at d_Md_nextToken_126 w_886 (fun s3 e => ?_)
    replace h := Ok_bnd h s3 e
    clear e
    refine G_goto (tgt := 72) d_Md_nextToken_129 (by decide) ?_
    replace h := Ok_some h
    exact hL72 s3 h
  replace h := Ok_f c h
  refine G_aload_n d_Md_nextToken_96 rfl 0 rfl ?_
  refine G_bipush d_Md_nextToken_97 lt_bipush_10 ?_
  refine G_aload_n d_Md_nextToken_99 rfl 0 rfl ?_
  refine gm_Md_number d_Md_nextToken_100 w_889 ?_
  refine G_imul d_Md_nextToken_103 ?_
  refine G_aload_n d_Md_nextToken_104 rfl 0 rfl ?_
  refine G_aload_n d_Md_nextToken_105 rfl 0 rfl ?_
  refine gm_Md_at d_Md_nextToken_106 w_886 ?_
  refine G_callVp (st := [.int ((10 : Int32) * (s.1 23)), .ref (ad 0)]) (As := [.int (s.1 20)]) (b := ad 0) d_Md_nextToken_109 mi_Md_see w_1252 0 rfl rfl mv_Md_see rfl (Nat.le_of_ble_eq_true rfl) (by decide) (c_Md_see (s.1 20) s (Ok_bind h)) (fun v4 h hnv4 => ?_)
  refine G_iadd d_Md_nextToken_112 ?_
  refine G_bipush d_Md_nextToken_113 lt_bipush_48 ?_
  refine G_isub d_Md_nextToken_115 ?_
  refine pm_Md_number d_Md_nextToken_116 w_889 (fun s5 e => ?_)
  replace h := Ok_bnd h s5 e
  clear e
  refine G_aload_n d_Md_nextToken_119 rfl 0 rfl ?_
  refine G_dup d_Md_nextToken_120 rfl ?_
  refine gm_Md_at d_Md_nextToken_121 w_886 ?_
  refine G_iconst d_Md_nextToken_124 lt_iconst_1 ?_
  refine G_iadd d_Md_nextToken_125 ?_
  refine pm_Md_at d_Md_nextToken_126 w_886 (fun s6 e => ?_)
  replace h := Ok_bnd h s6 e
  clear e
  refine G_goto (tgt := 72) d_Md_nextToken_129 (by decide) ?_
  replace h := Ok_some h
  exact hL72 s6 h
noncomputable def Md_nextToken_l0 (s : MS) : Option ((MS) ⊕ MS) :=
  (f_Md_see (s.1 20) s).bind fun v1 => if v1 = (32 : Int32) then (bnd (pf s 20 ((s.1 20) + (1 : Int32))) fun s12 => some (.inl s12)) else (xit (bnd (pf s 21 (s.1 20)) fun s2 => (f_Md_see (s2.1 20) s2).bind fun v3 => if 0 ≤ v3 then ((f_Md_isDigit v3).bind fun v4 => if v4 = 0 then ((f_Md_isLetter v3).bind fun v5 => if v5 = 0 then ((f_Md_signOf v3).bind fun v6 => bnd (pf s2 22 v6) fun s7 => bnd (pf s7 20 ((s7.1 20) + (1 : Int32))) fun s8 => some s8) else (loop (fun z => Md_nextToken_l141 z.1 z.2) ((0 : Int32), s2))) else (bnd (pf s2 22 (4 : Int32)) fun s9 => bnd (pf s9 23 (0 : Int32)) fun s10 => loop (fun z => Md_nextToken_l72 z) s10)) else (bnd (pf s2 22 (0 : Int32)) fun s11 => some s11)))
theorem Md_nextToken_l0_w {l : Launch} {D : va_G} {cI cZ cJ : ClassId} {ad : Nat → Nat} (s : MS) {Q : Int32 → MS → Prop} {Post : ((MS) ⊕ MS) → Prop} (hR : ∀ (s9 : MS), Post (.inr (s9)) → Q 0 s9) (hL0 : ∀ (s9 : MS), Post (.inl s9) → G (XM l D cI cZ cJ ad) "SmallHarbourModel" b_Md_nextToken 3 none 2 0 [(0, .ref (ad 0))] [] s9 Q) (h : Ok (Md_nextToken_l0 s) Post) : G (XM l D cI cZ cJ ad) "SmallHarbourModel" b_Md_nextToken 3 none 2 0 [(0, .ref (ad 0))] [] s Q := by
  unfold Md_nextToken_l0 at h
  refine G_aload_n d_Md_nextToken_0 rfl 0 rfl ?_
  refine G_aload_n d_Md_nextToken_1 rfl 0 rfl ?_
  refine gm_Md_at d_Md_nextToken_2 w_886 ?_
  refine G_callVp (st := []) (As := [.int (s.1 20)]) (b := ad 0) d_Md_nextToken_5 mi_Md_see w_1252 0 rfl rfl mv_Md_see rfl (Nat.le_of_ble_eq_true rfl) (by decide) (c_Md_see (s.1 20) s (Ok_bind h)) (fun v1 h hnv1 => ?_)
  refine G_bipush d_Md_nextToken_8 lt_bipush_32 ?_
  refine G_icmp_ne (tgt := 26) d_Md_nextToken_10 (by decide) (fun c => ?_) (fun c => ?_)
  · replace h := Ok_f c h
    replace h := Ok_xit h
    refine G_aload_n d_Md_nextToken_26 rfl 0 rfl ?_
    refine G_aload_n d_Md_nextToken_27 rfl 0 rfl ?_
    refine gm_Md_at d_Md_nextToken_28 w_886 ?_
    refine pm_Md_place d_Md_nextToken_31 w_887 (fun s2 e => ?_)
    replace h := Ok_bnd h s2 e
    clear e
    refine G_aload_n d_Md_nextToken_34 rfl 0 rfl ?_
    refine G_aload_n d_Md_nextToken_35 rfl 0 rfl ?_
    refine gm_Md_at d_Md_nextToken_36 w_886 ?_
    refine G_callVp (st := []) (As := [.int (s2.1 20)]) (b := ad 0) d_Md_nextToken_39 mi_Md_see w_1252 0 rfl rfl mv_Md_see rfl (Nat.le_of_ble_eq_true rfl) (by decide) (c_Md_see (s2.1 20) s2 (Ok_bind h)) (fun v3 h hnv3 => ?_)
    refine G_istore_n d_Md_nextToken_42 rfl (Nat.le_of_ble_eq_true rfl) (fun x => [(1, .int x), (0, .ref (ad 0))]) (fun _ => rfl) (fun x e => ?_)
    subst e
    refine G_iload_n d_Md_nextToken_43 rfl 0 rfl ?_
    refine G_if_ge (tgt := 55) d_Md_nextToken_44 (by decide) (fun c => ?_) (fun c => ?_)
    · replace h := Ok_t c h
      refine G_iload_n d_Md_nextToken_55 rfl 0 rfl ?_
      refine G_callSp (st := []) (As := [.int v3]) d_Md_nextToken_56 mi_Md_isDigit w_1256 w_1257 rfl (Nat.le_of_ble_eq_true rfl) (by decide) (c_Md_isDigit v3 s2 (Ok_bind h)) (fun v4 h hnv4 => ?_)
      refine G_if_eq (tgt := 132) d_Md_nextToken_59 (by decide) (fun c => ?_) (fun c => ?_)
      · replace h := Ok_t c h
        refine G_iload_n d_Md_nextToken_132 rfl 0 rfl ?_
        refine G_callSp (st := []) (As := [.int v3]) d_Md_nextToken_133 mi_Md_isLetter w_1260 w_1261 rfl (Nat.le_of_ble_eq_true rfl) (by decide) (c_Md_isLetter v3 s2 (Ok_bind h)) (fun v5 h hnv5 => ?_)
        refine G_if_eq (tgt := 212) d_Md_nextToken_136 (by decide) (fun c => ?_) (fun c => ?_)
        · replace h := Ok_t c h
          refine G_aload_n d_Md_nextToken_212 rfl 1 rfl ?_
          refine G_iload_n d_Md_nextToken_213 rfl 0 rfl ?_
          refine G_callSp (st := [.ref (ad 0)]) (As := [.int v3]) d_Md_nextToken_214 mi_Md_signOf w_1269 w_1270 rfl (Nat.le_of_ble_eq_true rfl) (by decide) (c_Md_signOf v3 s2 (Ok_bind h)) (fun v6 h hnv6 => ?_)
          refine pm_Md_kind d_Md_nextToken_217 w_888 (fun s7 e => ?_)
          replace h := Ok_bnd h s7 e
          clear e
          refine G_aload_n d_Md_nextToken_220 rfl 1 rfl ?_
          refine G_dup d_Md_nextToken_221 rfl ?_
          refine gm_Md_at d_Md_nextToken_222 w_886 ?_
          refine G_iconst d_Md_nextToken_225 lt_iconst_1 ?_
          refine G_iadd d_Md_nextToken_226 ?_
          refine pm_Md_at d_Md_nextToken_227 w_886 (fun s8 e => ?_)
          replace h := Ok_bnd h s8 e
          clear e
          replace h := Ok_some h
          exact G_vret rfl d_Md_nextToken_230 (hR _ h)
        replace h := Ok_f c h
        refine G_iconst d_Md_nextToken_139 lt_iconst_0 ?_
        refine G_istore_n d_Md_nextToken_140 rfl (Nat.le_of_ble_eq_true rfl) (fun x => [(2, .int x), (1, .int v3), (0, .ref (ad 0))]) (fun _ => rfl) (fun x e => ?_)
        subst e
        refine G_lv [2, 0] rfl ?_
        refine G_loop (J := (fun z => G (XM l D cI cZ cJ ad) "SmallHarbourModel" b_Md_nextToken 3 none 2 141 [(0, .ref (ad 0)), (2, .int (z.1))] [] z.2 Q)) (fun z h => ?_) ((0 : Int32), s2) h
        refine Md_nextToken_l141_w z.1 z.2 ?_ ?_ h
        · exact hR
        · exact (fun z2 s9 h => h)
      replace h := Ok_f c h
      refine G_aload_n d_Md_nextToken_62 rfl 1 rfl ?_
      refine G_iconst d_Md_nextToken_63 lt_iconst_4 ?_
      refine pm_Md_kind d_Md_nextToken_64 w_888 (fun s9 e => ?_)
      replace h := Ok_bnd h s9 e
      clear e
      refine G_aload_n d_Md_nextToken_67 rfl 1 rfl ?_
      refine G_iconst d_Md_nextToken_68 lt_iconst_0 ?_
      refine pm_Md_number d_Md_nextToken_69 w_889 (fun s10 e => ?_)
      replace h := Ok_bnd h s10 e
      clear e
      refine G_lv [1] rfl ?_
      refine G_loop (J := (fun z => G (XM l D cI cZ cJ ad) "SmallHarbourModel" b_Md_nextToken 3 none 2 72 [(0, .ref (ad 0))] [] z Q)) (fun z h => ?_) s10 h
      refine Md_nextToken_l72_w z ?_ ?_ h
      · exact hR
      · exact (fun s9 h => h)
    replace h := Ok_f c h
    refine G_aload_n d_Md_nextToken_47 rfl 1 rfl ?_
    refine G_iconst d_Md_nextToken_48 lt_iconst_0 ?_
    refine pm_Md_kind d_Md_nextToken_49 w_888 (fun s11 e => ?_)
    replace h := Ok_bnd h s11 e
    clear e
    refine G_goto (tgt := 230) d_Md_nextToken_52 (by decide) ?_
    replace h := Ok_some h
    exact G_vret rfl d_Md_nextToken_230 (hR _ h)
  replace h := Ok_t c h
  refine G_aload_n d_Md_nextToken_13 rfl 0 rfl ?_
  refine G_dup d_Md_nextToken_14 rfl ?_
  refine gm_Md_at d_Md_nextToken_15 w_886 ?_
  refine G_iconst d_Md_nextToken_18 lt_iconst_1 ?_
  refine G_iadd d_Md_nextToken_19 ?_
  refine pm_Md_at d_Md_nextToken_20 w_886 (fun s12 e => ?_)
  replace h := Ok_bnd h s12 e
  clear e
  refine G_goto (tgt := 0) d_Md_nextToken_23 (by decide) ?_
  replace h := Ok_some h
  exact hL0 s12 h
noncomputable def f_Md_nextToken (s : MS) : Option MS :=
  loop (fun z => Md_nextToken_l0 z) s
theorem f_Md_nextToken_w {l : Launch} {D : va_G} {cI cZ cJ : ClassId} {ad : Nat → Nat} (s : MS) {Q : Int32 → MS → Prop} {Post : MS → Prop} (hR : ∀ (s9 : MS), Post (s9) → Q 0 s9) (h : Ok (f_Md_nextToken s) Post) : G (XM l D cI cZ cJ ad) "SmallHarbourModel" b_Md_nextToken 3 none 2 0 [(0, .ref (ad 0))] [] s Q := by
  unfold f_Md_nextToken at h
  refine G_loop (J := (fun z => G (XM l D cI cZ cJ ad) "SmallHarbourModel" b_Md_nextToken 3 none 2 0 [(0, .ref (ad 0))] [] z Q)) (fun z h => ?_) s h
  refine Md_nextToken_l0_w z ?_ ?_ h
  · exact hR
  · exact (fun s9 h => h)
theorem c_Md_nextToken {l : Launch} {D : va_G} {cI cZ cJ : ClassId} {ad : Nat → Nat} (s : MS) {P : MS → Prop} (h : Ok (f_Md_nextToken  s) P) : Ct (XM l D cI cZ cJ ad) y_Md_nextToken b_Md_nextToken 3 none 2 [.ref (ad 0)] s (fun _ s9 => P s9) :=
  Ct.of mi_Md_nextToken (Nat.le_of_ble_eq_true rfl) (f_Md_nextToken_w  s (fun _ h => h) h)
-- Md_owes
noncomputable def Md_owes_l4 (x1 : Int32) (x2 x3 : Int32) (s : MS) : Option ((Int32 × Int32 × MS) ⊕ (Int32 × MS)) :=
  if (s.1 4) ≤ x3 then (xit (some (x2, s))) else ((f_Md_isBoat x1 s).bind fun v1 => if v1 = 0 then (bnd (x2 + (0 : Int32)) fun v2 => bnd (x3 + (1 : Int32)) fun v3 => some (.inl (v2, v3, s))) else (chk (inb x3 40) (bnd (s.2 10 x3.toNatClampNeg) fun v4 => if v4 = x1 then (bd2 (f_Md_bill x3 s) fun v7 s8 => bnd (x2 + v7) fun v9 => bnd (x3 + (1 : Int32)) fun v10 => some (.inl (v9, v10, s8))) else (bnd (x2 + (0 : Int32)) fun v5 => bnd (x3 + (1 : Int32)) fun v6 => some (.inl (v5, v6, s))))))
theorem Md_owes_l4_w {l : Launch} {D : va_G} {cI cZ cJ : ClassId} {ad : Nat → Nat} (x1 x2 x3 : Int32) (s : MS) {Q : Int32 → MS → Prop} {Post : ((Int32 × Int32 × MS) ⊕ (Int32 × MS)) → Prop} (hR : ∀ (r9 : Int32) (s9 : MS), Post (.inr ((r9, s9))) → Q r9 s9) (hL4 : ∀ (z2 z3 : Int32) (s9 : MS), Post (.inl (z2, z3, s9)) → G (XM l D cI cZ cJ ad) "SmallHarbourModel" b_Md_owes 4 (some .int) 3 4 [(0, .ref (ad 0)), (1, .int x1), (2, .int z2), (3, .int z3)] [] s9 Q) (h : Ok (Md_owes_l4 x1 x2 x3 s) Post) : G (XM l D cI cZ cJ ad) "SmallHarbourModel" b_Md_owes 4 (some .int) 3 4 [(0, .ref (ad 0)), (1, .int x1), (2, .int x2), (3, .int x3)] [] s Q := by
  unfold Md_owes_l4 at h
  refine G_iload_n d_Md_owes_4 rfl 3 rfl ?_
  refine G_aload_n d_Md_owes_5 rfl 0 rfl ?_
  refine gm_Md_stays d_Md_owes_6 w_850 ?_
  refine G_icmp_ge (tgt := 48) d_Md_owes_9 (by decide) (fun c => ?_) (fun c => ?_)
  · replace h := Ok_t c h
    replace h := Ok_xit h
    refine G_iload_n d_Md_owes_48 rfl 2 rfl ?_
    replace h := Ok_some h
    exact G_iret rfl (vp_nar_int _) d_Md_owes_49 (hR _ _ h)
  replace h := Ok_f c h
  refine G_iload_n d_Md_owes_12 rfl 2 rfl ?_
  refine G_aload_n d_Md_owes_13 rfl 0 rfl ?_
  refine G_iload_n d_Md_owes_14 rfl 1 rfl ?_
  refine G_callVp (st := [.int x2]) (As := [.int x1]) (b := ad 0) d_Md_owes_15 mi_Md_isBoat w_1076 0 rfl rfl mv_Md_isBoat rfl (Nat.le_of_ble_eq_true rfl) (by decide) (c_Md_isBoat x1 s (Ok_bind h)) (fun v1 h hnv1 => ?_)
  refine G_if_eq (tgt := 39) d_Md_owes_18 (by decide) (fun c => ?_) (fun c => ?_)
  · replace h := Ok_t c h
    refine G_iconst d_Md_owes_39 lt_iconst_0 ?_
    refine G_iadd d_Md_owes_40 ?_
    refine G_istore_n d_Md_owes_41 rfl (Nat.le_of_ble_eq_true rfl) (fun x => [(2, .int x), (0, .ref (ad 0)), (1, .int x1), (3, .int x3)]) (fun _ => rfl) (fun v2 e => ?_)
    replace h := Ok_bnd h v2 e.symm
    clear e
    refine G_iinc d_Md_owes_42 3 rfl lt_iconst_1 rfl (Nat.le_of_ble_eq_true rfl) (fun x => [(3, .int x), (2, .int v2), (0, .ref (ad 0)), (1, .int x1)]) (fun _ => rfl) (fun v3 e => ?_)
    replace h := Ok_bnd h v3 e
    clear e
    refine G_goto (tgt := 4) d_Md_owes_45 (by decide) ?_
    refine G_lv [2, 3, 1, 0] rfl ?_
    replace h := Ok_some h
    exact hL4 v2 v3 s h
  replace h := Ok_f c h
  refine G_aload_n d_Md_owes_21 rfl 0 rfl ?_
  refine gm_Md_stayBoat d_Md_owes_22 w_851 ?_
  refine G_iload_n d_Md_owes_25 rfl 3 rfl ?_
  refine lm_10 d_Md_owes_26 (Ok_ld h).1 (fun v4 e => ?_)
  replace h := (Ok_ld h).2 v4 e
  clear e
  refine G_iload_n d_Md_owes_27 rfl 1 rfl ?_
  refine G_icmp_ne (tgt := 39) d_Md_owes_28 (by decide) (fun c => ?_) (fun c => ?_)
  · replace h := Ok_f c h
    refine G_iconst d_Md_owes_39 lt_iconst_0 ?_
    refine G_iadd d_Md_owes_40 ?_
    refine G_istore_n d_Md_owes_41 rfl (Nat.le_of_ble_eq_true rfl) (fun x => [(2, .int x), (0, .ref (ad 0)), (1, .int x1), (3, .int x3)]) (fun _ => rfl) (fun v5 e => ?_)
    replace h := Ok_bnd h v5 e.symm
    clear e
    refine G_iinc d_Md_owes_42 3 rfl lt_iconst_1 rfl (Nat.le_of_ble_eq_true rfl) (fun x => [(3, .int x), (2, .int v5), (0, .ref (ad 0)), (1, .int x1)]) (fun _ => rfl) (fun v6 e => ?_)
    replace h := Ok_bnd h v6 e
    clear e
    refine G_goto (tgt := 4) d_Md_owes_45 (by decide) ?_
    refine G_lv [2, 3, 1, 0] rfl ?_
    replace h := Ok_some h
    exact hL4 v5 v6 s h
  replace h := Ok_t c h
  refine G_aload_n d_Md_owes_31 rfl 0 rfl ?_
  refine G_iload_n d_Md_owes_32 rfl 3 rfl ?_
  refine G_callVi (st := [.int x2]) (As := [.int x3]) (b := ad 0) d_Md_owes_33 mi_Md_bill w_1161 0 rfl rfl mv_Md_bill rfl (Nat.le_of_ble_eq_true rfl) (by decide) (c_Md_bill x3 s (Ok_bd2 h)) (fun v7 s8 h hnv7 => ?_)
  refine G_goto (tgt := 40) d_Md_owes_36 (by decide) ?_
  refine G_iadd d_Md_owes_40 ?_
  refine G_istore_n d_Md_owes_41 rfl (Nat.le_of_ble_eq_true rfl) (fun x => [(2, .int x), (0, .ref (ad 0)), (1, .int x1), (3, .int x3)]) (fun _ => rfl) (fun v9 e => ?_)
  replace h := Ok_bnd h v9 e.symm
  clear e
  refine G_iinc d_Md_owes_42 3 rfl lt_iconst_1 rfl (Nat.le_of_ble_eq_true rfl) (fun x => [(3, .int x), (2, .int v9), (0, .ref (ad 0)), (1, .int x1)]) (fun _ => rfl) (fun v10 e => ?_)
  replace h := Ok_bnd h v10 e
  clear e
  refine G_goto (tgt := 4) d_Md_owes_45 (by decide) ?_
  refine G_lv [2, 3, 1, 0] rfl ?_
  replace h := Ok_some h
  exact hL4 v9 v10 s8 h
noncomputable def f_Md_owes (a1 : Int32) (s : MS) : Option (Int32 × MS) :=
  loop (fun z => Md_owes_l4 a1 z.1 z.2.1 z.2.2) ((0 : Int32), (0 : Int32), s)
theorem f_Md_owes_w {l : Launch} {D : va_G} {cI cZ cJ : ClassId} {ad : Nat → Nat} (a1 : Int32) (s : MS) {Q : Int32 → MS → Prop} {Post : (Int32 × MS) → Prop} (hR : ∀ (r9 : Int32) (s9 : MS), Post ((r9, s9)) → Q r9 s9) (h : Ok (f_Md_owes a1 s) Post) : G (XM l D cI cZ cJ ad) "SmallHarbourModel" b_Md_owes 4 (some .int) 3 0 [(0, .ref (ad 0)), (1, .int a1)] [] s Q := by
  unfold f_Md_owes at h
  refine G_iconst d_Md_owes_0 lt_iconst_0 ?_
  refine G_istore_n d_Md_owes_1 rfl (Nat.le_of_ble_eq_true rfl) (fun x => [(2, .int x), (0, .ref (ad 0)), (1, .int a1)]) (fun _ => rfl) (fun x e => ?_)
  subst e
  refine G_iconst d_Md_owes_2 lt_iconst_0 ?_
  refine G_istore_n d_Md_owes_3 rfl (Nat.le_of_ble_eq_true rfl) (fun x => [(3, .int x), (2, .int (0 : Int32)), (0, .ref (ad 0)), (1, .int a1)]) (fun _ => rfl) (fun x e => ?_)
  subst e
  refine G_lv [2, 3, 1, 0] rfl ?_
  refine G_loop (J := (fun z => G (XM l D cI cZ cJ ad) "SmallHarbourModel" b_Md_owes 4 (some .int) 3 4 [(0, .ref (ad 0)), (1, .int a1), (2, .int (z.1)), (3, .int (z.2.1))] [] z.2.2 Q)) (fun z h => ?_) ((0 : Int32), (0 : Int32), s) h
  refine Md_owes_l4_w a1 z.1 z.2.1 z.2.2 ?_ ?_ h
  · exact hR
  · exact (fun z2 z3 s9 h => h)
theorem c_Md_owes {l : Launch} {D : va_G} {cI cZ cJ : ClassId} {ad : Nat → Nat} (a1 : Int32) (s : MS) {P : Int32 → MS → Prop} (h : Ok2 (f_Md_owes a1 s) P) : Ct (XM l D cI cZ cJ ad) y_Md_owes b_Md_owes 4 (some .int) 3 [.ref (ad 0), .int a1] s (P) :=
  Ct.of mi_Md_owes (Nat.le_of_ble_eq_true rfl) (f_Md_owes_w a1 s (Post := fun q => P q.1 q.2) (fun _ _ h => h) (Ok2_ok h))
-- Md_part
noncomputable def Md_part_j116 (s : MS) : Option (Int32 × MS) :=
  (f_Md_isMany s).bind fun v1 => if v1 = 0 then (if (s.1 29) = (10 : Int32) then (some ((3 : Int32), s)) else (bnd (pf s 29 ((s.1 29) + (1 : Int32))) fun s2 => if (s2.1 22) = (11 : Int32) then ((f_Md_push (18 : Int32) s2).bind fun s4 => some ((0 : Int32), s4)) else ((f_Md_push (s2.1 22) s2).bind fun s3 => some ((0 : Int32), s3)))) else (some ((3 : Int32), s))
theorem Md_part_j116_w {l : Launch} {D : va_G} {cI cZ cJ : ClassId} {ad : Nat → Nat} (s : MS) {Q : Int32 → MS → Prop} {Post : (Int32 × MS) → Prop} (hR : ∀ (r9 : Int32) (s9 : MS), Post ((r9, s9)) → Q r9 s9) (h : Ok (Md_part_j116 s) Post) : G (XM l D cI cZ cJ ad) "SmallHarbourModel" b_Md_part 2 (some .int) 2 116 [(0, .ref (ad 0))] [] s Q := by
  unfold Md_part_j116 at h
  refine G_aload_n d_Md_part_116 rfl 0 rfl ?_
  refine G_callVp (st := []) (As := []) (b := ad 0) d_Md_part_117 mi_Md_isMany w_1277 0 rfl rfl mv_Md_isMany rfl (Nat.le_of_ble_eq_true rfl) (by decide) (c_Md_isMany  s (Ok_bind h)) (fun v1 h hnv1 => ?_)
  refine G_if_ne (tgt := 132) d_Md_part_120 (by decide) (fun c => ?_) (fun c => ?_)
  · replace h := Ok_f c h
    refine G_iconst d_Md_part_132 lt_iconst_3 ?_
    replace h := Ok_some h
    exact G_iret rfl (vp_nar_int _) d_Md_part_133 (hR _ _ h)
  replace h := Ok_t c h
  refine G_aload_n d_Md_part_123 rfl 0 rfl ?_
  refine gm_Md_nest d_Md_part_124 w_900 ?_
  refine G_bipush d_Md_part_127 lt_bipush_10 ?_
  refine G_icmp_ne (tgt := 134) d_Md_part_129 (by decide) (fun c => ?_) (fun c => ?_)
  · replace h := Ok_f c h
    refine G_aload_n d_Md_part_134 rfl 0 rfl ?_
    refine G_dup d_Md_part_135 rfl ?_
    refine gm_Md_nest d_Md_part_136 w_900 ?_
    refine G_iconst d_Md_part_139 lt_iconst_1 ?_
    refine G_iadd d_Md_part_140 ?_
    refine pm_Md_nest d_Md_part_141 w_900 (fun s2 e => ?_)
    replace h := Ok_bnd h s2 e
    clear e
    refine G_aload_n d_Md_part_144 rfl 0 rfl ?_
    refine G_aload_n d_Md_part_145 rfl 0 rfl ?_
    refine gm_Md_kind d_Md_part_146 w_888 ?_
    refine G_bipush d_Md_part_149 lt_bipush_11 ?_
    refine G_icmp_ne (tgt := 159) d_Md_part_151 (by decide) (fun c => ?_) (fun c => ?_)
    · replace h := Ok_f c h
      refine G_aload_n d_Md_part_159 rfl 0 rfl ?_
      refine gm_Md_kind d_Md_part_160 w_888 ?_
      refine G_callVv (st := []) (As := [.int (s2.1 22)]) (b := ad 0) d_Md_part_163 mi_Md_push w_1296 0 rfl rfl mv_Md_push rfl (Nat.le_of_ble_eq_true rfl) (by decide) (c_Md_push (s2.1 22) s2 (Ok_bind h)) (fun s3 h => ?_)
      refine G_iconst d_Md_part_166 lt_iconst_0 ?_
      replace h := Ok_some h
      exact G_iret rfl (vp_nar_int _) d_Md_part_167 (hR _ _ h)
    replace h := Ok_t c h
    refine G_bipush d_Md_part_154 lt_bipush_18 ?_
    refine G_goto (tgt := 163) d_Md_part_156 (by decide) ?_
    refine G_callVv (st := []) (As := [.int (18 : Int32)]) (b := ad 0) d_Md_part_163 mi_Md_push w_1296 0 rfl rfl mv_Md_push rfl (Nat.le_of_ble_eq_true rfl) (by decide) (c_Md_push (18 : Int32) s2 (Ok_bind h)) (fun s4 h => ?_)
    refine G_iconst d_Md_part_166 lt_iconst_0 ?_
    replace h := Ok_some h
    exact G_iret rfl (vp_nar_int _) d_Md_part_167 (hR _ _ h)
  replace h := Ok_t c h
  refine G_iconst d_Md_part_132 lt_iconst_3 ?_
  replace h := Ok_some h
  exact G_iret rfl (vp_nar_int _) d_Md_part_133 (hR _ _ h)
noncomputable def Md_part_j83 (t0 : Int32) (s : MS) : Option (Int32 × MS) :=
  if (s.1 22) = (8 : Int32) then (Md_part_j116 s) else (if (s.1 22) = (11 : Int32) then (Md_part_j116 s) else (if (s.1 22) = (5 : Int32) then (if t0 = 0 then (some ((1 : Int32), s)) else (Md_part_j116 s)) else (some ((1 : Int32), s))))
theorem Md_part_j83_w {l : Launch} {D : va_G} {cI cZ cJ : ClassId} {ad : Nat → Nat} (t0 : Int32) (s : MS) {Q : Int32 → MS → Prop} {Post : (Int32 × MS) → Prop} (hR : ∀ (r9 : Int32) (s9 : MS), Post ((r9, s9)) → Q r9 s9) (h : Ok (Md_part_j83 t0 s) Post) : G (XM l D cI cZ cJ ad) "SmallHarbourModel" b_Md_part 2 (some .int) 2 83 [(0, .ref (ad 0))] [.int t0] s Q := by
  unfold Md_part_j83 at h
  refine G_istore_n d_Md_part_83 rfl (Nat.le_of_ble_eq_true rfl) (fun x => [(1, .int x), (0, .ref (ad 0))]) (fun _ => rfl) (fun x e => ?_)
  subst e
  refine G_aload_n d_Md_part_84 rfl 1 rfl ?_
  refine gm_Md_kind d_Md_part_85 w_888 ?_
  refine G_bipush d_Md_part_88 lt_bipush_8 ?_
  refine G_icmp_eq (tgt := 116) d_Md_part_90 (by decide) (fun c => ?_) (fun c => ?_)
  · replace h := Ok_t c h
    refine G_lv [1] rfl ?_
    refine Md_part_j116_w s ?_ h
    · exact hR
  replace h := Ok_f c h
  refine G_aload_n d_Md_part_93 rfl 1 rfl ?_
  refine gm_Md_kind d_Md_part_94 w_888 ?_
  refine G_bipush d_Md_part_97 lt_bipush_11 ?_
  refine G_icmp_eq (tgt := 116) d_Md_part_99 (by decide) (fun c => ?_) (fun c => ?_)
  · replace h := Ok_t c h
    refine G_lv [1] rfl ?_
    refine Md_part_j116_w s ?_ h
    · exact hR
  replace h := Ok_f c h
  refine G_aload_n d_Md_part_102 rfl 1 rfl ?_
  refine gm_Md_kind d_Md_part_103 w_888 ?_
  refine G_iconst d_Md_part_106 lt_iconst_5 ?_
  refine G_icmp_ne (tgt := 114) d_Md_part_107 (by decide) (fun c => ?_) (fun c => ?_)
  · replace h := Ok_f c h
    refine G_iconst d_Md_part_114 lt_iconst_1 ?_
    replace h := Ok_some h
    exact G_iret rfl (vp_nar_int _) d_Md_part_115 (hR _ _ h)
  replace h := Ok_t c h
  refine G_iload_n d_Md_part_110 rfl 0 rfl ?_
  refine G_if_ne (tgt := 116) d_Md_part_111 (by decide) (fun c => ?_) (fun c => ?_)
  · replace h := Ok_f c h
    refine G_lv [1] rfl ?_
    refine Md_part_j116_w s ?_ h
    · exact hR
  replace h := Ok_t c h
  refine G_iconst d_Md_part_114 lt_iconst_1 ?_
  replace h := Ok_some h
  exact G_iret rfl (vp_nar_int _) d_Md_part_115 (hR _ _ h)
noncomputable def Md_part_j82 (s : MS) : Option (Int32 × MS) :=
  Md_part_j83 (0 : Int32) s
theorem Md_part_j82_w {l : Launch} {D : va_G} {cI cZ cJ : ClassId} {ad : Nat → Nat} (s : MS) {Q : Int32 → MS → Prop} {Post : (Int32 × MS) → Prop} (hR : ∀ (r9 : Int32) (s9 : MS), Post ((r9, s9)) → Q r9 s9) (h : Ok (Md_part_j82 s) Post) : G (XM l D cI cZ cJ ad) "SmallHarbourModel" b_Md_part 2 (some .int) 2 82 [(0, .ref (ad 0))] [] s Q := by
  unfold Md_part_j82 at h
  refine G_iconst d_Md_part_82 lt_iconst_0 ?_
  refine Md_part_j83_w (0 : Int32) s ?_ h
  · exact hR
noncomputable def Md_part_j32 (s : MS) : Option (Int32 × MS) :=
  (f_Md_isMany s).bind fun v1 => if v1 = 0 then ((f_Md_emit (s.1 22) (s.1 23) s).bind fun s2 => (f_Md_partIsThrough s2).bind fun s3 => some ((0 : Int32), s3)) else (some ((3 : Int32), s))
theorem Md_part_j32_w {l : Launch} {D : va_G} {cI cZ cJ : ClassId} {ad : Nat → Nat} (s : MS) {Q : Int32 → MS → Prop} {Post : (Int32 × MS) → Prop} (hR : ∀ (r9 : Int32) (s9 : MS), Post ((r9, s9)) → Q r9 s9) (h : Ok (Md_part_j32 s) Post) : G (XM l D cI cZ cJ ad) "SmallHarbourModel" b_Md_part 2 (some .int) 2 32 [(0, .ref (ad 0))] [] s Q := by
  unfold Md_part_j32 at h
  refine G_aload_n d_Md_part_32 rfl 0 rfl ?_
  refine G_callVp (st := []) (As := []) (b := ad 0) d_Md_part_33 mi_Md_isMany w_1277 0 rfl rfl mv_Md_isMany rfl (Nat.le_of_ble_eq_true rfl) (by decide) (c_Md_isMany  s (Ok_bind h)) (fun v1 h hnv1 => ?_)
  refine G_if_eq (tgt := 41) d_Md_part_36 (by decide) (fun c => ?_) (fun c => ?_)
  · replace h := Ok_t c h
    refine G_aload_n d_Md_part_41 rfl 0 rfl ?_
    refine G_aload_n d_Md_part_42 rfl 0 rfl ?_
    refine gm_Md_kind d_Md_part_43 w_888 ?_
    refine G_aload_n d_Md_part_46 rfl 0 rfl ?_
    refine gm_Md_number d_Md_part_47 w_889 ?_
    refine G_callVv (st := []) (As := [.int (s.1 22), .int (s.1 23)]) (b := ad 0) d_Md_part_50 mi_Md_emit w_1281 0 rfl rfl mv_Md_emit rfl (Nat.le_of_ble_eq_true rfl) (by decide) (c_Md_emit (s.1 22) (s.1 23) s (Ok_bind h)) (fun s2 h => ?_)
    refine G_aload_n d_Md_part_53 rfl 0 rfl ?_
    refine G_callVv (st := []) (As := []) (b := ad 0) d_Md_part_54 mi_Md_partIsThrough w_1285 0 rfl rfl mv_Md_partIsThrough rfl (Nat.le_of_ble_eq_true rfl) (by decide) (c_Md_partIsThrough  s2 (Ok_bind h)) (fun s3 h => ?_)
    refine G_iconst d_Md_part_57 lt_iconst_0 ?_
    replace h := Ok_some h
    exact G_iret rfl (vp_nar_int _) d_Md_part_58 (hR _ _ h)
  replace h := Ok_f c h
  refine G_iconst d_Md_part_39 lt_iconst_3 ?_
  replace h := Ok_some h
  exact G_iret rfl (vp_nar_int _) d_Md_part_40 (hR _ _ h)
noncomputable def f_Md_part (s : MS) : Option (Int32 × MS) :=
  (f_Md_isIn (s.1 22) (1 : Int32) (4 : Int32)).bind fun v1 => if v1 = 0 then ((f_Md_top s).bind fun v2 => (f_Md_rankOf v2).bind fun v3 => if v3 = 0 then ((f_Md_top s).bind fun v4 => if v4 = (18 : Int32) then (Md_part_j82 s) else (Md_part_j83 (1 : Int32) s)) else (Md_part_j82 s)) else (if (s.1 22) = (4 : Int32) then (if (s.1 23) ≤ (99999 : Int32) then (Md_part_j32 s) else (some ((2 : Int32), s))) else (Md_part_j32 s))
theorem f_Md_part_w {l : Launch} {D : va_G} {cI cZ cJ : ClassId} {ad : Nat → Nat} (s : MS) {Q : Int32 → MS → Prop} {Post : (Int32 × MS) → Prop} (hR : ∀ (r9 : Int32) (s9 : MS), Post ((r9, s9)) → Q r9 s9) (h : Ok (f_Md_part s) Post) : G (XM l D cI cZ cJ ad) "SmallHarbourModel" b_Md_part 2 (some .int) 2 0 [(0, .ref (ad 0))] [] s Q := by
  unfold f_Md_part at h
  refine G_aload_n d_Md_part_0 rfl 0 rfl ?_
  refine gm_Md_kind d_Md_part_1 w_888 ?_
  refine G_iconst d_Md_part_4 lt_iconst_1 ?_
  refine G_iconst d_Md_part_5 lt_iconst_4 ?_
  refine G_callSp (st := []) (As := [.int (s.1 22), .int (1 : Int32), .int (4 : Int32)]) d_Md_part_6 mi_Md_isIn w_1045 w_1046 rfl (Nat.le_of_ble_eq_true rfl) (by decide) (c_Md_isIn (s.1 22) (1 : Int32) (4 : Int32) s (Ok_bind h)) (fun v1 h hnv1 => ?_)
  refine G_if_eq (tgt := 59) d_Md_part_9 (by decide) (fun c => ?_) (fun c => ?_)
  · replace h := Ok_t c h
    refine G_aload_n d_Md_part_59 rfl 0 rfl ?_
    refine G_callVp (st := []) (As := []) (b := ad 0) d_Md_part_60 mi_Md_top w_1289 0 rfl rfl mv_Md_top rfl (Nat.le_of_ble_eq_true rfl) (by decide) (c_Md_top  s (Ok_bind h)) (fun v2 h hnv2 => ?_)
    refine G_callSp (st := []) (As := [.int v2]) d_Md_part_63 mi_Md_rankOf w_1293 w_1294 rfl (Nat.le_of_ble_eq_true rfl) (by decide) (c_Md_rankOf v2 s (Ok_bind h)) (fun v3 h hnv3 => ?_)
    refine G_if_ne (tgt := 82) d_Md_part_66 (by decide) (fun c => ?_) (fun c => ?_)
    · replace h := Ok_f c h
      refine Md_part_j82_w s ?_ h
      · exact hR
    replace h := Ok_t c h
    refine G_aload_n d_Md_part_69 rfl 0 rfl ?_
    refine G_callVp (st := []) (As := []) (b := ad 0) d_Md_part_70 mi_Md_top w_1289 0 rfl rfl mv_Md_top rfl (Nat.le_of_ble_eq_true rfl) (by decide) (c_Md_top  s (Ok_bind h)) (fun v4 h hnv4 => ?_)
    refine G_bipush d_Md_part_73 lt_bipush_18 ?_
    refine G_icmp_eq (tgt := 82) d_Md_part_75 (by decide) (fun c => ?_) (fun c => ?_)
    · replace h := Ok_t c h
      refine Md_part_j82_w s ?_ h
      · exact hR
    replace h := Ok_f c h
    refine G_iconst d_Md_part_78 lt_iconst_1 ?_
    refine G_goto (tgt := 83) d_Md_part_79 (by decide) ?_
    refine Md_part_j83_w (1 : Int32) s ?_ h
    · exact hR
  replace h := Ok_f c h
  refine G_aload_n d_Md_part_12 rfl 0 rfl ?_
  refine gm_Md_kind d_Md_part_13 w_888 ?_
  refine G_iconst d_Md_part_16 lt_iconst_4 ?_
  refine G_icmp_ne (tgt := 32) d_Md_part_17 (by decide) (fun c => ?_) (fun c => ?_)
  · replace h := Ok_f c h
    refine Md_part_j32_w s ?_ h
    · exact hR
  replace h := Ok_t c h
  refine G_aload_n d_Md_part_20 rfl 0 rfl ?_
  refine gm_Md_number d_Md_part_21 w_889 ?_
  refine G_ldc_w d_Md_part_24 w_1276 ?_
  refine G_icmp_le (tgt := 32) d_Md_part_27 (by decide) (fun c => ?_) (fun c => ?_)
  · replace h := Ok_t c h
    refine Md_part_j32_w s ?_ h
    · exact hR
  replace h := Ok_f c h
  refine G_iconst d_Md_part_30 lt_iconst_2 ?_
  replace h := Ok_some h
  exact G_iret rfl (vp_nar_int _) d_Md_part_31 (hR _ _ h)
theorem c_Md_part {l : Launch} {D : va_G} {cI cZ cJ : ClassId} {ad : Nat → Nat} (s : MS) {P : Int32 → MS → Prop} (h : Ok2 (f_Md_part  s) P) : Ct (XM l D cI cZ cJ ad) y_Md_part b_Md_part 2 (some .int) 2 [.ref (ad 0)] s (P) :=
  Ct.of mi_Md_part (Nat.le_of_ble_eq_true rfl) (f_Md_part_w  s (Post := fun q => P q.1 q.2) (fun _ _ h => h) (Ok2_ok h))
