-- Stays_has
noncomputable def f_Stays_has (a1 : Int32) (s : MS) : Option Int32 :=
  if a1 < 0 then (some (0 : Int32)) else (if (s.1 5) ≤ a1 then (some (0 : Int32)) else (some (1 : Int32)))
theorem f_Stays_has_w {l : Launch} {D : va_G} {cI cZ cJ : ClassId} {ad : Nat → Nat} (a1 : Int32) (s : MS) {Q : Int32 → MS → Prop} {Post : Int32 → Prop} (hR : ∀ (r9 : Int32), Post (r9) → Q r9 s) (h : Ok (f_Stays_has a1 s) Post) : G (XX l D cI cZ cJ ad) "SmallHarbour$Stays" b_Stays_has 2 (some .boolean) 0 0 [(0, .ref (ad 5)), (1, .int a1)] [] s Q := by
  unfold f_Stays_has at h
  refine G_iload_n d_Stays_has_0 rfl 1 rfl ?_
  refine G_if_lt (tgt := 16) d_Stays_has_1 (by decide) (fun c => ?_) (fun c => ?_)
  · replace h := Ok_t c h
    refine G_iconst d_Stays_has_16 lt_iconst_0 ?_
    replace h := Ok_some h
    exact G_iret rfl rfl d_Stays_has_17 (hR _ h)
  replace h := Ok_f c h
  refine G_iload_n d_Stays_has_4 rfl 1 rfl ?_
  refine G_aload_n d_Stays_has_5 rfl 0 rfl ?_
  refine gx_Stays_count d_Stays_has_6 w_123 ?_
  refine G_icmp_ge (tgt := 16) d_Stays_has_9 (by decide) (fun c => ?_) (fun c => ?_)
  · replace h := Ok_t c h
    refine G_iconst d_Stays_has_16 lt_iconst_0 ?_
    replace h := Ok_some h
    exact G_iret rfl rfl d_Stays_has_17 (hR _ h)
  replace h := Ok_f c h
  refine G_iconst d_Stays_has_12 lt_iconst_1 ?_
  refine G_goto (tgt := 17) d_Stays_has_13 (by decide) ?_
  replace h := Ok_some h
  exact G_iret rfl rfl d_Stays_has_17 (hR _ h)
theorem c_Stays_has {l : Launch} {D : va_G} {cI cZ cJ : ClassId} {ad : Nat → Nat} (a1 : Int32) (s : MS) {P : Int32 → Prop} (h : Ok (f_Stays_has a1 s) P) : Ct (XX l D cI cZ cJ ad) y_Stays_has b_Stays_has 2 (some .boolean) 0 [.ref (ad 5), .int a1] s (fun r9 s9 => s9 = s ∧ P r9) :=
  Ct.of mi_Stays_has (Nat.le_of_ble_eq_true rfl) (f_Stays_has_w a1 s (fun _ h => ⟨rfl, h⟩) h)
-- Hb_leaves
noncomputable def f_Hb_leaves (a1 a2 : Int32) (s : MS) : Option (Int32 × MS) :=
  (f_Stays_has a1 s).bind fun v1 => if v1 = 0 then (some ((0 : Int32), s)) else (chk (inb a1 40) (bnd (s.2 16 a1.toNatClampNeg) fun v2 => if a2 ≤ v2 then (some ((0 : Int32), s)) else (chk (inb a1 40) (bnd (s.2 17 a1.toNatClampNeg) fun v3 => if a2 < v3 then (chk (inb a1 40) (bnd (pa s 17 a1.toNatClampNeg a2) fun s4 => some ((1 : Int32), s4))) else (some ((0 : Int32), s))))))
theorem f_Hb_leaves_w {l : Launch} {D : va_G} {cI cZ cJ : ClassId} {ad : Nat → Nat} (a1 a2 : Int32) (s : MS) {Q : Int32 → MS → Prop} {Post : (Int32 × MS) → Prop} (hR : ∀ (r9 : Int32) (s9 : MS), Post ((r9, s9)) → Q r9 s9) (h : Ok (f_Hb_leaves a1 a2 s) Post) : G (XX l D cI cZ cJ ad) "SmallHarbour" b_Hb_leaves 3 (some .boolean) 1 0 [(0, .ref (ad 0)), (1, .int a1), (2, .int a2)] [] s Q := by
  unfold f_Hb_leaves at h
  refine G_aload_n d_Hb_leaves_0 rfl 0 rfl ?_
  refine gx_Hb_stays d_Hb_leaves_1 w_351 ?_
  refine G_iload_n d_Hb_leaves_4 rfl 1 rfl ?_
  refine G_callVp (st := []) (As := [.int a1]) (b := ad 5) d_Hb_leaves_5 mi_Stays_has w_535 5 rfl rfl mv_Stays_has rfl (Nat.le_of_ble_eq_true rfl) (by decide) (c_Stays_has a1 s (Ok_bind h)) (fun v1 h hnv1 => ?_)
  refine G_if_eq (tgt := 37) d_Hb_leaves_8 (by decide) (fun c => ?_) (fun c => ?_)
  · replace h := Ok_t c h
    refine G_iconst d_Hb_leaves_37 lt_iconst_0 ?_
    replace h := Ok_some h
    exact G_iret rfl rfl d_Hb_leaves_38 (hR _ _ h)
  replace h := Ok_f c h
  refine G_iload_n d_Hb_leaves_11 rfl 2 rfl ?_
  refine G_aload_n d_Hb_leaves_12 rfl 0 rfl ?_
  refine gx_Hb_stays d_Hb_leaves_13 w_351 ?_
  refine gx_Stays_from d_Hb_leaves_16 w_120 ?_
  refine G_iload_n d_Hb_leaves_19 rfl 1 rfl ?_
  refine lx_16 d_Hb_leaves_20 (Ok_ld h).1 (fun v2 e => ?_)
  replace h := (Ok_ld h).2 v2 e
  clear e
  refine G_icmp_le (tgt := 37) d_Hb_leaves_21 (by decide) (fun c => ?_) (fun c => ?_)
  · replace h := Ok_t c h
    refine G_iconst d_Hb_leaves_37 lt_iconst_0 ?_
    replace h := Ok_some h
    exact G_iret rfl rfl d_Hb_leaves_38 (hR _ _ h)
  replace h := Ok_f c h
  refine G_iload_n d_Hb_leaves_24 rfl 2 rfl ?_
  refine G_aload_n d_Hb_leaves_25 rfl 0 rfl ?_
  refine gx_Hb_stays d_Hb_leaves_26 w_351 ?_
  refine gx_Stays_to d_Hb_leaves_29 w_122 ?_
  refine G_iload_n d_Hb_leaves_32 rfl 1 rfl ?_
  refine lx_17 d_Hb_leaves_33 (Ok_ld h).1 (fun v3 e => ?_)
  replace h := (Ok_ld h).2 v3 e
  clear e
  refine G_icmp_lt (tgt := 39) d_Hb_leaves_34 (by decide) (fun c => ?_) (fun c => ?_)
  · replace h := Ok_t c h
    refine G_aload_n d_Hb_leaves_39 rfl 0 rfl ?_
    refine gx_Hb_stays d_Hb_leaves_40 w_351 ?_
    refine gx_Stays_to d_Hb_leaves_43 w_122 ?_
    refine G_iload_n d_Hb_leaves_46 rfl 1 rfl ?_
    refine G_iload_n d_Hb_leaves_47 rfl 2 rfl ?_
    refine sx_17 d_Hb_leaves_48 (Ok_ld h).1 (fun s4 e => ?_)
    replace h := (Ok_ld h).2 s4 e
    clear e
    refine G_iconst d_Hb_leaves_49 lt_iconst_1 ?_
    replace h := Ok_some h
    exact G_iret rfl rfl d_Hb_leaves_50 (hR _ _ h)
  replace h := Ok_f c h
  refine G_iconst d_Hb_leaves_37 lt_iconst_0 ?_
  replace h := Ok_some h
  exact G_iret rfl rfl d_Hb_leaves_38 (hR _ _ h)
theorem c_Hb_leaves {l : Launch} {D : va_G} {cI cZ cJ : ClassId} {ad : Nat → Nat} (a1 a2 : Int32) (s : MS) {P : Int32 → MS → Prop} (h : Ok2 (f_Hb_leaves a1 a2 s) P) : Ct (XX l D cI cZ cJ ad) y_Hb_leaves b_Hb_leaves 3 (some .boolean) 1 [.ref (ad 0), .int a1, .int a2] s (P) :=
  Ct.of mi_Hb_leaves (Nat.le_of_ble_eq_true rfl) (f_Hb_leaves_w a1 a2 s (Post := fun q => P q.1 q.2) (fun _ _ h => h) (Ok2_ok h))
-- Tide_put
noncomputable def f_Tide_put (a1 a2 : Int32) (s : MS) : Option (Int32 × MS) :=
  if a1 < 0 then (some ((0 : Int32), s)) else (if (s.1 1) ≤ a1 then (some ((0 : Int32), s)) else (if a2 < 0 then (some ((0 : Int32), s)) else (if a2 ≤ (40 : Int32) then (chk (inb a1 30) (bnd (pa s 3 a1.toNatClampNeg a2) fun s1 => some ((1 : Int32), s1))) else (some ((0 : Int32), s)))))
theorem f_Tide_put_w {l : Launch} {D : va_G} {cI cZ cJ : ClassId} {ad : Nat → Nat} (a1 a2 : Int32) (s : MS) {Q : Int32 → MS → Prop} {Post : (Int32 × MS) → Prop} (hR : ∀ (r9 : Int32) (s9 : MS), Post ((r9, s9)) → Q r9 s9) (h : Ok (f_Tide_put a1 a2 s) Post) : G (XX l D cI cZ cJ ad) "SmallHarbour$Tide" b_Tide_put 3 (some .boolean) 0 0 [(0, .ref (ad 1)), (1, .int a1), (2, .int a2)] [] s Q := by
  unfold f_Tide_put at h
  refine G_iload_n d_Tide_put_0 rfl 1 rfl ?_
  refine G_if_lt (tgt := 22) d_Tide_put_1 (by decide) (fun c => ?_) (fun c => ?_)
  · replace h := Ok_t c h
    refine G_iconst d_Tide_put_22 lt_iconst_0 ?_
    replace h := Ok_some h
    exact G_iret rfl rfl d_Tide_put_23 (hR _ _ h)
  replace h := Ok_f c h
  refine G_iload_n d_Tide_put_4 rfl 1 rfl ?_
  refine G_aload_n d_Tide_put_5 rfl 0 rfl ?_
  refine gx_Tide_count d_Tide_put_6 w_32 ?_
  refine G_icmp_ge (tgt := 22) d_Tide_put_9 (by decide) (fun c => ?_) (fun c => ?_)
  · replace h := Ok_t c h
    refine G_iconst d_Tide_put_22 lt_iconst_0 ?_
    replace h := Ok_some h
    exact G_iret rfl rfl d_Tide_put_23 (hR _ _ h)
  replace h := Ok_f c h
  refine G_iload_n d_Tide_put_12 rfl 2 rfl ?_
  refine G_if_lt (tgt := 22) d_Tide_put_13 (by decide) (fun c => ?_) (fun c => ?_)
  · replace h := Ok_t c h
    refine G_iconst d_Tide_put_22 lt_iconst_0 ?_
    replace h := Ok_some h
    exact G_iret rfl rfl d_Tide_put_23 (hR _ _ h)
  replace h := Ok_f c h
  refine G_iload_n d_Tide_put_16 rfl 2 rfl ?_
  refine G_bipush d_Tide_put_17 lt_bipush_40 ?_
  refine G_icmp_le (tgt := 24) d_Tide_put_19 (by decide) (fun c => ?_) (fun c => ?_)
  · replace h := Ok_t c h
    refine G_aload_n d_Tide_put_24 rfl 0 rfl ?_
    refine gx_Tide_row d_Tide_put_25 w_31 ?_
    refine G_iload_n d_Tide_put_28 rfl 1 rfl ?_
    refine G_iload_n d_Tide_put_29 rfl 2 rfl ?_
    refine sx_3 d_Tide_put_30 (Ok_ld h).1 (fun s1 e => ?_)
    replace h := (Ok_ld h).2 s1 e
    clear e
    refine G_iconst d_Tide_put_31 lt_iconst_1 ?_
    replace h := Ok_some h
    exact G_iret rfl rfl d_Tide_put_32 (hR _ _ h)
  replace h := Ok_f c h
  refine G_iconst d_Tide_put_22 lt_iconst_0 ?_
  replace h := Ok_some h
  exact G_iret rfl rfl d_Tide_put_23 (hR _ _ h)
theorem c_Tide_put {l : Launch} {D : va_G} {cI cZ cJ : ClassId} {ad : Nat → Nat} (a1 a2 : Int32) (s : MS) {P : Int32 → MS → Prop} (h : Ok2 (f_Tide_put a1 a2 s) P) : Ct (XX l D cI cZ cJ ad) y_Tide_put b_Tide_put 3 (some .boolean) 0 [.ref (ad 1), .int a1, .int a2] s (P) :=
  Ct.of mi_Tide_put (Nat.le_of_ble_eq_true rfl) (f_Tide_put_w a1 a2 s (Post := fun q => P q.1 q.2) (fun _ _ h => h) (Ok2_ok h))
-- Hb_level
noncomputable def f_Hb_level (a1 a2 : Int32) (s : MS) : Option (Int32 × MS) :=
  (f_Hb_isTideFixed s).bind fun v1 => if v1 = 0 then (bd2 (f_Tide_put a1 a2 s) fun v2 s3 => if v2 = 0 then (some ((0 : Int32), s3)) else (some ((1 : Int32), s3))) else (some ((0 : Int32), s))
theorem f_Hb_level_w {l : Launch} {D : va_G} {cI cZ cJ : ClassId} {ad : Nat → Nat} (a1 a2 : Int32) (s : MS) {Q : Int32 → MS → Prop} {Post : (Int32 × MS) → Prop} (hR : ∀ (r9 : Int32) (s9 : MS), Post ((r9, s9)) → Q r9 s9) (h : Ok (f_Hb_level a1 a2 s) Post) : G (XX l D cI cZ cJ ad) "SmallHarbour" b_Hb_level 3 (some .boolean) 2 0 [(0, .ref (ad 0)), (1, .int a1), (2, .int a2)] [] s Q := by
  unfold f_Hb_level at h
  refine G_aload_n d_Hb_level_0 rfl 0 rfl ?_
  refine G_callVp (st := []) (As := []) (b := ad 0) d_Hb_level_1 mi_Hb_isTideFixed w_391 0 rfl rfl mv_Hb_isTideFixed rfl (Nat.le_of_ble_eq_true rfl) (by decide) (c_Hb_isTideFixed  s (Ok_bind h)) (fun v1 h hnv1 => ?_)
  refine G_if_ne (tgt := 23) d_Hb_level_4 (by decide) (fun c => ?_) (fun c => ?_)
  · replace h := Ok_f c h
    refine G_iconst d_Hb_level_23 lt_iconst_0 ?_
    replace h := Ok_some h
    exact G_iret rfl rfl d_Hb_level_24 (hR _ _ h)
  replace h := Ok_t c h
  refine G_aload_n d_Hb_level_7 rfl 0 rfl ?_
  refine gx_Hb_tide d_Hb_level_8 w_347 ?_
  refine G_iload_n d_Hb_level_11 rfl 1 rfl ?_
  refine G_iload_n d_Hb_level_12 rfl 2 rfl ?_
  refine G_callVi (st := []) (As := [.int a1, .int a2]) (b := ad 1) d_Hb_level_13 mi_Tide_put w_410 1 rfl rfl mv_Tide_put rfl (Nat.le_of_ble_eq_true rfl) (by decide) (c_Tide_put a1 a2 s (Ok_bd2 h)) (fun v2 s3 h hnv2 => ?_)
  refine G_if_eq (tgt := 23) d_Hb_level_16 (by decide) (fun c => ?_) (fun c => ?_)
  · replace h := Ok_t c h
    refine G_iconst d_Hb_level_23 lt_iconst_0 ?_
    replace h := Ok_some h
    exact G_iret rfl rfl d_Hb_level_24 (hR _ _ h)
  replace h := Ok_f c h
  refine G_iconst d_Hb_level_19 lt_iconst_1 ?_
  refine G_goto (tgt := 24) d_Hb_level_20 (by decide) ?_
  replace h := Ok_some h
  exact G_iret rfl rfl d_Hb_level_24 (hR _ _ h)
theorem c_Hb_level {l : Launch} {D : va_G} {cI cZ cJ : ClassId} {ad : Nat → Nat} (a1 a2 : Int32) (s : MS) {P : Int32 → MS → Prop} (h : Ok2 (f_Hb_level a1 a2 s) P) : Ct (XX l D cI cZ cJ ad) y_Hb_level b_Hb_level 3 (some .boolean) 2 [.ref (ad 0), .int a1, .int a2] s (P) :=
  Ct.of mi_Hb_level (Nat.le_of_ble_eq_true rfl) (f_Hb_level_w a1 a2 s (Post := fun q => P q.1 q.2) (fun _ _ h => h) (Ok2_ok h))
-- Tide_restart
noncomputable def f_Tide_restart (a1 : Int32) (s : MS) : Option (Int32 × MS) :=
  if a1 < (1 : Int32) then (some ((0 : Int32), s)) else (if a1 ≤ (30 : Int32) then ((f_Ar_fill16 (0 : Int32) s).bind fun s1 => bnd (pf s1 1 a1) fun s2 => some ((1 : Int32), s2)) else (some ((0 : Int32), s)))
theorem f_Tide_restart_w {l : Launch} {D : va_G} {cI cZ cJ : ClassId} {ad : Nat → Nat} (a1 : Int32) (s : MS) {Q : Int32 → MS → Prop} {Post : (Int32 × MS) → Prop} (hR : ∀ (r9 : Int32) (s9 : MS), Post ((r9, s9)) → Q r9 s9) (h : Ok (f_Tide_restart a1 s) Post) : G (XX l D cI cZ cJ ad) "SmallHarbour$Tide" b_Tide_restart 2 (some .boolean) 1 0 [(0, .ref (ad 1)), (1, .int a1)] [] s Q := by
  unfold f_Tide_restart at h
  refine G_iload_n d_Tide_restart_0 rfl 1 rfl ?_
  refine G_iconst d_Tide_restart_1 lt_iconst_1 ?_
  refine G_icmp_lt (tgt := 11) d_Tide_restart_2 (by decide) (fun c => ?_) (fun c => ?_)
  · replace h := Ok_t c h
    refine G_iconst d_Tide_restart_11 lt_iconst_0 ?_
    replace h := Ok_some h
    exact G_iret rfl rfl d_Tide_restart_12 (hR _ _ h)
  replace h := Ok_f c h
  refine G_iload_n d_Tide_restart_5 rfl 1 rfl ?_
  refine G_bipush d_Tide_restart_6 lt_bipush_30 ?_
  refine G_icmp_le (tgt := 13) d_Tide_restart_8 (by decide) (fun c => ?_) (fun c => ?_)
  · replace h := Ok_t c h
    refine G_aload_n d_Tide_restart_13 rfl 0 rfl ?_
    refine gx_Tide_row d_Tide_restart_14 w_31 ?_
    refine G_iconst d_Tide_restart_17 lt_iconst_0 ?_
    refine G_callSv (st := []) (As := [.ref (ad 16), .int (0 : Int32)]) d_Tide_restart_18 mi_Ar_fill w_403 w_404 rfl (Nat.le_of_ble_eq_true rfl) (by decide) (c_Ar_fill16 (0 : Int32) s (Ok_bind h)) (fun s1 h => ?_)
    refine G_aload_n d_Tide_restart_21 rfl 0 rfl ?_
    refine G_iload_n d_Tide_restart_22 rfl 1 rfl ?_
    refine px_Tide_count d_Tide_restart_23 w_32 (fun s2 e => ?_)
    replace h := Ok_bnd h s2 e
    clear e
    refine G_iconst d_Tide_restart_26 lt_iconst_1 ?_
    replace h := Ok_some h
    exact G_iret rfl rfl d_Tide_restart_27 (hR _ _ h)
  replace h := Ok_f c h
  refine G_iconst d_Tide_restart_11 lt_iconst_0 ?_
  replace h := Ok_some h
  exact G_iret rfl rfl d_Tide_restart_12 (hR _ _ h)
theorem c_Tide_restart {l : Launch} {D : va_G} {cI cZ cJ : ClassId} {ad : Nat → Nat} (a1 : Int32) (s : MS) {P : Int32 → MS → Prop} (h : Ok2 (f_Tide_restart a1 s) P) : Ct (XX l D cI cZ cJ ad) y_Tide_restart b_Tide_restart 2 (some .boolean) 1 [.ref (ad 1), .int a1] s (P) :=
  Ct.of mi_Tide_restart (Nat.le_of_ble_eq_true rfl) (f_Tide_restart_w a1 s (Post := fun q => P q.1 q.2) (fun _ _ h => h) (Ok2_ok h))
-- Hb_levels
noncomputable def f_Hb_levels (a1 : Int32) (s : MS) : Option (Int32 × MS) :=
  (f_Hb_isTideFixed s).bind fun v1 => if v1 = 0 then (bd2 (f_Tide_restart a1 s) fun v2 s3 => if v2 = 0 then (some ((0 : Int32), s3)) else (some ((1 : Int32), s3))) else (some ((0 : Int32), s))
theorem f_Hb_levels_w {l : Launch} {D : va_G} {cI cZ cJ : ClassId} {ad : Nat → Nat} (a1 : Int32) (s : MS) {Q : Int32 → MS → Prop} {Post : (Int32 × MS) → Prop} (hR : ∀ (r9 : Int32) (s9 : MS), Post ((r9, s9)) → Q r9 s9) (h : Ok (f_Hb_levels a1 s) Post) : G (XX l D cI cZ cJ ad) "SmallHarbour" b_Hb_levels 2 (some .boolean) 2 0 [(0, .ref (ad 0)), (1, .int a1)] [] s Q := by
  unfold f_Hb_levels at h
  refine G_aload_n d_Hb_levels_0 rfl 0 rfl ?_
  refine G_callVp (st := []) (As := []) (b := ad 0) d_Hb_levels_1 mi_Hb_isTideFixed w_391 0 rfl rfl mv_Hb_isTideFixed rfl (Nat.le_of_ble_eq_true rfl) (by decide) (c_Hb_isTideFixed  s (Ok_bind h)) (fun v1 h hnv1 => ?_)
  refine G_if_ne (tgt := 22) d_Hb_levels_4 (by decide) (fun c => ?_) (fun c => ?_)
  · replace h := Ok_f c h
    refine G_iconst d_Hb_levels_22 lt_iconst_0 ?_
    replace h := Ok_some h
    exact G_iret rfl rfl d_Hb_levels_23 (hR _ _ h)
  replace h := Ok_t c h
  refine G_aload_n d_Hb_levels_7 rfl 0 rfl ?_
  refine gx_Hb_tide d_Hb_levels_8 w_347 ?_
  refine G_iload_n d_Hb_levels_11 rfl 1 rfl ?_
  refine G_callVi (st := []) (As := [.int a1]) (b := ad 1) d_Hb_levels_12 mi_Tide_restart w_399 1 rfl rfl mv_Tide_restart rfl (Nat.le_of_ble_eq_true rfl) (by decide) (c_Tide_restart a1 s (Ok_bd2 h)) (fun v2 s3 h hnv2 => ?_)
  refine G_if_eq (tgt := 22) d_Hb_levels_15 (by decide) (fun c => ?_) (fun c => ?_)
  · replace h := Ok_t c h
    refine G_iconst d_Hb_levels_22 lt_iconst_0 ?_
    replace h := Ok_some h
    exact G_iret rfl rfl d_Hb_levels_23 (hR _ _ h)
  replace h := Ok_f c h
  refine G_iconst d_Hb_levels_18 lt_iconst_1 ?_
  refine G_goto (tgt := 23) d_Hb_levels_19 (by decide) ?_
  replace h := Ok_some h
  exact G_iret rfl rfl d_Hb_levels_23 (hR _ _ h)
theorem c_Hb_levels {l : Launch} {D : va_G} {cI cZ cJ : ClassId} {ad : Nat → Nat} (a1 : Int32) (s : MS) {P : Int32 → MS → Prop} (h : Ok2 (f_Hb_levels a1 s) P) : Ct (XX l D cI cZ cJ ad) y_Hb_levels b_Hb_levels 2 (some .boolean) 2 [.ref (ad 0), .int a1] s (P) :=
  Ct.of mi_Hb_levels (Nat.le_of_ble_eq_true rfl) (f_Hb_levels_w a1 s (Post := fun q => P q.1 q.2) (fun _ _ h => h) (Ok2_ok h))
-- Hb_lies
noncomputable def f_Hb_lies (a1 a2 : Int32) (s : MS) : Option Int32 :=
  (f_Berths_has a1 s).bind fun v1 => if v1 = 0 then (some (-1 : Int32)) else ((f_Hb_isDay a2).bind fun v2 => if v2 = 0 then (some (-1 : Int32)) else ((f_Hb_isOwnerThere a1 a2 (a2 + (1 : Int32)) s).bind fun v3 => if v3 = 0 then ((f_Stays_atBerth a1 a2 (a2 + (1 : Int32)) s).bind fun v4 => if v4 = (-1 : Int32) then (some (-1 : Int32)) else (chk (inb v4 40) (bnd (s.2 14 v4.toNatClampNeg) fun v5 => some v5))) else (chk (inb a1 10) (bnd (s.2 6 a1.toNatClampNeg) fun v6 => some v6))))
theorem f_Hb_lies_w {l : Launch} {D : va_G} {cI cZ cJ : ClassId} {ad : Nat → Nat} (a1 a2 : Int32) (s : MS) {Q : Int32 → MS → Prop} {Post : Int32 → Prop} (hR : ∀ (r9 : Int32), Post (r9) → Q r9 s) (h : Ok (f_Hb_lies a1 a2 s) Post) : G (XX l D cI cZ cJ ad) "SmallHarbour" b_Hb_lies 4 (some .int) 3 0 [(0, .ref (ad 0)), (1, .int a1), (2, .int a2)] [] s Q := by
  unfold f_Hb_lies at h
  refine G_aload_n d_Hb_lies_0 rfl 0 rfl ?_
  refine gx_Hb_berths d_Hb_lies_1 w_348 ?_
  refine G_iload_n d_Hb_lies_4 rfl 1 rfl ?_
  refine G_callVp (st := []) (As := [.int a1]) (b := ad 2) d_Hb_lies_5 mi_Berths_has w_438 2 rfl rfl mv_Berths_has rfl (Nat.le_of_ble_eq_true rfl) (by decide) (c_Berths_has a1 s (Ok_bind h)) (fun v1 h hnv1 => ?_)
  refine G_if_eq (tgt := 18) d_Hb_lies_8 (by decide) (fun c => ?_) (fun c => ?_)
  · replace h := Ok_t c h
    refine G_iconst d_Hb_lies_18 lt_iconst_m1 ?_
    replace h := Ok_some h
    exact G_iret rfl (vp_nar_int _) d_Hb_lies_19 (hR _ h)
  replace h := Ok_f c h
  refine G_iload_n d_Hb_lies_11 rfl 2 rfl ?_
  refine G_callSp (st := []) (As := [.int a2]) d_Hb_lies_12 mi_Hb_isDay w_473 w_474 rfl (Nat.le_of_ble_eq_true rfl) (by decide) (c_Hb_isDay a2 s (Ok_bind h)) (fun v2 h hnv2 => ?_)
  refine G_if_ne (tgt := 20) d_Hb_lies_15 (by decide) (fun c => ?_) (fun c => ?_)
  · replace h := Ok_f c h
    refine G_aload_n d_Hb_lies_20 rfl 0 rfl ?_
    refine G_iload_n d_Hb_lies_21 rfl 1 rfl ?_
    refine G_iload_n d_Hb_lies_22 rfl 2 rfl ?_
    refine G_iload_n d_Hb_lies_23 rfl 2 rfl ?_
    refine G_iconst d_Hb_lies_24 lt_iconst_1 ?_
    refine G_iadd d_Hb_lies_25 ?_
    refine G_callVp (st := []) (As := [.int a1, .int a2, .int (a2 + (1 : Int32))]) (b := ad 0) d_Hb_lies_26 mi_Hb_isOwnerThere w_496 0 rfl rfl mv_Hb_isOwnerThere rfl (Nat.le_of_ble_eq_true rfl) (by decide) (c_Hb_isOwnerThere a1 a2 (a2 + (1 : Int32)) s (Ok_bind h)) (fun v3 h hnv3 => ?_)
    refine G_if_eq (tgt := 42) d_Hb_lies_29 (by decide) (fun c => ?_) (fun c => ?_)
    · replace h := Ok_t c h
      refine G_aload_n d_Hb_lies_42 rfl 0 rfl ?_
      refine gx_Hb_stays d_Hb_lies_43 w_351 ?_
      refine G_iload_n d_Hb_lies_46 rfl 1 rfl ?_
      refine G_iload_n d_Hb_lies_47 rfl 2 rfl ?_
      refine G_iload_n d_Hb_lies_48 rfl 2 rfl ?_
      refine G_iconst d_Hb_lies_49 lt_iconst_1 ?_
      refine G_iadd d_Hb_lies_50 ?_
      refine G_callVp (st := []) (As := [.int a1, .int a2, .int (a2 + (1 : Int32))]) (b := ad 5) d_Hb_lies_51 mi_Stays_atBerth w_442 5 rfl rfl mv_Stays_atBerth rfl (Nat.le_of_ble_eq_true rfl) (by decide) (c_Stays_atBerth a1 a2 (a2 + (1 : Int32)) s (Ok_bind h)) (fun v4 h hnv4 => ?_)
      refine G_istore_n d_Hb_lies_54 rfl (Nat.le_of_ble_eq_true rfl) (fun x => [(3, .int x), (0, .ref (ad 0)), (1, .int a1), (2, .int a2)]) (fun _ => rfl) (fun x e => ?_)
      subst e
      refine G_iload_n d_Hb_lies_55 rfl 0 rfl ?_
      refine G_iconst d_Hb_lies_56 lt_iconst_m1 ?_
      refine G_icmp_ne (tgt := 64) d_Hb_lies_57 (by decide) (fun c => ?_) (fun c => ?_)
      · replace h := Ok_f c h
        refine G_aload_n d_Hb_lies_64 rfl 1 rfl ?_
        refine gx_Hb_stays d_Hb_lies_65 w_351 ?_
        refine gx_Stays_boat d_Hb_lies_68 w_116 ?_
        refine G_iload_n d_Hb_lies_71 rfl 0 rfl ?_
        refine lx_14 d_Hb_lies_72 (Ok_ld h).1 (fun v5 e => ?_)
        replace h := (Ok_ld h).2 v5 e
        clear e
        replace h := Ok_some h
        exact G_iret rfl (vp_nar_int _) d_Hb_lies_73 (hR _ h)
      replace h := Ok_t c h
      refine G_iconst d_Hb_lies_60 lt_iconst_m1 ?_
      refine G_goto (tgt := 73) d_Hb_lies_61 (by decide) ?_
      replace h := Ok_some h
      exact G_iret rfl (vp_nar_int _) d_Hb_lies_73 (hR _ h)
    replace h := Ok_f c h
    refine G_aload_n d_Hb_lies_32 rfl 0 rfl ?_
    refine gx_Hb_berths d_Hb_lies_33 w_348 ?_
    refine gx_Berths_holder d_Hb_lies_36 w_48 ?_
    refine G_iload_n d_Hb_lies_39 rfl 1 rfl ?_
    refine lx_6 d_Hb_lies_40 (Ok_ld h).1 (fun v6 e => ?_)
    replace h := (Ok_ld h).2 v6 e
    clear e
    replace h := Ok_some h
    exact G_iret rfl (vp_nar_int _) d_Hb_lies_41 (hR _ h)
  replace h := Ok_t c h
  refine G_iconst d_Hb_lies_18 lt_iconst_m1 ?_
  replace h := Ok_some h
  exact G_iret rfl (vp_nar_int _) d_Hb_lies_19 (hR _ h)
theorem c_Hb_lies {l : Launch} {D : va_G} {cI cZ cJ : ClassId} {ad : Nat → Nat} (a1 a2 : Int32) (s : MS) {P : Int32 → Prop} (h : Ok (f_Hb_lies a1 a2 s) P) : Ct (XX l D cI cZ cJ ad) y_Hb_lies b_Hb_lies 4 (some .int) 3 [.ref (ad 0), .int a1, .int a2] s (fun r9 s9 => s9 = s ∧ P r9) :=
  Ct.of mi_Hb_lies (Nat.le_of_ble_eq_true rfl) (f_Hb_lies_w a1 a2 s (fun _ h => ⟨rfl, h⟩) h)
-- Hoist_add
noncomputable def f_Hoist_add (a1 a2 a3 : Int32) (s : MS) : Option (Int32 × MS) :=
  if (s.1 10) < (40 : Int32) then (chk (inb (s.1 10) 40) (bnd (pa s 28 (s.1 10).toNatClampNeg a1) fun s1 => chk (inb (s1.1 10) 40) (bnd (pa s1 29 (s1.1 10).toNatClampNeg a2) fun s2 => chk (inb (s2.1 10) 40) (bnd (pa s2 30 (s2.1 10).toNatClampNeg a3) fun s3 => bnd (pf s3 10 ((s3.1 10) + (1 : Int32))) fun s4 => some ((s3.1 10), s4))))) else (some ((-1 : Int32), s))
theorem f_Hoist_add_w {l : Launch} {D : va_G} {cI cZ cJ : ClassId} {ad : Nat → Nat} (a1 a2 a3 : Int32) (s : MS) {Q : Int32 → MS → Prop} {Post : (Int32 × MS) → Prop} (hR : ∀ (r9 : Int32) (s9 : MS), Post ((r9, s9)) → Q r9 s9) (h : Ok (f_Hoist_add a1 a2 a3 s) Post) : G (XX l D cI cZ cJ ad) "SmallHarbour$Hoist" b_Hoist_add 4 (some .int) 0 0 [(0, .ref (ad 7)), (1, .int a1), (2, .int a2), (3, .int a3)] [] s Q := by
  unfold f_Hoist_add at h
  refine G_aload_n d_Hoist_add_0 rfl 0 rfl ?_
  refine gx_Hoist_count d_Hoist_add_1 w_193 ?_
  refine G_bipush d_Hoist_add_4 lt_bipush_40 ?_
  refine G_icmp_lt (tgt := 11) d_Hoist_add_6 (by decide) (fun c => ?_) (fun c => ?_)
  · replace h := Ok_t c h
    refine G_aload_n d_Hoist_add_11 rfl 0 rfl ?_
    refine gx_Hoist_weight d_Hoist_add_12 w_198 ?_
    refine G_aload_n d_Hoist_add_15 rfl 0 rfl ?_
    refine gx_Hoist_count d_Hoist_add_16 w_193 ?_
    refine G_iload_n d_Hoist_add_19 rfl 1 rfl ?_
    refine sx_28 d_Hoist_add_20 (Ok_ld h).1 (fun s1 e => ?_)
    replace h := (Ok_ld h).2 s1 e
    clear e
    refine G_aload_n d_Hoist_add_21 rfl 0 rfl ?_
    refine gx_Hoist_earliest d_Hoist_add_22 w_199 ?_
    refine G_aload_n d_Hoist_add_25 rfl 0 rfl ?_
    refine gx_Hoist_count d_Hoist_add_26 w_193 ?_
    refine G_iload_n d_Hoist_add_29 rfl 2 rfl ?_
    refine sx_29 d_Hoist_add_30 (Ok_ld h).1 (fun s2 e => ?_)
    replace h := (Ok_ld h).2 s2 e
    clear e
    refine G_aload_n d_Hoist_add_31 rfl 0 rfl ?_
    refine gx_Hoist_minutes d_Hoist_add_32 w_200 ?_
    refine G_aload_n d_Hoist_add_35 rfl 0 rfl ?_
    refine gx_Hoist_count d_Hoist_add_36 w_193 ?_
    refine G_iload_n d_Hoist_add_39 rfl 3 rfl ?_
    refine sx_30 d_Hoist_add_40 (Ok_ld h).1 (fun s3 e => ?_)
    replace h := (Ok_ld h).2 s3 e
    clear e
    refine G_aload_n d_Hoist_add_41 rfl 0 rfl ?_
    refine G_dup d_Hoist_add_42 rfl ?_
    refine gx_Hoist_count d_Hoist_add_43 w_193 ?_
    refine G_dup_x1 d_Hoist_add_46 rfl rfl ?_
    refine G_iconst d_Hoist_add_47 lt_iconst_1 ?_
    refine G_iadd d_Hoist_add_48 ?_
    refine px_Hoist_count d_Hoist_add_49 w_193 (fun s4 e => ?_)
    replace h := Ok_bnd h s4 e
    clear e
    replace h := Ok_some h
    exact G_iret rfl (vp_nar_int _) d_Hoist_add_52 (hR _ _ h)
  replace h := Ok_f c h
  refine G_iconst d_Hoist_add_9 lt_iconst_m1 ?_
  replace h := Ok_some h
  exact G_iret rfl (vp_nar_int _) d_Hoist_add_10 (hR _ _ h)
theorem c_Hoist_add {l : Launch} {D : va_G} {cI cZ cJ : ClassId} {ad : Nat → Nat} (a1 a2 a3 : Int32) (s : MS) {P : Int32 → MS → Prop} (h : Ok2 (f_Hoist_add a1 a2 a3 s) P) : Ct (XX l D cI cZ cJ ad) y_Hoist_add b_Hoist_add 4 (some .int) 0 [.ref (ad 7), .int a1, .int a2, .int a3] s (P) :=
  Ct.of mi_Hoist_add (Nat.le_of_ble_eq_true rfl) (f_Hoist_add_w a1 a2 a3 s (Post := fun q => P q.1 q.2) (fun _ _ h => h) (Ok2_ok h))
-- Hb_lift
noncomputable def f_Hb_lift (a1 a2 a3 : Int32) (s : MS) : Option (Int32 × MS) :=
  (f_Boats_has a1 s).bind fun v1 => if v1 = 0 then (some ((-1 : Int32), s)) else ((f_Hb_isDay a2).bind fun v2 => if v2 = 0 then (some ((-1 : Int32), s)) else ((f_Hb_isWithin a3 (1 : Int32) (600 : Int32)).bind fun v3 => if v3 = 0 then (some ((-1 : Int32), s)) else (chk (inb a1 30) (bnd (s.2 9 a1.toNatClampNeg) fun v4 => bd2 (f_Hoist_add v4 a2 a3 s) fun v5 s6 => some (v5, s6)))))
theorem f_Hb_lift_w {l : Launch} {D : va_G} {cI cZ cJ : ClassId} {ad : Nat → Nat} (a1 a2 a3 : Int32) (s : MS) {Q : Int32 → MS → Prop} {Post : (Int32 × MS) → Prop} (hR : ∀ (r9 : Int32) (s9 : MS), Post ((r9, s9)) → Q r9 s9) (h : Ok (f_Hb_lift a1 a2 a3 s) Post) : G (XX l D cI cZ cJ ad) "SmallHarbour" b_Hb_lift 4 (some .int) 1 0 [(0, .ref (ad 0)), (1, .int a1), (2, .int a2), (3, .int a3)] [] s Q := by
  unfold f_Hb_lift at h
  refine G_aload_n d_Hb_lift_0 rfl 0 rfl ?_
  refine gx_Hb_boats d_Hb_lift_1 w_349 ?_
  refine G_iload_n d_Hb_lift_4 rfl 1 rfl ?_
  refine G_callVp (st := []) (As := [.int a1]) (b := ad 3) d_Hb_lift_5 mi_Boats_has w_465 3 rfl rfl mv_Boats_has rfl (Nat.le_of_ble_eq_true rfl) (by decide) (c_Boats_has a1 s (Ok_bind h)) (fun v1 h hnv1 => ?_)
  refine G_if_eq (tgt := 29) d_Hb_lift_8 (by decide) (fun c => ?_) (fun c => ?_)
  · replace h := Ok_t c h
    refine G_iconst d_Hb_lift_29 lt_iconst_m1 ?_
    replace h := Ok_some h
    exact G_iret rfl (vp_nar_int _) d_Hb_lift_30 (hR _ _ h)
  replace h := Ok_f c h
  refine G_iload_n d_Hb_lift_11 rfl 2 rfl ?_
  refine G_callSp (st := []) (As := [.int a2]) d_Hb_lift_12 mi_Hb_isDay w_473 w_474 rfl (Nat.le_of_ble_eq_true rfl) (by decide) (c_Hb_isDay a2 s (Ok_bind h)) (fun v2 h hnv2 => ?_)
  refine G_if_eq (tgt := 29) d_Hb_lift_15 (by decide) (fun c => ?_) (fun c => ?_)
  · replace h := Ok_t c h
    refine G_iconst d_Hb_lift_29 lt_iconst_m1 ?_
    replace h := Ok_some h
    exact G_iret rfl (vp_nar_int _) d_Hb_lift_30 (hR _ _ h)
  replace h := Ok_f c h
  refine G_iload_n d_Hb_lift_18 rfl 3 rfl ?_
  refine G_iconst d_Hb_lift_19 lt_iconst_1 ?_
  refine G_sipush d_Hb_lift_20 lt_sipush_600 ?_
  refine G_callSp (st := []) (As := [.int a3, .int (1 : Int32), .int (600 : Int32)]) d_Hb_lift_23 mi_Hb_isWithin w_429 w_423 rfl (Nat.le_of_ble_eq_true rfl) (by decide) (c_Hb_isWithin a3 (1 : Int32) (600 : Int32) s (Ok_bind h)) (fun v3 h hnv3 => ?_)
  refine G_if_ne (tgt := 31) d_Hb_lift_26 (by decide) (fun c => ?_) (fun c => ?_)
  · replace h := Ok_f c h
    refine G_aload_n d_Hb_lift_31 rfl 0 rfl ?_
    refine gx_Hb_crane d_Hb_lift_32 w_353 ?_
    refine G_aload_n d_Hb_lift_35 rfl 0 rfl ?_
    refine gx_Hb_boats d_Hb_lift_36 w_349 ?_
    refine gx_Boats_weight d_Hb_lift_39 w_71 ?_
    refine G_iload_n d_Hb_lift_42 rfl 1 rfl ?_
    refine lx_9 d_Hb_lift_43 (Ok_ld h).1 (fun v4 e => ?_)
    replace h := (Ok_ld h).2 v4 e
    clear e
    refine G_iload_n d_Hb_lift_44 rfl 2 rfl ?_
    refine G_iload_n d_Hb_lift_45 rfl 3 rfl ?_
    refine G_callVi (st := []) (As := [.int v4, .int a2, .int a3]) (b := ad 7) d_Hb_lift_46 mi_Hoist_add w_656 7 rfl rfl mv_Hoist_add rfl (Nat.le_of_ble_eq_true rfl) (by decide) (c_Hoist_add v4 a2 a3 s (Ok_bd2 h)) (fun v5 s6 h hnv5 => ?_)
    replace h := Ok_some h
    exact G_iret rfl (vp_nar_int _) d_Hb_lift_49 (hR _ _ h)
  replace h := Ok_t c h
  refine G_iconst d_Hb_lift_29 lt_iconst_m1 ?_
  replace h := Ok_some h
  exact G_iret rfl (vp_nar_int _) d_Hb_lift_30 (hR _ _ h)
theorem c_Hb_lift {l : Launch} {D : va_G} {cI cZ cJ : ClassId} {ad : Nat → Nat} (a1 a2 a3 : Int32) (s : MS) {P : Int32 → MS → Prop} (h : Ok2 (f_Hb_lift a1 a2 a3 s) P) : Ct (XX l D cI cZ cJ ad) y_Hb_lift b_Hb_lift 4 (some .int) 1 [.ref (ad 0), .int a1, .int a2, .int a3] s (P) :=
  Ct.of mi_Hb_lift (Nat.le_of_ble_eq_true rfl) (f_Hb_lift_w a1 a2 a3 s (Post := fun q => P q.1 q.2) (fun _ _ h => h) (Ok2_ok h))
-- Hoist_firstDay
noncomputable def Hoist_firstDay_j63 (x1 x2 x3 x5 t0 t1 : Int32) (s : MS) : Option ((Int32) ⊕ Int32) :=
  bnd (t1 - t0) fun v1 => chk (inb x1 40) (bnd (s.2 30 x1.toNatClampNeg) fun v2 => if v1 < v2 then (bnd (x5 + (1 : Int32)) fun v3 => some (.inl v3)) else (chk (inb x5 400) (bnd (s.2 27 x5.toNatClampNeg) fun v4 => if v4 = 0 then ((f_Tide_on x5 s).bind fun v6 => if v6 < (s.1 11) then (bnd (x5 + (1 : Int32)) fun v7 => some (.inl v7)) else (xit (some x5))) else (bnd (x5 + (1 : Int32)) fun v5 => some (.inl v5)))))
theorem Hoist_firstDay_j63_w {l : Launch} {D : va_G} {cI cZ cJ : ClassId} {ad : Nat → Nat} (x1 x2 x3 x5 t0 t1 : Int32) (s : MS) {Q : Int32 → MS → Prop} {Post : ((Int32) ⊕ Int32) → Prop} (hR : ∀ (r9 : Int32), Post (.inr (r9)) → Q r9 s) (hL40 : ∀ (z5 : Int32) , Post (.inl z5) → G (XX l D cI cZ cJ ad) "SmallHarbour$Hoist" b_Hoist_firstDay 7 (some .int) 1 40 [(0, .ref (ad 7)), (1, .int x1), (2, .int x2), (3, .int x3), (4, .ref (ad 1)), (5, .int z5)] [] s Q) (h : Ok (Hoist_firstDay_j63 x1 x2 x3 x5 t0 t1 s) Post) : G (XX l D cI cZ cJ ad) "SmallHarbour$Hoist" b_Hoist_firstDay 7 (some .int) 1 63 [(0, .ref (ad 7)), (1, .int x1), (2, .int x2), (3, .int x3), (4, .ref (ad 1)), (5, .int x5)] [.int t0, .int t1] s Q := by
  unfold Hoist_firstDay_j63 at h
  refine G_isub d_Hoist_firstDay_63 ?_
  refine G_istore d_Hoist_firstDay_64 (Nat.le_of_ble_eq_true rfl) (fun x => [(6, .int x), (0, .ref (ad 7)), (1, .int x1), (2, .int x2), (3, .int x3), (4, .ref (ad 1)), (5, .int x5)]) (fun _ => rfl) (fun v1 e => ?_)
  replace h := Ok_bnd h v1 e.symm
  clear e
  refine G_aload_n d_Hoist_firstDay_66 rfl 1 rfl ?_
  refine gx_Hoist_minutes d_Hoist_firstDay_67 w_200 ?_
  refine G_iload_n d_Hoist_firstDay_70 rfl 2 rfl ?_
  refine lx_30 d_Hoist_firstDay_71 (Ok_ld h).1 (fun v2 e => ?_)
  replace h := (Ok_ld h).2 v2 e
  clear e
  refine G_iload d_Hoist_firstDay_72 0 rfl ?_
  refine G_icmp_gt (tgt := 104) d_Hoist_firstDay_74 (by decide) (fun c => ?_) (fun c => ?_)
  · replace h := Ok_t c h
    refine G_iinc d_Hoist_firstDay_104 6 rfl lt_iconst_1 rfl (Nat.le_of_ble_eq_true rfl) (fun x => [(5, .int x), (6, .int v1), (0, .ref (ad 7)), (1, .int x1), (2, .int x2), (3, .int x3), (4, .ref (ad 1))]) (fun _ => rfl) (fun v3 e => ?_)
    replace h := Ok_bnd h v3 e
    clear e
    refine G_goto (tgt := 40) d_Hoist_firstDay_107 (by decide) ?_
    refine G_lv [2, 3, 4, 5, 6, 0] rfl ?_
    replace h := Ok_some h
    exact hL40 v3 h
  replace h := Ok_f c h
  refine G_aload_n d_Hoist_firstDay_77 rfl 1 rfl ?_
  refine gx_Hoist_isBroken d_Hoist_firstDay_78 w_191 ?_
  refine G_iload d_Hoist_firstDay_81 6 rfl ?_
  refine lx_27 d_Hoist_firstDay_83 (Ok_ld h).1 (fun v4 e => ?_)
  replace h := (Ok_ld h).2 v4 e
  clear e
  refine G_if_ne (tgt := 104) d_Hoist_firstDay_84 (by decide) (fun c => ?_) (fun c => ?_)
  · replace h := Ok_f c h
    refine G_iinc d_Hoist_firstDay_104 6 rfl lt_iconst_1 rfl (Nat.le_of_ble_eq_true rfl) (fun x => [(5, .int x), (6, .int v1), (0, .ref (ad 7)), (1, .int x1), (2, .int x2), (3, .int x3), (4, .ref (ad 1))]) (fun _ => rfl) (fun v5 e => ?_)
    replace h := Ok_bnd h v5 e
    clear e
    refine G_goto (tgt := 40) d_Hoist_firstDay_107 (by decide) ?_
    refine G_lv [2, 3, 4, 5, 6, 0] rfl ?_
    replace h := Ok_some h
    exact hL40 v5 h
  replace h := Ok_t c h
  refine G_aload d_Hoist_firstDay_87 5 rfl ?_
  refine G_iload d_Hoist_firstDay_89 6 rfl ?_
  refine G_callVp (st := []) (As := [.int x5]) (b := ad 1) d_Hoist_firstDay_91 mi_Tide_on w_673 1 rfl rfl mv_Tide_on rfl (Nat.le_of_ble_eq_true rfl) (by decide) (c_Tide_on x5 s (Ok_bind h)) (fun v6 h hnv6 => ?_)
  refine G_aload_n d_Hoist_firstDay_94 rfl 1 rfl ?_
  refine gx_Hoist_leastLevel d_Hoist_firstDay_95 w_195 ?_
  refine G_icmp_lt (tgt := 104) d_Hoist_firstDay_98 (by decide) (fun c => ?_) (fun c => ?_)
  · replace h := Ok_t c h
    refine G_iinc d_Hoist_firstDay_104 6 rfl lt_iconst_1 rfl (Nat.le_of_ble_eq_true rfl) (fun x => [(5, .int x), (6, .int v1), (0, .ref (ad 7)), (1, .int x1), (2, .int x2), (3, .int x3), (4, .ref (ad 1))]) (fun _ => rfl) (fun v7 e => ?_)
    replace h := Ok_bnd h v7 e
    clear e
    refine G_goto (tgt := 40) d_Hoist_firstDay_107 (by decide) ?_
    refine G_lv [2, 3, 4, 5, 6, 0] rfl ?_
    replace h := Ok_some h
    exact hL40 v7 h
  replace h := Ok_f c h
  replace h := Ok_xit h
  refine G_iload d_Hoist_firstDay_101 6 rfl ?_
  replace h := Ok_some h
  exact G_iret rfl (vp_nar_int _) d_Hoist_firstDay_103 (hR _ h)
noncomputable def Hoist_firstDay_l40 (x1 x2 x3 : Int32) (s : MS) (x5 : Int32) : Option ((Int32) ⊕ Int32) :=
  if (400 : Int32) ≤ x5 then (xit (some (-1 : Int32))) else (if x5 = x2 then (Hoist_firstDay_j63 x1 x2 x3 x5 x3 (s.1 13) s) else (Hoist_firstDay_j63 x1 x2 x3 x5 (0 : Int32) (s.1 13) s))
theorem Hoist_firstDay_l40_w {l : Launch} {D : va_G} {cI cZ cJ : ClassId} {ad : Nat → Nat} (x1 x2 x3 x5 : Int32) (s : MS) {Q : Int32 → MS → Prop} {Post : ((Int32) ⊕ Int32) → Prop} (hR : ∀ (r9 : Int32), Post (.inr (r9)) → Q r9 s) (hL40 : ∀ (z5 : Int32) , Post (.inl z5) → G (XX l D cI cZ cJ ad) "SmallHarbour$Hoist" b_Hoist_firstDay 7 (some .int) 1 40 [(0, .ref (ad 7)), (1, .int x1), (2, .int x2), (3, .int x3), (4, .ref (ad 1)), (5, .int z5)] [] s Q) (h : Ok (Hoist_firstDay_l40 x1 x2 x3 s x5) Post) : G (XX l D cI cZ cJ ad) "SmallHarbour$Hoist" b_Hoist_firstDay 7 (some .int) 1 40 [(0, .ref (ad 7)), (1, .int x1), (2, .int x2), (3, .int x3), (4, .ref (ad 1)), (5, .int x5)] [] s Q := by
  unfold Hoist_firstDay_l40 at h
  refine G_iload d_Hoist_firstDay_40 5 rfl ?_
  refine G_sipush d_Hoist_firstDay_42 lt_sipush_400 ?_
  refine G_icmp_ge (tgt := 110) d_Hoist_firstDay_45 (by decide) (fun c => ?_) (fun c => ?_)
  · replace h := Ok_t c h
    replace h := Ok_xit h
    refine G_iconst d_Hoist_firstDay_110 lt_iconst_m1 ?_
    replace h := Ok_some h
    exact G_iret rfl (vp_nar_int _) d_Hoist_firstDay_111 (hR _ h)
  replace h := Ok_f c h
  refine G_aload_n d_Hoist_firstDay_48 rfl 0 rfl ?_
  refine gx_Hoist_minutesOfDay d_Hoist_firstDay_49 w_197 ?_
  refine G_iload d_Hoist_firstDay_52 5 rfl ?_
  refine G_iload_n d_Hoist_firstDay_54 rfl 2 rfl ?_
  refine G_icmp_ne (tgt := 62) d_Hoist_firstDay_55 (by decide) (fun c => ?_) (fun c => ?_)
  · replace h := Ok_f c h
    refine G_iconst d_Hoist_firstDay_62 lt_iconst_0 ?_
    refine Hoist_firstDay_j63_w x1 x2 x3 x5 (0 : Int32) (s.1 13) s ?_ ?_ h
    · exact hR
    · exact hL40
  replace h := Ok_t c h
  refine G_iload_n d_Hoist_firstDay_58 rfl 3 rfl ?_
  refine G_goto (tgt := 63) d_Hoist_firstDay_59 (by decide) ?_
  refine Hoist_firstDay_j63_w x1 x2 x3 x5 x3 (s.1 13) s ?_ ?_ h
  · exact hR
  · exact hL40
noncomputable def f_Hoist_firstDay (a1 a2 a3 : Int32) (s : MS) : Option Int32 :=
  chk (inb a1 40) (bnd (s.2 28 a1.toNatClampNeg) fun v1 => if (s.1 12) < v1 then (some (-1 : Int32)) else (chk (inb a1 40) (bnd (s.2 30 a1.toNatClampNeg) fun v2 => if v2 ≤ (s.1 13) then (chk (inb a1 40) (bnd (s.2 29 a1.toNatClampNeg) fun v3 => bnd (if v3 < a2 then a2 else v3) fun v4 => loop (fun z => Hoist_firstDay_l40 a1 a2 a3 s z) v4)) else (some (-1 : Int32)))))
theorem f_Hoist_firstDay_w {l : Launch} {D : va_G} {cI cZ cJ : ClassId} {ad : Nat → Nat} (a1 a2 a3 : Int32) (s : MS) {Q : Int32 → MS → Prop} {Post : Int32 → Prop} (hR : ∀ (r9 : Int32), Post (r9) → Q r9 s) (h : Ok (f_Hoist_firstDay a1 a2 a3 s) Post) : G (XX l D cI cZ cJ ad) "SmallHarbour$Hoist" b_Hoist_firstDay 7 (some .int) 1 0 [(0, .ref (ad 7)), (1, .int a1), (2, .int a2), (3, .int a3), (4, .ref (ad 1))] [] s Q := by
  unfold f_Hoist_firstDay at h
  refine G_aload_n d_Hoist_firstDay_0 rfl 0 rfl ?_
  refine gx_Hoist_weight d_Hoist_firstDay_1 w_198 ?_
  refine G_iload_n d_Hoist_firstDay_4 rfl 1 rfl ?_
  refine lx_28 d_Hoist_firstDay_5 (Ok_ld h).1 (fun v1 e => ?_)
  replace h := (Ok_ld h).2 v1 e
  clear e
  refine G_aload_n d_Hoist_firstDay_6 rfl 0 rfl ?_
  refine gx_Hoist_mostWeight d_Hoist_firstDay_7 w_196 ?_
  refine G_icmp_gt (tgt := 26) d_Hoist_firstDay_10 (by decide) (fun c => ?_) (fun c => ?_)
  · replace h := Ok_t c h
    refine G_iconst d_Hoist_firstDay_26 lt_iconst_m1 ?_
    replace h := Ok_some h
    exact G_iret rfl (vp_nar_int _) d_Hoist_firstDay_27 (hR _ h)
  replace h := Ok_f c h
  refine G_aload_n d_Hoist_firstDay_13 rfl 0 rfl ?_
  refine gx_Hoist_minutes d_Hoist_firstDay_14 w_200 ?_
  refine G_iload_n d_Hoist_firstDay_17 rfl 1 rfl ?_
  refine lx_30 d_Hoist_firstDay_18 (Ok_ld h).1 (fun v2 e => ?_)
  replace h := (Ok_ld h).2 v2 e
  clear e
  refine G_aload_n d_Hoist_firstDay_19 rfl 0 rfl ?_
  refine gx_Hoist_minutesOfDay d_Hoist_firstDay_20 w_197 ?_
  refine G_icmp_le (tgt := 28) d_Hoist_firstDay_23 (by decide) (fun c => ?_) (fun c => ?_)
  · replace h := Ok_t c h
    refine G_aload_n d_Hoist_firstDay_28 rfl 0 rfl ?_
    refine gx_Hoist_earliest d_Hoist_firstDay_29 w_199 ?_
    refine G_iload_n d_Hoist_firstDay_32 rfl 1 rfl ?_
    refine lx_29 d_Hoist_firstDay_33 (Ok_ld h).1 (fun v3 e => ?_)
    replace h := (Ok_ld h).2 v3 e
    clear e
    refine G_iload_n d_Hoist_firstDay_34 rfl 2 rfl ?_
    refine G_max d_Hoist_firstDay_35 w_672 w_506 w_15 w_507 (by decide) (Nat.le_of_ble_eq_true rfl) (G_topi (fun v4 e => ?_))
    replace h := Ok_bnd h v4 e
    clear e
    refine G_istore d_Hoist_firstDay_38 (Nat.le_of_ble_eq_true rfl) (fun x => [(5, .int x), (0, .ref (ad 7)), (1, .int a1), (2, .int a2), (3, .int a3), (4, .ref (ad 1))]) (fun _ => rfl) (fun x e => ?_)
    subst e
    refine G_lv [1, 2, 3, 4, 5, 0] rfl ?_
    refine G_loop (J := (fun z => G (XX l D cI cZ cJ ad) "SmallHarbour$Hoist" b_Hoist_firstDay 7 (some .int) 1 40 [(0, .ref (ad 7)), (1, .int a1), (2, .int a2), (3, .int a3), (4, .ref (ad 1)), (5, .int z)] [] s Q)) (fun z h => ?_) v4 h
    refine Hoist_firstDay_l40_w a1 a2 a3 z s ?_ ?_ h
    · exact hR
    · exact (fun z5 h => h)
  replace h := Ok_f c h
  refine G_iconst d_Hoist_firstDay_26 lt_iconst_m1 ?_
  replace h := Ok_some h
  exact G_iret rfl (vp_nar_int _) d_Hoist_firstDay_27 (hR _ h)
theorem c_Hoist_firstDay {l : Launch} {D : va_G} {cI cZ cJ : ClassId} {ad : Nat → Nat} (a1 a2 a3 : Int32) (s : MS) {P : Int32 → Prop} (h : Ok (f_Hoist_firstDay a1 a2 a3 s) P) : Ct (XX l D cI cZ cJ ad) y_Hoist_firstDay b_Hoist_firstDay 7 (some .int) 1 [.ref (ad 7), .int a1, .int a2, .int a3, .ref (ad 1)] s (fun r9 s9 => s9 = s ∧ P r9) :=
  Ct.of mi_Hoist_firstDay (Nat.le_of_ble_eq_true rfl) (f_Hoist_firstDay_w a1 a2 a3 s (fun _ h => ⟨rfl, h⟩) h)
-- Hoist_dayOf
noncomputable def Hoist_dayOf_l25 (x1 : Int32) (s : MS) (x3 x4 x5 x6 : Int32) : Option ((Int32 × Int32 × Int32 × Int32) ⊕ Int32) :=
  if x1 < x6 then (xit (some x5)) else ((f_Hoist_firstDay x6 x3 x4 s).bind fun v1 => if v1 = (-1 : Int32) then (bnd (x6 + (1 : Int32)) fun v2 => some (.inl (x3, x4, v1, v2))) else (chk (inb x6 40) (bnd (s.2 30 x6.toNatClampNeg) fun v3 => if v1 = x3 then (bnd (v3 + x4) fun v6 => bnd (x6 + (1 : Int32)) fun v7 => some (.inl (v1, v6, v1, v7))) else (bnd (v3 + (0 : Int32)) fun v4 => bnd (x6 + (1 : Int32)) fun v5 => some (.inl (v1, v4, v1, v5))))))
theorem Hoist_dayOf_l25_w {l : Launch} {D : va_G} {cI cZ cJ : ClassId} {ad : Nat → Nat} (x1 x3 x4 x5 x6 : Int32) (s : MS) {Q : Int32 → MS → Prop} {Post : ((Int32 × Int32 × Int32 × Int32) ⊕ Int32) → Prop} (hR : ∀ (r9 : Int32), Post (.inr (r9)) → Q r9 s) (hL25 : ∀ (z3 z4 z5 z6 : Int32) , Post (.inl (z3, z4, z5, z6)) → G (XX l D cI cZ cJ ad) "SmallHarbour$Hoist" b_Hoist_dayOf 7 (some .int) 2 25 [(0, .ref (ad 7)), (1, .int x1), (2, .ref (ad 1)), (3, .int z3), (4, .int z4), (5, .int z5), (6, .int z6)] [] s Q) (h : Ok (Hoist_dayOf_l25 x1 s x3 x4 x5 x6) Post) : G (XX l D cI cZ cJ ad) "SmallHarbour$Hoist" b_Hoist_dayOf 7 (some .int) 2 25 [(0, .ref (ad 7)), (1, .int x1), (2, .ref (ad 1)), (3, .int x3), (4, .int x4), (5, .int x5), (6, .int x6)] [] s Q := by
  unfold Hoist_dayOf_l25 at h
  refine G_iload d_Hoist_dayOf_25 6 rfl ?_
  refine G_iload_n d_Hoist_dayOf_27 rfl 1 rfl ?_
  refine G_icmp_gt (tgt := 80) d_Hoist_dayOf_28 (by decide) (fun c => ?_) (fun c => ?_)
  · replace h := Ok_t c h
    replace h := Ok_xit h
    refine G_iload d_Hoist_dayOf_80 5 rfl ?_
    replace h := Ok_some h
    exact G_iret rfl (vp_nar_int _) d_Hoist_dayOf_82 (hR _ h)
  replace h := Ok_f c h
  refine G_aload_n d_Hoist_dayOf_31 rfl 0 rfl ?_
  refine G_iload d_Hoist_dayOf_32 6 rfl ?_
  refine G_iload_n d_Hoist_dayOf_34 rfl 3 rfl ?_
  refine G_iload d_Hoist_dayOf_35 4 rfl ?_
  refine G_aload_n d_Hoist_dayOf_37 rfl 2 rfl ?_
  refine G_callVp (st := []) (As := [.int x6, .int x3, .int x4, .ref (ad 1)]) (b := ad 7) d_Hoist_dayOf_38 mi_Hoist_firstDay w_668 7 rfl rfl mv_Hoist_firstDay rfl (Nat.le_of_ble_eq_true rfl) (by decide) (c_Hoist_firstDay x6 x3 x4 s (Ok_bind h)) (fun v1 h hnv1 => ?_)
  refine G_istore d_Hoist_dayOf_41 (Nat.le_of_ble_eq_true rfl) (fun x => [(5, .int x), (0, .ref (ad 7)), (1, .int x1), (2, .ref (ad 1)), (3, .int x3), (4, .int x4), (6, .int x6)]) (fun _ => rfl) (fun x e => ?_)
  subst e
  refine G_iload d_Hoist_dayOf_43 0 rfl ?_
  refine G_iconst d_Hoist_dayOf_45 lt_iconst_m1 ?_
  refine G_icmp_eq (tgt := 74) d_Hoist_dayOf_46 (by decide) (fun c => ?_) (fun c => ?_)
  · replace h := Ok_t c h
    refine G_iinc d_Hoist_dayOf_74 6 rfl lt_iconst_1 rfl (Nat.le_of_ble_eq_true rfl) (fun x => [(6, .int x), (5, .int v1), (0, .ref (ad 7)), (1, .int x1), (2, .ref (ad 1)), (3, .int x3), (4, .int x4)]) (fun _ => rfl) (fun v2 e => ?_)
    replace h := Ok_bnd h v2 e
    clear e
    refine G_goto (tgt := 25) d_Hoist_dayOf_77 (by decide) ?_
    refine G_lv [2, 3, 4, 5, 6, 1, 0] rfl ?_
    replace h := Ok_some h
    exact hL25 x3 x4 v1 v2 h
  replace h := Ok_f c h
  refine G_aload_n d_Hoist_dayOf_49 rfl 1 rfl ?_
  refine gx_Hoist_minutes d_Hoist_dayOf_50 w_200 ?_
  refine G_iload d_Hoist_dayOf_53 6 rfl ?_
  refine lx_30 d_Hoist_dayOf_55 (Ok_ld h).1 (fun v3 e => ?_)
  replace h := (Ok_ld h).2 v3 e
  clear e
  refine G_iload d_Hoist_dayOf_56 0 rfl ?_
  refine G_iload_n d_Hoist_dayOf_58 rfl 4 rfl ?_
  refine G_icmp_ne (tgt := 67) d_Hoist_dayOf_59 (by decide) (fun c => ?_) (fun c => ?_)
  · replace h := Ok_f c h
    refine G_iconst d_Hoist_dayOf_67 lt_iconst_0 ?_
    refine G_iadd d_Hoist_dayOf_68 ?_
    refine G_istore d_Hoist_dayOf_69 (Nat.le_of_ble_eq_true rfl) (fun x => [(4, .int x), (5, .int v1), (0, .ref (ad 7)), (1, .int x1), (2, .ref (ad 1)), (3, .int x3), (6, .int x6)]) (fun _ => rfl) (fun v4 e => ?_)
    replace h := Ok_bnd h v4 e.symm
    clear e
    refine G_iload d_Hoist_dayOf_71 1 rfl ?_
    refine G_istore_n d_Hoist_dayOf_73 rfl (Nat.le_of_ble_eq_true rfl) (fun x => [(3, .int x), (4, .int v4), (5, .int v1), (0, .ref (ad 7)), (1, .int x1), (2, .ref (ad 1)), (6, .int x6)]) (fun _ => rfl) (fun x e => ?_)
    subst e
    refine G_iinc d_Hoist_dayOf_74 6 rfl lt_iconst_1 rfl (Nat.le_of_ble_eq_true rfl) (fun x => [(6, .int x), (3, .int v1), (4, .int v4), (5, .int v1), (0, .ref (ad 7)), (1, .int x1), (2, .ref (ad 1))]) (fun _ => rfl) (fun v5 e => ?_)
    replace h := Ok_bnd h v5 e
    clear e
    refine G_goto (tgt := 25) d_Hoist_dayOf_77 (by decide) ?_
    refine G_lv [4, 5, 6, 1, 2, 3, 0] rfl ?_
    replace h := Ok_some h
    exact hL25 v1 v4 v1 v5 h
  replace h := Ok_t c h
  refine G_iload d_Hoist_dayOf_62 5 rfl ?_
  refine G_goto (tgt := 68) d_Hoist_dayOf_64 (by decide) ?_
  refine G_iadd d_Hoist_dayOf_68 ?_
  refine G_istore d_Hoist_dayOf_69 (Nat.le_of_ble_eq_true rfl) (fun x => [(4, .int x), (5, .int v1), (0, .ref (ad 7)), (1, .int x1), (2, .ref (ad 1)), (3, .int x3), (6, .int x6)]) (fun _ => rfl) (fun v6 e => ?_)
  replace h := Ok_bnd h v6 e.symm
  clear e
  refine G_iload d_Hoist_dayOf_71 1 rfl ?_
  refine G_istore_n d_Hoist_dayOf_73 rfl (Nat.le_of_ble_eq_true rfl) (fun x => [(3, .int x), (4, .int v6), (5, .int v1), (0, .ref (ad 7)), (1, .int x1), (2, .ref (ad 1)), (6, .int x6)]) (fun _ => rfl) (fun x e => ?_)
  subst e
  refine G_iinc d_Hoist_dayOf_74 6 rfl lt_iconst_1 rfl (Nat.le_of_ble_eq_true rfl) (fun x => [(6, .int x), (3, .int v1), (4, .int v6), (5, .int v1), (0, .ref (ad 7)), (1, .int x1), (2, .ref (ad 1))]) (fun _ => rfl) (fun v7 e => ?_)
  replace h := Ok_bnd h v7 e
  clear e
  refine G_goto (tgt := 25) d_Hoist_dayOf_77 (by decide) ?_
  refine G_lv [4, 5, 6, 1, 2, 3, 0] rfl ?_
  replace h := Ok_some h
  exact hL25 v1 v6 v1 v7 h
noncomputable def f_Hoist_dayOf (a1 : Int32) (s : MS) : Option Int32 :=
  if a1 < 0 then (some (-1 : Int32)) else (if a1 < (s.1 10) then (loop (fun z => Hoist_dayOf_l25 a1 s z.1 z.2.1 z.2.2.1 z.2.2.2) ((0 : Int32), (0 : Int32), (-1 : Int32), (0 : Int32))) else (some (-1 : Int32)))
theorem f_Hoist_dayOf_w {l : Launch} {D : va_G} {cI cZ cJ : ClassId} {ad : Nat → Nat} (a1 : Int32) (s : MS) {Q : Int32 → MS → Prop} {Post : Int32 → Prop} (hR : ∀ (r9 : Int32), Post (r9) → Q r9 s) (h : Ok (f_Hoist_dayOf a1 s) Post) : G (XX l D cI cZ cJ ad) "SmallHarbour$Hoist" b_Hoist_dayOf 7 (some .int) 2 0 [(0, .ref (ad 7)), (1, .int a1), (2, .ref (ad 1))] [] s Q := by
  unfold f_Hoist_dayOf at h
  refine G_iload_n d_Hoist_dayOf_0 rfl 1 rfl ?_
  refine G_if_lt (tgt := 12) d_Hoist_dayOf_1 (by decide) (fun c => ?_) (fun c => ?_)
  · replace h := Ok_t c h
    refine G_iconst d_Hoist_dayOf_12 lt_iconst_m1 ?_
    replace h := Ok_some h
    exact G_iret rfl (vp_nar_int _) d_Hoist_dayOf_13 (hR _ h)
  replace h := Ok_f c h
  refine G_iload_n d_Hoist_dayOf_4 rfl 1 rfl ?_
  refine G_aload_n d_Hoist_dayOf_5 rfl 0 rfl ?_
  refine gx_Hoist_count d_Hoist_dayOf_6 w_193 ?_
  refine G_icmp_lt (tgt := 14) d_Hoist_dayOf_9 (by decide) (fun c => ?_) (fun c => ?_)
  · replace h := Ok_t c h
    refine G_iconst d_Hoist_dayOf_14 lt_iconst_0 ?_
    refine G_istore_n d_Hoist_dayOf_15 rfl (Nat.le_of_ble_eq_true rfl) (fun x => [(3, .int x), (0, .ref (ad 7)), (1, .int a1), (2, .ref (ad 1))]) (fun _ => rfl) (fun x e => ?_)
    subst e
    refine G_iconst d_Hoist_dayOf_16 lt_iconst_0 ?_
    refine G_istore d_Hoist_dayOf_17 (Nat.le_of_ble_eq_true rfl) (fun x => [(4, .int x), (3, .int (0 : Int32)), (0, .ref (ad 7)), (1, .int a1), (2, .ref (ad 1))]) (fun _ => rfl) (fun x e => ?_)
    subst e
    refine G_iconst d_Hoist_dayOf_19 lt_iconst_m1 ?_
    refine G_istore d_Hoist_dayOf_20 (Nat.le_of_ble_eq_true rfl) (fun x => [(5, .int x), (4, .int (0 : Int32)), (3, .int (0 : Int32)), (0, .ref (ad 7)), (1, .int a1), (2, .ref (ad 1))]) (fun _ => rfl) (fun x e => ?_)
    subst e
    refine G_iconst d_Hoist_dayOf_22 lt_iconst_0 ?_
    refine G_istore d_Hoist_dayOf_23 (Nat.le_of_ble_eq_true rfl) (fun x => [(6, .int x), (5, .int (-1 : Int32)), (4, .int (0 : Int32)), (3, .int (0 : Int32)), (0, .ref (ad 7)), (1, .int a1), (2, .ref (ad 1))]) (fun _ => rfl) (fun x e => ?_)
    subst e
    refine G_lv [4, 5, 6, 3, 2, 1, 0] rfl ?_
    refine G_loop (J := (fun z => G (XX l D cI cZ cJ ad) "SmallHarbour$Hoist" b_Hoist_dayOf 7 (some .int) 2 25 [(0, .ref (ad 7)), (1, .int a1), (2, .ref (ad 1)), (3, .int (z.1)), (4, .int (z.2.1)), (5, .int (z.2.2.1)), (6, .int (z.2.2.2))] [] s Q)) (fun z h => ?_) ((0 : Int32), (0 : Int32), (-1 : Int32), (0 : Int32)) h
    refine Hoist_dayOf_l25_w a1 z.1 z.2.1 z.2.2.1 z.2.2.2 s ?_ ?_ h
    · exact hR
    · exact (fun z3 z4 z5 z6 h => h)
  replace h := Ok_f c h
  refine G_iconst d_Hoist_dayOf_12 lt_iconst_m1 ?_
  replace h := Ok_some h
  exact G_iret rfl (vp_nar_int _) d_Hoist_dayOf_13 (hR _ h)
theorem c_Hoist_dayOf {l : Launch} {D : va_G} {cI cZ cJ : ClassId} {ad : Nat → Nat} (a1 : Int32) (s : MS) {P : Int32 → Prop} (h : Ok (f_Hoist_dayOf a1 s) P) : Ct (XX l D cI cZ cJ ad) y_Hoist_dayOf b_Hoist_dayOf 7 (some .int) 2 [.ref (ad 7), .int a1, .ref (ad 1)] s (fun r9 s9 => s9 = s ∧ P r9) :=
  Ct.of mi_Hoist_dayOf (Nat.le_of_ble_eq_true rfl) (f_Hoist_dayOf_w a1 s (fun _ h => ⟨rfl, h⟩) h)
-- Hb_lifted
noncomputable def f_Hb_lifted (a1 : Int32) (s : MS) : Option Int32 :=
  (f_Hoist_dayOf a1 s).bind fun v1 => some v1
theorem f_Hb_lifted_w {l : Launch} {D : va_G} {cI cZ cJ : ClassId} {ad : Nat → Nat} (a1 : Int32) (s : MS) {Q : Int32 → MS → Prop} {Post : Int32 → Prop} (hR : ∀ (r9 : Int32), Post (r9) → Q r9 s) (h : Ok (f_Hb_lifted a1 s) Post) : G (XX l D cI cZ cJ ad) "SmallHarbour" b_Hb_lifted 2 (some .int) 3 0 [(0, .ref (ad 0)), (1, .int a1)] [] s Q := by
  unfold f_Hb_lifted at h
  refine G_aload_n d_Hb_lifted_0 rfl 0 rfl ?_
  refine gx_Hb_crane d_Hb_lifted_1 w_353 ?_
  refine G_iload_n d_Hb_lifted_4 rfl 1 rfl ?_
  refine G_aload_n d_Hb_lifted_5 rfl 0 rfl ?_
  refine gx_Hb_tide d_Hb_lifted_6 w_347 ?_
  refine G_callVp (st := []) (As := [.int a1, .ref (ad 1)]) (b := ad 7) d_Hb_lifted_9 mi_Hoist_dayOf w_664 7 rfl rfl mv_Hoist_dayOf rfl (Nat.le_of_ble_eq_true rfl) (by decide) (c_Hoist_dayOf a1 s (Ok_bind h)) (fun v1 h hnv1 => ?_)
  replace h := Ok_some h
  exact G_iret rfl (vp_nar_int _) d_Hb_lifted_12 (hR _ h)
theorem c_Hb_lifted {l : Launch} {D : va_G} {cI cZ cJ : ClassId} {ad : Nat → Nat} (a1 : Int32) (s : MS) {P : Int32 → Prop} (h : Ok (f_Hb_lifted a1 s) P) : Ct (XX l D cI cZ cJ ad) y_Hb_lifted b_Hb_lifted 2 (some .int) 3 [.ref (ad 0), .int a1] s (fun r9 s9 => s9 = s ∧ P r9) :=
  Ct.of mi_Hb_lifted (Nat.le_of_ble_eq_true rfl) (f_Hb_lifted_w a1 s (fun _ h => ⟨rfl, h⟩) h)
-- Hb_moved
noncomputable def f_Hb_moved (a1 a2 : Int32) (s : MS) : Option Int32 :=
  if a1 < 0 then (some (-1 : Int32)) else (if (s.1 0) ≤ a1 then (some (-1 : Int32)) else (if a2 < 0 then (some (-1 : Int32)) else (if a2 < (3 : Int32) then (bnd a2 fun v1 => if v1 = (0 : Int32) then (chk (inb a1 12) (bnd (s.2 0 a1.toNatClampNeg) fun v2 => some v2)) else (if v1 = (1 : Int32) then (chk (inb a1 12) (bnd (s.2 1 a1.toNatClampNeg) fun v3 => some v3)) else (if v1 = (2 : Int32) then (chk (inb a1 12) (bnd (s.2 2 a1.toNatClampNeg) fun v4 => some v4)) else (none)))) else (some (-1 : Int32)))))
theorem f_Hb_moved_w {l : Launch} {D : va_G} {cI cZ cJ : ClassId} {ad : Nat → Nat} (a1 a2 : Int32) (s : MS) {Q : Int32 → MS → Prop} {Post : Int32 → Prop} (hR : ∀ (r9 : Int32), Post (r9) → Q r9 s) (h : Ok (f_Hb_moved a1 a2 s) Post) : G (XX l D cI cZ cJ ad) "SmallHarbour" b_Hb_moved 3 (some .int) 0 0 [(0, .ref (ad 0)), (1, .int a1), (2, .int a2)] [] s Q := by
  unfold f_Hb_moved at h
  refine G_iload_n d_Hb_moved_0 rfl 1 rfl ?_
  refine G_if_lt (tgt := 21) d_Hb_moved_1 (by decide) (fun c => ?_) (fun c => ?_)
  · replace h := Ok_t c h
    refine G_iconst d_Hb_moved_21 lt_iconst_m1 ?_
    replace h := Ok_some h
    exact G_iret rfl (vp_nar_int _) d_Hb_moved_22 (hR _ h)
  replace h := Ok_f c h
  refine G_iload_n d_Hb_moved_4 rfl 1 rfl ?_
  refine G_aload_n d_Hb_moved_5 rfl 0 rfl ?_
  refine gx_Hb_keptCount d_Hb_moved_6 w_359 ?_
  refine G_icmp_ge (tgt := 21) d_Hb_moved_9 (by decide) (fun c => ?_) (fun c => ?_)
  · replace h := Ok_t c h
    refine G_iconst d_Hb_moved_21 lt_iconst_m1 ?_
    replace h := Ok_some h
    exact G_iret rfl (vp_nar_int _) d_Hb_moved_22 (hR _ h)
  replace h := Ok_f c h
  refine G_iload_n d_Hb_moved_12 rfl 2 rfl ?_
  refine G_if_lt (tgt := 21) d_Hb_moved_13 (by decide) (fun c => ?_) (fun c => ?_)
  · replace h := Ok_t c h
    refine G_iconst d_Hb_moved_21 lt_iconst_m1 ?_
    replace h := Ok_some h
    exact G_iret rfl (vp_nar_int _) d_Hb_moved_22 (hR _ h)
  replace h := Ok_f c h
  refine G_iload_n d_Hb_moved_16 rfl 2 rfl ?_
  refine G_iconst d_Hb_moved_17 lt_iconst_3 ?_
  refine G_icmp_lt (tgt := 23) d_Hb_moved_18 (by decide) (fun c => ?_) (fun c => ?_)
  · replace h := Ok_t c h
    refine G_aload_n d_Hb_moved_23 rfl 0 rfl ?_
    refine gx_Hb_kept d_Hb_moved_24 w_358 ?_
    refine G_iload_n d_Hb_moved_27 rfl 2 rfl ?_
    refine G_topi (fun v1 e => ?_)
    replace h := Ok_bnd h v1 e
    clear e
    by_cases c0 : v1 = (0 : Int32)
    · replace h := Ok_t c0 h
      refine G_aald d_Hb_moved_28 12 2 rfl rfl (by rw [c0]; decide) (b := ad 13) (by rw [c0]; rfl) ?_
      refine G_iload_n d_Hb_moved_29 rfl 1 rfl ?_
      refine lx_0 d_Hb_moved_30 (Ok_ld h).1 (fun v2 e => ?_)
      replace h := (Ok_ld h).2 v2 e
      clear e
      replace h := Ok_some h
      exact G_iret rfl (vp_nar_int _) d_Hb_moved_31 (hR _ h)
    replace h := Ok_f c0 h
    by_cases c1 : v1 = (1 : Int32)
    · replace h := Ok_t c1 h
      refine G_aald d_Hb_moved_28 12 2 rfl rfl (by rw [c1]; decide) (b := ad 14) (by rw [c1]; rfl) ?_
      refine G_iload_n d_Hb_moved_29 rfl 1 rfl ?_
      refine lx_1 d_Hb_moved_30 (Ok_ld h).1 (fun v3 e => ?_)
      replace h := (Ok_ld h).2 v3 e
      clear e
      replace h := Ok_some h
      exact G_iret rfl (vp_nar_int _) d_Hb_moved_31 (hR _ h)
    replace h := Ok_f c1 h
    by_cases c2 : v1 = (2 : Int32)
    · replace h := Ok_t c2 h
      refine G_aald d_Hb_moved_28 12 2 rfl rfl (by rw [c2]; decide) (b := ad 15) (by rw [c2]; rfl) ?_
      refine G_iload_n d_Hb_moved_29 rfl 1 rfl ?_
      refine lx_2 d_Hb_moved_30 (Ok_ld h).1 (fun v4 e => ?_)
      replace h := (Ok_ld h).2 v4 e
      clear e
      replace h := Ok_some h
      exact G_iret rfl (vp_nar_int _) d_Hb_moved_31 (hR _ h)
    replace h := Ok_f c2 h
    exact Ok_none h
  replace h := Ok_f c h
  refine G_iconst d_Hb_moved_21 lt_iconst_m1 ?_
  replace h := Ok_some h
  exact G_iret rfl (vp_nar_int _) d_Hb_moved_22 (hR _ h)
theorem c_Hb_moved {l : Launch} {D : va_G} {cI cZ cJ : ClassId} {ad : Nat → Nat} (a1 a2 : Int32) (s : MS) {P : Int32 → Prop} (h : Ok (f_Hb_moved a1 a2 s) P) : Ct (XX l D cI cZ cJ ad) y_Hb_moved b_Hb_moved 3 (some .int) 0 [.ref (ad 0), .int a1, .int a2] s (fun r9 s9 => s9 = s ∧ P r9) :=
  Ct.of mi_Hb_moved (Nat.le_of_ble_eq_true rfl) (f_Hb_moved_w a1 a2 s (fun _ h => ⟨rfl, h⟩) h)
-- Hb_moves
noncomputable def f_Hb_moves (s : MS) : Option Int32 :=
  (f_Shed_isFilled s).bind fun v1 => if v1 = 0 then (some (-1 : Int32)) else (some (s.1 15))
theorem f_Hb_moves_w {l : Launch} {D : va_G} {cI cZ cJ : ClassId} {ad : Nat → Nat} (s : MS) {Q : Int32 → MS → Prop} {Post : Int32 → Prop} (hR : ∀ (r9 : Int32), Post (r9) → Q r9 s) (h : Ok (f_Hb_moves s) Post) : G (XX l D cI cZ cJ ad) "SmallHarbour" b_Hb_moves 1 (some .int) 1 0 [(0, .ref (ad 0))] [] s Q := by
  unfold f_Hb_moves at h
  refine G_aload_n d_Hb_moves_0 rfl 0 rfl ?_
  refine gx_Hb_barn d_Hb_moves_1 w_354 ?_
  refine G_callVp (st := []) (As := []) (b := ad 8) d_Hb_moves_4 mi_Shed_isFilled w_709 8 rfl rfl mv_Shed_isFilled rfl (Nat.le_of_ble_eq_true rfl) (by decide) (c_Shed_isFilled  s (Ok_bind h)) (fun v1 h hnv1 => ?_)
  refine G_if_eq (tgt := 20) d_Hb_moves_7 (by decide) (fun c => ?_) (fun c => ?_)
  · replace h := Ok_t c h
    refine G_iconst d_Hb_moves_20 lt_iconst_m1 ?_
    replace h := Ok_some h
    exact G_iret rfl (vp_nar_int _) d_Hb_moves_21 (hR _ h)
  replace h := Ok_f c h
  refine G_aload_n d_Hb_moves_10 rfl 0 rfl ?_
  refine gx_Hb_barn d_Hb_moves_11 w_354 ?_
  refine gx_Shed_fewest d_Hb_moves_14 w_228 ?_
  refine G_goto (tgt := 21) d_Hb_moves_17 (by decide) ?_
  replace h := Ok_some h
  exact G_iret rfl (vp_nar_int _) d_Hb_moves_21 (hR _ h)
theorem c_Hb_moves {l : Launch} {D : va_G} {cI cZ cJ : ClassId} {ad : Nat → Nat} (s : MS) {P : Int32 → Prop} (h : Ok (f_Hb_moves  s) P) : Ct (XX l D cI cZ cJ ad) y_Hb_moves b_Hb_moves 1 (some .int) 1 [.ref (ad 0)] s (fun r9 s9 => s9 = s ∧ P r9) :=
  Ct.of mi_Hb_moves (Nat.le_of_ble_eq_true rfl) (f_Hb_moves_w  s (fun _ h => ⟨rfl, h⟩) h)
-- Hb_owes
noncomputable def Hb_owes_l4 (x1 : Int32) (x2 x3 : Int32) (s : MS) : Option ((Int32 × Int32 × MS) ⊕ (Int32 × MS)) :=
  if (s.1 5) ≤ x3 then (xit (some (x2, s))) else (chk (inb x3 40) (bnd (s.2 14 x3.toNatClampNeg) fun v1 => if v1 = x1 then (bd2 (f_Hb_billOf x3 s) fun v3 s4 => bnd (x2 + v3) fun v5 => bnd (x3 + (1 : Int32)) fun v6 => some (.inl (v5, v6, s4))) else (bnd (x3 + (1 : Int32)) fun v2 => some (.inl (x2, v2, s)))))
theorem Hb_owes_l4_w {l : Launch} {D : va_G} {cI cZ cJ : ClassId} {ad : Nat → Nat} (x1 x2 x3 : Int32) (s : MS) {Q : Int32 → MS → Prop} {Post : ((Int32 × Int32 × MS) ⊕ (Int32 × MS)) → Prop} (hR : ∀ (r9 : Int32) (s9 : MS), Post (.inr ((r9, s9))) → Q r9 s9) (hL4 : ∀ (z2 z3 : Int32) (s9 : MS), Post (.inl (z2, z3, s9)) → G (XX l D cI cZ cJ ad) "SmallHarbour" b_Hb_owes 4 (some .int) 4 4 [(0, .ref (ad 0)), (1, .int x1), (2, .int z2), (3, .int z3)] [] s9 Q) (h : Ok (Hb_owes_l4 x1 x2 x3 s) Post) : G (XX l D cI cZ cJ ad) "SmallHarbour" b_Hb_owes 4 (some .int) 4 4 [(0, .ref (ad 0)), (1, .int x1), (2, .int x2), (3, .int x3)] [] s Q := by
  unfold Hb_owes_l4 at h
  refine G_iload_n d_Hb_owes_4 rfl 3 rfl ?_
  refine G_aload_n d_Hb_owes_5 rfl 0 rfl ?_
  refine gx_Hb_stays d_Hb_owes_6 w_351 ?_
  refine gx_Stays_count d_Hb_owes_9 w_124 ?_
  refine G_icmp_ge (tgt := 42) d_Hb_owes_12 (by decide) (fun c => ?_) (fun c => ?_)
  · replace h := Ok_t c h
    replace h := Ok_xit h
    refine G_iload_n d_Hb_owes_42 rfl 2 rfl ?_
    replace h := Ok_some h
    exact G_iret rfl (vp_nar_int _) d_Hb_owes_43 (hR _ _ h)
  replace h := Ok_f c h
  refine G_aload_n d_Hb_owes_15 rfl 0 rfl ?_
  refine gx_Hb_stays d_Hb_owes_16 w_351 ?_
  refine gx_Stays_boat d_Hb_owes_19 w_116 ?_
  refine G_iload_n d_Hb_owes_22 rfl 3 rfl ?_
  refine lx_14 d_Hb_owes_23 (Ok_ld h).1 (fun v1 e => ?_)
  replace h := (Ok_ld h).2 v1 e
  clear e
  refine G_iload_n d_Hb_owes_24 rfl 1 rfl ?_
  refine G_icmp_ne (tgt := 36) d_Hb_owes_25 (by decide) (fun c => ?_) (fun c => ?_)
  · replace h := Ok_f c h
    refine G_iinc d_Hb_owes_36 3 rfl lt_iconst_1 rfl (Nat.le_of_ble_eq_true rfl) (fun x => [(3, .int x), (0, .ref (ad 0)), (1, .int x1), (2, .int x2)]) (fun _ => rfl) (fun v2 e => ?_)
    replace h := Ok_bnd h v2 e
    clear e
    refine G_goto (tgt := 4) d_Hb_owes_39 (by decide) ?_
    refine G_lv [1, 2, 3, 0] rfl ?_
    replace h := Ok_some h
    exact hL4 x2 v2 s h
  replace h := Ok_t c h
  refine G_iload_n d_Hb_owes_28 rfl 2 rfl ?_
  refine G_aload_n d_Hb_owes_29 rfl 0 rfl ?_
  refine G_iload_n d_Hb_owes_30 rfl 3 rfl ?_
  refine G_callVi (st := [.int x2]) (As := [.int x3]) (b := ad 0) d_Hb_owes_31 mi_Hb_billOf w_612 0 rfl rfl mv_Hb_billOf rfl (Nat.le_of_ble_eq_true rfl) (by decide) (c_Hb_billOf x3 s (Ok_bd2 h)) (fun v3 s4 h hnv3 => ?_)
  refine G_iadd d_Hb_owes_34 ?_
  refine G_istore_n d_Hb_owes_35 rfl (Nat.le_of_ble_eq_true rfl) (fun x => [(2, .int x), (0, .ref (ad 0)), (1, .int x1), (3, .int x3)]) (fun _ => rfl) (fun v5 e => ?_)
  replace h := Ok_bnd h v5 e.symm
  clear e
  refine G_iinc d_Hb_owes_36 3 rfl lt_iconst_1 rfl (Nat.le_of_ble_eq_true rfl) (fun x => [(3, .int x), (2, .int v5), (0, .ref (ad 0)), (1, .int x1)]) (fun _ => rfl) (fun v6 e => ?_)
  replace h := Ok_bnd h v6 e
  clear e
  refine G_goto (tgt := 4) d_Hb_owes_39 (by decide) ?_
  refine G_lv [2, 3, 1, 0] rfl ?_
  replace h := Ok_some h
  exact hL4 v5 v6 s4 h
noncomputable def f_Hb_owes (a1 : Int32) (s : MS) : Option (Int32 × MS) :=
  loop (fun z => Hb_owes_l4 a1 z.1 z.2.1 z.2.2) ((0 : Int32), (0 : Int32), s)
theorem f_Hb_owes_w {l : Launch} {D : va_G} {cI cZ cJ : ClassId} {ad : Nat → Nat} (a1 : Int32) (s : MS) {Q : Int32 → MS → Prop} {Post : (Int32 × MS) → Prop} (hR : ∀ (r9 : Int32) (s9 : MS), Post ((r9, s9)) → Q r9 s9) (h : Ok (f_Hb_owes a1 s) Post) : G (XX l D cI cZ cJ ad) "SmallHarbour" b_Hb_owes 4 (some .int) 4 0 [(0, .ref (ad 0)), (1, .int a1)] [] s Q := by
  unfold f_Hb_owes at h
  refine G_iconst d_Hb_owes_0 lt_iconst_0 ?_
  refine G_istore_n d_Hb_owes_1 rfl (Nat.le_of_ble_eq_true rfl) (fun x => [(2, .int x), (0, .ref (ad 0)), (1, .int a1)]) (fun _ => rfl) (fun x e => ?_)
  subst e
  refine G_iconst d_Hb_owes_2 lt_iconst_0 ?_
  refine G_istore_n d_Hb_owes_3 rfl (Nat.le_of_ble_eq_true rfl) (fun x => [(3, .int x), (2, .int (0 : Int32)), (0, .ref (ad 0)), (1, .int a1)]) (fun _ => rfl) (fun x e => ?_)
  subst e
  refine G_lv [2, 3, 1, 0] rfl ?_
  refine G_loop (J := (fun z => G (XX l D cI cZ cJ ad) "SmallHarbour" b_Hb_owes 4 (some .int) 4 4 [(0, .ref (ad 0)), (1, .int a1), (2, .int (z.1)), (3, .int (z.2.1))] [] z.2.2 Q)) (fun z h => ?_) ((0 : Int32), (0 : Int32), s) h
  refine Hb_owes_l4_w a1 z.1 z.2.1 z.2.2 ?_ ?_ h
  · exact hR
  · exact (fun z2 z3 s9 h => h)
theorem c_Hb_owes {l : Launch} {D : va_G} {cI cZ cJ : ClassId} {ad : Nat → Nat} (a1 : Int32) (s : MS) {P : Int32 → MS → Prop} (h : Ok2 (f_Hb_owes a1 s) P) : Ct (XX l D cI cZ cJ ad) y_Hb_owes b_Hb_owes 4 (some .int) 4 [.ref (ad 0), .int a1] s (P) :=
  Ct.of mi_Hb_owes (Nat.le_of_ble_eq_true rfl) (f_Hb_owes_w a1 s (Post := fun q => P q.1 q.2) (fun _ _ h => h) (Ok2_ok h))
-- Reader_isDigit
noncomputable def f_Reader_isDigit (a1 : Int32) : Option Int32 :=
  if a1 < (48 : Int32) then (some (0 : Int32)) else (if (57 : Int32) < a1 then (some (0 : Int32)) else (some (1 : Int32)))
theorem f_Reader_isDigit_w {l : Launch} {D : va_G} {cI cZ cJ : ClassId} {ad : Nat → Nat} (a1 : Int32) (s : MS) {Q : Int32 → MS → Prop} {Post : Int32 → Prop} (hR : ∀ (r9 : Int32), Post (r9) → Q r9 s) (h : Ok (f_Reader_isDigit a1) Post) : G (XX l D cI cZ cJ ad) "SmallHarbour$Reader" b_Reader_isDigit 1 (some .boolean) 0 0 [(0, .int a1)] [] s Q := by
  unfold f_Reader_isDigit at h
  refine G_iload_n d_Reader_isDigit_0 rfl 0 rfl ?_
  refine G_bipush d_Reader_isDigit_1 lt_bipush_48 ?_
  refine G_icmp_lt (tgt := 16) d_Reader_isDigit_3 (by decide) (fun c => ?_) (fun c => ?_)
  · replace h := Ok_t c h
    refine G_iconst d_Reader_isDigit_16 lt_iconst_0 ?_
    replace h := Ok_some h
    exact G_iret rfl rfl d_Reader_isDigit_17 (hR _ h)
  replace h := Ok_f c h
  refine G_iload_n d_Reader_isDigit_6 rfl 0 rfl ?_
  refine G_bipush d_Reader_isDigit_7 lt_bipush_57 ?_
  refine G_icmp_gt (tgt := 16) d_Reader_isDigit_9 (by decide) (fun c => ?_) (fun c => ?_)
  · replace h := Ok_t c h
    refine G_iconst d_Reader_isDigit_16 lt_iconst_0 ?_
    replace h := Ok_some h
    exact G_iret rfl rfl d_Reader_isDigit_17 (hR _ h)
  replace h := Ok_f c h
  refine G_iconst d_Reader_isDigit_12 lt_iconst_1 ?_
  refine G_goto (tgt := 17) d_Reader_isDigit_13 (by decide) ?_
  replace h := Ok_some h
  exact G_iret rfl rfl d_Reader_isDigit_17 (hR _ h)
theorem c_Reader_isDigit {l : Launch} {D : va_G} {cI cZ cJ : ClassId} {ad : Nat → Nat} (a1 : Int32) (s : MS) {P : Int32 → Prop} (h : Ok (f_Reader_isDigit a1) P) : Ct (XX l D cI cZ cJ ad) y_Reader_isDigit b_Reader_isDigit 1 (some .boolean) 0 [.int a1] s (fun r9 s9 => s9 = s ∧ P r9) :=
  Ct.of mi_Reader_isDigit (Nat.le_of_ble_eq_true rfl) (f_Reader_isDigit_w a1 s (fun _ h => ⟨rfl, h⟩) h)
-- Reader_comeToNumber
noncomputable def Reader_comeToNumber_l11 (s : MS) : Option ((MS) ⊕ MS) :=
  if (s.1 18) ≤ (s.1 23) then (xit (some s)) else (chk (inb (s.1 23) 200) (bnd (s.2 37 (s.1 23).toNatClampNeg) fun v1 => (f_Reader_isDigit v1).bind fun v2 => if v2 = 0 then (xit (some s)) else (chk (inb (s.1 23) 200) (bnd (s.2 37 (s.1 23).toNatClampNeg) fun v3 => bnd (if (100000 : Int32) < ((((s.1 25) * (10 : Int32)) + v3) - (48 : Int32)) then (100000 : Int32) else ((((s.1 25) * (10 : Int32)) + v3) - (48 : Int32))) fun v4 => bnd (pf s 25 v4) fun s5 => bnd (pf s5 23 ((s5.1 23) + (1 : Int32))) fun s6 => some (.inl s6)))))
theorem Reader_comeToNumber_l11_w {l : Launch} {D : va_G} {cI cZ cJ : ClassId} {ad : Nat → Nat} (s : MS) {Q : Int32 → MS → Prop} {Post : ((MS) ⊕ MS) → Prop} (hR : ∀ (s9 : MS), Post (.inr (s9)) → Q 0 s9) (hL11 : ∀ (s9 : MS), Post (.inl s9) → G (XX l D cI cZ cJ ad) "SmallHarbour$Reader" b_Reader_comeToNumber 1 none 1 11 [(0, .ref (ad 10))] [] s9 Q) (h : Ok (Reader_comeToNumber_l11 s) Post) : G (XX l D cI cZ cJ ad) "SmallHarbour$Reader" b_Reader_comeToNumber 1 none 1 11 [(0, .ref (ad 10))] [] s Q := by
  unfold Reader_comeToNumber_l11 at h
  refine G_aload_n d_Reader_comeToNumber_11 rfl 0 rfl ?_
  refine gx_Reader_next d_Reader_comeToNumber_12 w_291 ?_
  refine G_aload_n d_Reader_comeToNumber_15 rfl 0 rfl ?_
  refine gx_Reader_tape d_Reader_comeToNumber_16 w_289 ?_
  refine gx_Tape_count d_Reader_comeToNumber_19 w_268 ?_
  refine G_icmp_ge (tgt := 88) d_Reader_comeToNumber_22 (by decide) (fun c => ?_) (fun c => ?_)
  · replace h := Ok_t c h
    replace h := Ok_xit h
    replace h := Ok_some h
    exact G_vret rfl d_Reader_comeToNumber_88 (hR _ h)
  replace h := Ok_f c h
  refine G_aload_n d_Reader_comeToNumber_25 rfl 0 rfl ?_
  refine gx_Reader_tape d_Reader_comeToNumber_26 w_289 ?_
  refine gx_Tape_bytes d_Reader_comeToNumber_29 w_266 ?_
  refine G_aload_n d_Reader_comeToNumber_32 rfl 0 rfl ?_
  refine gx_Reader_next d_Reader_comeToNumber_33 w_291 ?_
  refine lx_37 d_Reader_comeToNumber_36 (Ok_ld h).1 (fun v1 e => ?_)
  replace h := (Ok_ld h).2 v1 e
  clear e
  refine G_callSp (st := []) (As := [.int v1]) d_Reader_comeToNumber_37 mi_Reader_isDigit w_741 w_742 rfl (Nat.le_of_ble_eq_true rfl) (by decide) (c_Reader_isDigit v1 s (Ok_bind h)) (fun v2 h hnv2 => ?_)
  refine G_if_eq (tgt := 88) d_Reader_comeToNumber_40 (by decide) (fun c => ?_) (fun c => ?_)
  · replace h := Ok_t c h
    replace h := Ok_xit h
    replace h := Ok_some h
    exact G_vret rfl d_Reader_comeToNumber_88 (hR _ h)
  replace h := Ok_f c h
  refine G_aload_n d_Reader_comeToNumber_43 rfl 0 rfl ?_
  refine G_aload_n d_Reader_comeToNumber_44 rfl 0 rfl ?_
  refine gx_Reader_value d_Reader_comeToNumber_45 w_293 ?_
  refine G_bipush d_Reader_comeToNumber_48 lt_bipush_10 ?_
  refine G_imul d_Reader_comeToNumber_50 ?_
  refine G_aload_n d_Reader_comeToNumber_51 rfl 0 rfl ?_
  refine gx_Reader_tape d_Reader_comeToNumber_52 w_289 ?_
  refine gx_Tape_bytes d_Reader_comeToNumber_55 w_266 ?_
  refine G_aload_n d_Reader_comeToNumber_58 rfl 0 rfl ?_
  refine gx_Reader_next d_Reader_comeToNumber_59 w_291 ?_
  refine lx_37 d_Reader_comeToNumber_62 (Ok_ld h).1 (fun v3 e => ?_)
  replace h := (Ok_ld h).2 v3 e
  clear e
  refine G_iadd d_Reader_comeToNumber_63 ?_
  refine G_bipush d_Reader_comeToNumber_64 lt_bipush_48 ?_
  refine G_isub d_Reader_comeToNumber_66 ?_
  refine G_ldc d_Reader_comeToNumber_67 w_748 ?_
  refine G_min d_Reader_comeToNumber_69 w_749 w_451 w_15 w_452 (by decide) (Nat.le_of_ble_eq_true rfl) (G_topi (fun v4 e => ?_))
  replace h := Ok_bnd h v4 e
  clear e
  refine px_Reader_value d_Reader_comeToNumber_72 w_293 (fun s5 e => ?_)
  replace h := Ok_bnd h s5 e
  clear e
  refine G_aload_n d_Reader_comeToNumber_75 rfl 0 rfl ?_
  refine G_dup d_Reader_comeToNumber_76 rfl ?_
  refine gx_Reader_next d_Reader_comeToNumber_77 w_291 ?_
  refine G_iconst d_Reader_comeToNumber_80 lt_iconst_1 ?_
  refine G_iadd d_Reader_comeToNumber_81 ?_
  refine px_Reader_next d_Reader_comeToNumber_82 w_291 (fun s6 e => ?_)
  replace h := Ok_bnd h s6 e
  clear e
  refine G_goto (tgt := 11) d_Reader_comeToNumber_85 (by decide) ?_
  replace h := Ok_some h
  exact hL11 s6 h
noncomputable def f_Reader_comeToNumber (s : MS) : Option MS :=
  bnd (pf s 24 (48 : Int32)) fun s1 => bnd (pf s1 25 (0 : Int32)) fun s2 => loop (fun z => Reader_comeToNumber_l11 z) s2
theorem f_Reader_comeToNumber_w {l : Launch} {D : va_G} {cI cZ cJ : ClassId} {ad : Nat → Nat} (s : MS) {Q : Int32 → MS → Prop} {Post : MS → Prop} (hR : ∀ (s9 : MS), Post (s9) → Q 0 s9) (h : Ok (f_Reader_comeToNumber s) Post) : G (XX l D cI cZ cJ ad) "SmallHarbour$Reader" b_Reader_comeToNumber 1 none 1 0 [(0, .ref (ad 10))] [] s Q := by
  unfold f_Reader_comeToNumber at h
  refine G_aload_n d_Reader_comeToNumber_0 rfl 0 rfl ?_
  refine G_bipush d_Reader_comeToNumber_1 lt_bipush_48 ?_
  refine px_Reader_kind d_Reader_comeToNumber_3 w_292 (fun s1 e => ?_)
  replace h := Ok_bnd h s1 e
  clear e
  refine G_aload_n d_Reader_comeToNumber_6 rfl 0 rfl ?_
  refine G_iconst d_Reader_comeToNumber_7 lt_iconst_0 ?_
  refine px_Reader_value d_Reader_comeToNumber_8 w_293 (fun s2 e => ?_)
  replace h := Ok_bnd h s2 e
  clear e
  refine G_loop (J := (fun z => G (XX l D cI cZ cJ ad) "SmallHarbour$Reader" b_Reader_comeToNumber 1 none 1 11 [(0, .ref (ad 10))] [] z Q)) (fun z h => ?_) s2 h
  refine Reader_comeToNumber_l11_w z ?_ ?_ h
  · exact hR
  · exact (fun s9 h => h)
theorem c_Reader_comeToNumber {l : Launch} {D : va_G} {cI cZ cJ : ClassId} {ad : Nat → Nat} (s : MS) {P : MS → Prop} (h : Ok (f_Reader_comeToNumber  s) P) : Ct (XX l D cI cZ cJ ad) y_Reader_comeToNumber b_Reader_comeToNumber 1 none 1 [.ref (ad 10)] s (fun _ s9 => P s9) :=
  Ct.of mi_Reader_comeToNumber (Nat.le_of_ble_eq_true rfl) (f_Reader_comeToNumber_w  s (fun _ h => h) h)
-- Reader_isLetter
noncomputable def Reader_isLetter_j12 (x0 : Int32) : Option Int32 :=
  if x0 < (65 : Int32) then (some (0 : Int32)) else (if (90 : Int32) < x0 then (some (0 : Int32)) else (some (1 : Int32)))
theorem Reader_isLetter_j12_w {l : Launch} {D : va_G} {cI cZ cJ : ClassId} {ad : Nat → Nat} (x0 : Int32) (s : MS) {Q : Int32 → MS → Prop} {Post : Int32 → Prop} (hR : ∀ (r9 : Int32), Post (r9) → Q r9 s) (h : Ok (Reader_isLetter_j12 x0) Post) : G (XX l D cI cZ cJ ad) "SmallHarbour$Reader" b_Reader_isLetter 1 (some .boolean) 0 12 [(0, .int x0)] [] s Q := by
  unfold Reader_isLetter_j12 at h
  refine G_iload_n d_Reader_isLetter_12 rfl 0 rfl ?_
  refine G_bipush d_Reader_isLetter_13 lt_bipush_65 ?_
  refine G_icmp_lt (tgt := 28) d_Reader_isLetter_15 (by decide) (fun c => ?_) (fun c => ?_)
  · replace h := Ok_t c h
    refine G_iconst d_Reader_isLetter_28 lt_iconst_0 ?_
    replace h := Ok_some h
    exact G_iret rfl rfl d_Reader_isLetter_29 (hR _ h)
  replace h := Ok_f c h
  refine G_iload_n d_Reader_isLetter_18 rfl 0 rfl ?_
  refine G_bipush d_Reader_isLetter_19 lt_bipush_90 ?_
  refine G_icmp_gt (tgt := 28) d_Reader_isLetter_21 (by decide) (fun c => ?_) (fun c => ?_)
  · replace h := Ok_t c h
    refine G_iconst d_Reader_isLetter_28 lt_iconst_0 ?_
    replace h := Ok_some h
    exact G_iret rfl rfl d_Reader_isLetter_29 (hR _ h)
  replace h := Ok_f c h
  refine G_iconst d_Reader_isLetter_24 lt_iconst_1 ?_
  refine G_goto (tgt := 29) d_Reader_isLetter_25 (by decide) ?_
  replace h := Ok_some h
  exact G_iret rfl rfl d_Reader_isLetter_29 (hR _ h)
noncomputable def f_Reader_isLetter (a1 : Int32) : Option Int32 :=
  if a1 < (97 : Int32) then (Reader_isLetter_j12 a1) else (if a1 ≤ (122 : Int32) then (some (1 : Int32)) else (Reader_isLetter_j12 a1))
theorem f_Reader_isLetter_w {l : Launch} {D : va_G} {cI cZ cJ : ClassId} {ad : Nat → Nat} (a1 : Int32) (s : MS) {Q : Int32 → MS → Prop} {Post : Int32 → Prop} (hR : ∀ (r9 : Int32), Post (r9) → Q r9 s) (h : Ok (f_Reader_isLetter a1) Post) : G (XX l D cI cZ cJ ad) "SmallHarbour$Reader" b_Reader_isLetter 1 (some .boolean) 0 0 [(0, .int a1)] [] s Q := by
  unfold f_Reader_isLetter at h
  refine G_iload_n d_Reader_isLetter_0 rfl 0 rfl ?_
  refine G_bipush d_Reader_isLetter_1 lt_bipush_97 ?_
  refine G_icmp_lt (tgt := 12) d_Reader_isLetter_3 (by decide) (fun c => ?_) (fun c => ?_)
  · replace h := Ok_t c h
    refine Reader_isLetter_j12_w a1 s ?_ h
    · exact hR
  replace h := Ok_f c h
  refine G_iload_n d_Reader_isLetter_6 rfl 0 rfl ?_
  refine G_bipush d_Reader_isLetter_7 lt_bipush_122 ?_
  refine G_icmp_le (tgt := 24) d_Reader_isLetter_9 (by decide) (fun c => ?_) (fun c => ?_)
  · replace h := Ok_t c h
    refine G_iconst d_Reader_isLetter_24 lt_iconst_1 ?_
    refine G_goto (tgt := 29) d_Reader_isLetter_25 (by decide) ?_
    replace h := Ok_some h
    exact G_iret rfl rfl d_Reader_isLetter_29 (hR _ h)
  replace h := Ok_f c h
  refine Reader_isLetter_j12_w a1 s ?_ h
  · exact hR
theorem c_Reader_isLetter {l : Launch} {D : va_G} {cI cZ cJ : ClassId} {ad : Nat → Nat} (a1 : Int32) (s : MS) {P : Int32 → Prop} (h : Ok (f_Reader_isLetter a1) P) : Ct (XX l D cI cZ cJ ad) y_Reader_isLetter b_Reader_isLetter 1 (some .boolean) 0 [.int a1] s (fun r9 s9 => s9 = s ∧ P r9) :=
  Ct.of mi_Reader_isLetter (Nat.le_of_ble_eq_true rfl) (f_Reader_isLetter_w a1 s (fun _ h => ⟨rfl, h⟩) h)
-- Reader_isWord
noncomputable def f_Reader_isWord (a1 : Int32) : Option Int32 :=
  bnd a1 fun v1 => if v1 = (100 : Int32) then (some (1 : Int32)) else (if v1 = (102 : Int32) then (some (1 : Int32)) else (if v1 = (110 : Int32) then (some (1 : Int32)) else (if v1 = (26982 : Int32) then (some (1 : Int32)) else (if v1 = (1701606245 : Int32) then (some (1 : Int32)) else (if v1 = (1952998766 : Int32) then (some (1 : Int32)) else (some (0 : Int32)))))))
theorem f_Reader_isWord_w {l : Launch} {D : va_G} {cI cZ cJ : ClassId} {ad : Nat → Nat} (a1 : Int32) (s : MS) {Q : Int32 → MS → Prop} {Post : Int32 → Prop} (hR : ∀ (r9 : Int32), Post (r9) → Q r9 s) (h : Ok (f_Reader_isWord a1) Post) : G (XX l D cI cZ cJ ad) "SmallHarbour$Reader" b_Reader_isWord 1 (some .boolean) 0 0 [(0, .int a1)] [] s Q := by
  unfold f_Reader_isWord at h
  refine G_iload_n d_Reader_isWord_0 rfl 0 rfl ?_
  refine G_topi (fun v1 e => ?_)
  replace h := Ok_bnd h v1 e
  clear e
  by_cases c0 : v1 = (100 : Int32)
  · replace h := Ok_t c0 h
    refine G_lookup (tgt := 60) d_Reader_isWord_1 (by decide) (by rw [c0]; try decide) (by decide) ?_
    refine G_iconst d_Reader_isWord_60 lt_iconst_1 ?_
    replace h := Ok_some h
    exact G_iret rfl rfl d_Reader_isWord_61 (hR _ h)
  replace h := Ok_f c0 h
  have n0 := ne_ti (z := 100) (by decide) c0
  by_cases c1 : v1 = (102 : Int32)
  · replace h := Ok_t c1 h
    refine G_lookup (tgt := 60) d_Reader_isWord_1 (by decide) (by rw [c1]; try decide) (by decide) ?_
    refine G_iconst d_Reader_isWord_60 lt_iconst_1 ?_
    replace h := Ok_some h
    exact G_iret rfl rfl d_Reader_isWord_61 (hR _ h)
  replace h := Ok_f c1 h
  have n1 := ne_ti (z := 102) (by decide) c1
  by_cases c2 : v1 = (110 : Int32)
  · replace h := Ok_t c2 h
    refine G_lookup (tgt := 60) d_Reader_isWord_1 (by decide) (by rw [c2]; try decide) (by decide) ?_
    refine G_iconst d_Reader_isWord_60 lt_iconst_1 ?_
    replace h := Ok_some h
    exact G_iret rfl rfl d_Reader_isWord_61 (hR _ h)
  replace h := Ok_f c2 h
  have n2 := ne_ti (z := 110) (by decide) c2
  by_cases c3 : v1 = (26982 : Int32)
  · replace h := Ok_t c3 h
    refine G_lookup (tgt := 60) d_Reader_isWord_1 (by decide) (by rw [c3]; try decide) (by decide) ?_
    refine G_iconst d_Reader_isWord_60 lt_iconst_1 ?_
    replace h := Ok_some h
    exact G_iret rfl rfl d_Reader_isWord_61 (hR _ h)
  replace h := Ok_f c3 h
  have n3 := ne_ti (z := 26982) (by decide) c3
  by_cases c4 : v1 = (1701606245 : Int32)
  · replace h := Ok_t c4 h
    refine G_lookup (tgt := 60) d_Reader_isWord_1 (by decide) (by rw [c4]; try decide) (by decide) ?_
    refine G_iconst d_Reader_isWord_60 lt_iconst_1 ?_
    replace h := Ok_some h
    exact G_iret rfl rfl d_Reader_isWord_61 (hR _ h)
  replace h := Ok_f c4 h
  have n4 := ne_ti (z := 1701606245) (by decide) c4
  by_cases c5 : v1 = (1952998766 : Int32)
  · replace h := Ok_t c5 h
    refine G_lookup (tgt := 60) d_Reader_isWord_1 (by decide) (by rw [c5]; try decide) (by decide) ?_
    refine G_iconst d_Reader_isWord_60 lt_iconst_1 ?_
    replace h := Ok_some h
    exact G_iret rfl rfl d_Reader_isWord_61 (hR _ h)
  replace h := Ok_f c5 h
  have n5 := ne_ti (z := 1952998766) (by decide) c5
  refine G_lookup (off := 61) (tgt := 62) d_Reader_isWord_1 (by decide) (by simp [Op.lookupswitch.offset, n0, n1, n2, n3, n4, n5]) (by decide) ?_
  refine G_iconst d_Reader_isWord_62 lt_iconst_0 ?_
  replace h := Ok_some h
  exact G_iret rfl rfl d_Reader_isWord_63 (hR _ h)
theorem c_Reader_isWord {l : Launch} {D : va_G} {cI cZ cJ : ClassId} {ad : Nat → Nat} (a1 : Int32) (s : MS) {P : Int32 → Prop} (h : Ok (f_Reader_isWord a1) P) : Ct (XX l D cI cZ cJ ad) y_Reader_isWord b_Reader_isWord 1 (some .boolean) 0 [.int a1] s (fun r9 s9 => s9 = s ∧ P r9) :=
  Ct.of mi_Reader_isWord (Nat.le_of_ble_eq_true rfl) (f_Reader_isWord_w a1 s (fun _ h => ⟨rfl, h⟩) h)
-- Reader_comeToWord
noncomputable def Reader_comeToWord_j83 (x1 t0 : Int32) (s : MS) : Option MS :=
  if t0 = 0 then (bnd (pf s 24 (1 : Int32)) fun s1 => some s1) else ((f_Reader_isWord x1).bind fun v2 => if v2 = 0 then (bnd (pf s 24 (1 : Int32)) fun s3 => some s3) else (bnd (pf s 24 x1) fun s4 => some s4))
theorem Reader_comeToWord_j83_w {l : Launch} {D : va_G} {cI cZ cJ : ClassId} {ad : Nat → Nat} (x1 t0 : Int32) (s : MS) {Q : Int32 → MS → Prop} {Post : MS → Prop} (hR : ∀ (s9 : MS), Post (s9) → Q 0 s9) (h : Ok (Reader_comeToWord_j83 x1 t0 s) Post) : G (XX l D cI cZ cJ ad) "SmallHarbour$Reader" b_Reader_comeToWord 3 none 1 83 [(0, .ref (ad 10)), (1, .int x1)] [.int t0] s Q := by
  unfold Reader_comeToWord_j83 at h
  refine G_istore_n d_Reader_comeToWord_83 rfl (Nat.le_of_ble_eq_true rfl) (fun x => [(2, .int x), (0, .ref (ad 10)), (1, .int x1)]) (fun _ => rfl) (fun x e => ?_)
  subst e
  refine G_aload_n d_Reader_comeToWord_84 rfl 1 rfl ?_
  refine G_iload_n d_Reader_comeToWord_85 rfl 0 rfl ?_
  refine G_if_eq (tgt := 100) d_Reader_comeToWord_86 (by decide) (fun c => ?_) (fun c => ?_)
  · replace h := Ok_t c h
    refine G_iconst d_Reader_comeToWord_100 lt_iconst_1 ?_
    refine px_Reader_kind d_Reader_comeToWord_101 w_292 (fun s1 e => ?_)
    replace h := Ok_bnd h s1 e
    clear e
    replace h := Ok_some h
    exact G_vret rfl d_Reader_comeToWord_104 (hR _ h)
  replace h := Ok_f c h
  refine G_iload_n d_Reader_comeToWord_89 rfl 2 rfl ?_
  refine G_callSp (st := [.ref (ad 10)]) (As := [.int x1]) d_Reader_comeToWord_90 mi_Reader_isWord w_757 w_758 rfl (Nat.le_of_ble_eq_true rfl) (by decide) (c_Reader_isWord x1 s (Ok_bind h)) (fun v2 h hnv2 => ?_)
  refine G_if_eq (tgt := 100) d_Reader_comeToWord_93 (by decide) (fun c => ?_) (fun c => ?_)
  · replace h := Ok_t c h
    refine G_iconst d_Reader_comeToWord_100 lt_iconst_1 ?_
    refine px_Reader_kind d_Reader_comeToWord_101 w_292 (fun s3 e => ?_)
    replace h := Ok_bnd h s3 e
    clear e
    replace h := Ok_some h
    exact G_vret rfl d_Reader_comeToWord_104 (hR _ h)
  replace h := Ok_f c h
  refine G_iload_n d_Reader_comeToWord_96 rfl 2 rfl ?_
  refine G_goto (tgt := 101) d_Reader_comeToWord_97 (by decide) ?_
  refine px_Reader_kind d_Reader_comeToWord_101 w_292 (fun s4 e => ?_)
  replace h := Ok_bnd h s4 e
  clear e
  replace h := Ok_some h
  exact G_vret rfl d_Reader_comeToWord_104 (hR _ h)
noncomputable def Reader_comeToWord_j65 (x1 : Int32) (s : MS) : Option MS :=
  if (4 : Int32) < ((s.1 23) - (s.1 22)) then (Reader_comeToWord_j83 x1 (0 : Int32) s) else (Reader_comeToWord_j83 x1 (1 : Int32) s)
theorem Reader_comeToWord_j65_w {l : Launch} {D : va_G} {cI cZ cJ : ClassId} {ad : Nat → Nat} (x1 : Int32) (s : MS) {Q : Int32 → MS → Prop} {Post : MS → Prop} (hR : ∀ (s9 : MS), Post (s9) → Q 0 s9) (h : Ok (Reader_comeToWord_j65 x1 s) Post) : G (XX l D cI cZ cJ ad) "SmallHarbour$Reader" b_Reader_comeToWord 3 none 1 65 [(0, .ref (ad 10)), (1, .int x1)] [] s Q := by
  unfold Reader_comeToWord_j65 at h
  refine G_aload_n d_Reader_comeToWord_65 rfl 0 rfl ?_
  refine gx_Reader_next d_Reader_comeToWord_66 w_291 ?_
  refine G_aload_n d_Reader_comeToWord_69 rfl 0 rfl ?_
  refine gx_Reader_start d_Reader_comeToWord_70 w_290 ?_
  refine G_isub d_Reader_comeToWord_73 ?_
  refine G_iconst d_Reader_comeToWord_74 lt_iconst_4 ?_
  refine G_icmp_gt (tgt := 82) d_Reader_comeToWord_75 (by decide) (fun c => ?_) (fun c => ?_)
  · replace h := Ok_t c h
    refine G_iconst d_Reader_comeToWord_82 lt_iconst_0 ?_
    refine Reader_comeToWord_j83_w x1 (0 : Int32) s ?_ h
    · exact hR
  replace h := Ok_f c h
  refine G_iconst d_Reader_comeToWord_78 lt_iconst_1 ?_
  refine G_goto (tgt := 83) d_Reader_comeToWord_79 (by decide) ?_
  refine Reader_comeToWord_j83_w x1 (1 : Int32) s ?_ h
  · exact hR
noncomputable def Reader_comeToWord_l2 (x1 : Int32) (s : MS) : Option ((Int32 × MS) ⊕ MS) :=
  if (s.1 18) ≤ (s.1 23) then (xit (Reader_comeToWord_j65 x1 s)) else (chk (inb (s.1 23) 200) (bnd (s.2 37 (s.1 23).toNatClampNeg) fun v1 => (f_Reader_isLetter v1).bind fun v2 => if v2 = 0 then (xit (Reader_comeToWord_j65 x1 s)) else (chk (inb (s.1 23) 200) (bnd (s.2 37 (s.1 23).toNatClampNeg) fun v3 => bnd ((x1 <<< ((8 : Int32) &&& 31)) ||| v3) fun v4 => bnd (pf s 23 ((s.1 23) + (1 : Int32))) fun s5 => some (.inl (v4, s5))))))
theorem Reader_comeToWord_l2_w {l : Launch} {D : va_G} {cI cZ cJ : ClassId} {ad : Nat → Nat} (x1 : Int32) (s : MS) {Q : Int32 → MS → Prop} {Post : ((Int32 × MS) ⊕ MS) → Prop} (hR : ∀ (s9 : MS), Post (.inr (s9)) → Q 0 s9) (hL2 : ∀ (z1 : Int32) (s9 : MS), Post (.inl (z1, s9)) → G (XX l D cI cZ cJ ad) "SmallHarbour$Reader" b_Reader_comeToWord 3 none 1 2 [(0, .ref (ad 10)), (1, .int z1)] [] s9 Q) (h : Ok (Reader_comeToWord_l2 x1 s) Post) : G (XX l D cI cZ cJ ad) "SmallHarbour$Reader" b_Reader_comeToWord 3 none 1 2 [(0, .ref (ad 10)), (1, .int x1)] [] s Q := by
  unfold Reader_comeToWord_l2 at h
  refine G_aload_n d_Reader_comeToWord_2 rfl 0 rfl ?_
  refine gx_Reader_next d_Reader_comeToWord_3 w_291 ?_
  refine G_aload_n d_Reader_comeToWord_6 rfl 0 rfl ?_
  refine gx_Reader_tape d_Reader_comeToWord_7 w_289 ?_
  refine gx_Tape_count d_Reader_comeToWord_10 w_268 ?_
  refine G_icmp_ge (tgt := 65) d_Reader_comeToWord_13 (by decide) (fun c => ?_) (fun c => ?_)
  · replace h := Ok_t c h
    replace h := Ok_xit h
    refine Reader_comeToWord_j65_w x1 s ?_ h
    · exact hR
  replace h := Ok_f c h
  refine G_aload_n d_Reader_comeToWord_16 rfl 0 rfl ?_
  refine gx_Reader_tape d_Reader_comeToWord_17 w_289 ?_
  refine gx_Tape_bytes d_Reader_comeToWord_20 w_266 ?_
  refine G_aload_n d_Reader_comeToWord_23 rfl 0 rfl ?_
  refine gx_Reader_next d_Reader_comeToWord_24 w_291 ?_
  refine lx_37 d_Reader_comeToWord_27 (Ok_ld h).1 (fun v1 e => ?_)
  replace h := (Ok_ld h).2 v1 e
  clear e
  refine G_callSp (st := []) (As := [.int v1]) d_Reader_comeToWord_28 mi_Reader_isLetter w_750 w_751 rfl (Nat.le_of_ble_eq_true rfl) (by decide) (c_Reader_isLetter v1 s (Ok_bind h)) (fun v2 h hnv2 => ?_)
  refine G_if_eq (tgt := 65) d_Reader_comeToWord_31 (by decide) (fun c => ?_) (fun c => ?_)
  · replace h := Ok_t c h
    replace h := Ok_xit h
    refine Reader_comeToWord_j65_w x1 s ?_ h
    · exact hR
  replace h := Ok_f c h
  refine G_iload_n d_Reader_comeToWord_34 rfl 1 rfl ?_
  refine G_bipush d_Reader_comeToWord_35 lt_bipush_8 ?_
  refine G_ishl d_Reader_comeToWord_37 ?_
  refine G_aload_n d_Reader_comeToWord_38 rfl 0 rfl ?_
  refine gx_Reader_tape d_Reader_comeToWord_39 w_289 ?_
  refine gx_Tape_bytes d_Reader_comeToWord_42 w_266 ?_
  refine G_aload_n d_Reader_comeToWord_45 rfl 0 rfl ?_
  refine gx_Reader_next d_Reader_comeToWord_46 w_291 ?_
  refine lx_37 d_Reader_comeToWord_49 (Ok_ld h).1 (fun v3 e => ?_)
  replace h := (Ok_ld h).2 v3 e
  clear e
  refine G_ior d_Reader_comeToWord_50 ?_
  refine G_istore_n d_Reader_comeToWord_51 rfl (Nat.le_of_ble_eq_true rfl) (fun x => [(1, .int x), (0, .ref (ad 10))]) (fun _ => rfl) (fun v4 e => ?_)
  replace h := Ok_bnd h v4 e.symm
  clear e
  refine G_aload_n d_Reader_comeToWord_52 rfl 1 rfl ?_
  refine G_dup d_Reader_comeToWord_53 rfl ?_
  refine gx_Reader_next d_Reader_comeToWord_54 w_291 ?_
  refine G_iconst d_Reader_comeToWord_57 lt_iconst_1 ?_
  refine G_iadd d_Reader_comeToWord_58 ?_
  refine px_Reader_next d_Reader_comeToWord_59 w_291 (fun s5 e => ?_)
  replace h := Ok_bnd h s5 e
  clear e
  refine G_goto (tgt := 2) d_Reader_comeToWord_62 (by decide) ?_
  refine G_lv [1, 0] rfl ?_
  replace h := Ok_some h
  exact hL2 v4 s5 h
noncomputable def f_Reader_comeToWord (s : MS) : Option MS :=
  loop (fun z => Reader_comeToWord_l2 z.1 z.2) ((0 : Int32), s)
theorem f_Reader_comeToWord_w {l : Launch} {D : va_G} {cI cZ cJ : ClassId} {ad : Nat → Nat} (s : MS) {Q : Int32 → MS → Prop} {Post : MS → Prop} (hR : ∀ (s9 : MS), Post (s9) → Q 0 s9) (h : Ok (f_Reader_comeToWord s) Post) : G (XX l D cI cZ cJ ad) "SmallHarbour$Reader" b_Reader_comeToWord 3 none 1 0 [(0, .ref (ad 10))] [] s Q := by
  unfold f_Reader_comeToWord at h
  refine G_iconst d_Reader_comeToWord_0 lt_iconst_0 ?_
  refine G_istore_n d_Reader_comeToWord_1 rfl (Nat.le_of_ble_eq_true rfl) (fun x => [(1, .int x), (0, .ref (ad 10))]) (fun _ => rfl) (fun x e => ?_)
  subst e
  refine G_lv [1, 0] rfl ?_
  refine G_loop (J := (fun z => G (XX l D cI cZ cJ ad) "SmallHarbour$Reader" b_Reader_comeToWord 3 none 1 2 [(0, .ref (ad 10)), (1, .int (z.1))] [] z.2 Q)) (fun z h => ?_) ((0 : Int32), s) h
  refine Reader_comeToWord_l2_w z.1 z.2 ?_ ?_ h
  · exact hR
  · exact (fun z1 s9 h => h)
theorem c_Reader_comeToWord {l : Launch} {D : va_G} {cI cZ cJ : ClassId} {ad : Nat → Nat} (s : MS) {P : MS → Prop} (h : Ok (f_Reader_comeToWord  s) P) : Ct (XX l D cI cZ cJ ad) y_Reader_comeToWord b_Reader_comeToWord 3 none 1 [.ref (ad 10)] s (fun _ s9 => P s9) :=
  Ct.of mi_Reader_comeToWord (Nat.le_of_ble_eq_true rfl) (f_Reader_comeToWord_w  s (fun _ h => h) h)
-- Reader_isSign
noncomputable def f_Reader_isSign (a1 : Int32) : Option Int32 :=
  bnd a1 fun v1 => if v1 = (37 : Int32) then (some (1 : Int32)) else (if v1 = (38 : Int32) then (some (0 : Int32)) else (if v1 = (39 : Int32) then (some (0 : Int32)) else (if v1 = (40 : Int32) then (some (1 : Int32)) else (if v1 = (41 : Int32) then (some (1 : Int32)) else (if v1 = (42 : Int32) then (some (1 : Int32)) else (if v1 = (43 : Int32) then (some (1 : Int32)) else (if v1 = (44 : Int32) then (some (0 : Int32)) else (if v1 = (45 : Int32) then (some (1 : Int32)) else (if v1 = (46 : Int32) then (some (0 : Int32)) else (if v1 = (47 : Int32) then (some (1 : Int32)) else (if v1 = (48 : Int32) then (some (0 : Int32)) else (if v1 = (49 : Int32) then (some (0 : Int32)) else (if v1 = (50 : Int32) then (some (0 : Int32)) else (if v1 = (51 : Int32) then (some (0 : Int32)) else (if v1 = (52 : Int32) then (some (0 : Int32)) else (if v1 = (53 : Int32) then (some (0 : Int32)) else (if v1 = (54 : Int32) then (some (0 : Int32)) else (if v1 = (55 : Int32) then (some (0 : Int32)) else (if v1 = (56 : Int32) then (some (0 : Int32)) else (if v1 = (57 : Int32) then (some (0 : Int32)) else (if v1 = (58 : Int32) then (some (0 : Int32)) else (if v1 = (59 : Int32) then (some (0 : Int32)) else (if v1 = (60 : Int32) then (some (1 : Int32)) else (if v1 = (61 : Int32) then (some (1 : Int32)) else (some (0 : Int32))))))))))))))))))))))))))
theorem f_Reader_isSign_w {l : Launch} {D : va_G} {cI cZ cJ : ClassId} {ad : Nat → Nat} (a1 : Int32) (s : MS) {Q : Int32 → MS → Prop} {Post : Int32 → Prop} (hR : ∀ (r9 : Int32), Post (r9) → Q r9 s) (h : Ok (f_Reader_isSign a1) Post) : G (XX l D cI cZ cJ ad) "SmallHarbour$Reader" b_Reader_isSign 1 (some .boolean) 0 0 [(0, .int a1)] [] s Q := by
  unfold f_Reader_isSign at h
  refine G_iload_n d_Reader_isSign_0 rfl 0 rfl ?_
  refine G_topi (fun v1 e => ?_)
  replace h := Ok_bnd h v1 e
  clear e
  by_cases c0 : v1 = (37 : Int32)
  · replace h := Ok_t c0 h
    refine G_tableIn (tgt := 116) d_Reader_isSign_1 (by rw [c0]; decide) (by rw [c0]; decide) (by rw [c0]; rfl) (by decide) ?_
    refine G_iconst d_Reader_isSign_116 lt_iconst_1 ?_
    replace h := Ok_some h
    exact G_iret rfl rfl d_Reader_isSign_117 (hR _ h)
  replace h := Ok_f c0 h
  have n0 := ne_ti (z := 37) (by decide) c0
  by_cases c1 : v1 = (38 : Int32)
  · replace h := Ok_t c1 h
    refine G_tableIn (tgt := 118) d_Reader_isSign_1 (by rw [c1]; decide) (by rw [c1]; decide) (by rw [c1]; rfl) (by decide) ?_
    refine G_iconst d_Reader_isSign_118 lt_iconst_0 ?_
    replace h := Ok_some h
    exact G_iret rfl rfl d_Reader_isSign_119 (hR _ h)
  replace h := Ok_f c1 h
  have n1 := ne_ti (z := 38) (by decide) c1
  by_cases c2 : v1 = (39 : Int32)
  · replace h := Ok_t c2 h
    refine G_tableIn (tgt := 118) d_Reader_isSign_1 (by rw [c2]; decide) (by rw [c2]; decide) (by rw [c2]; rfl) (by decide) ?_
    refine G_iconst d_Reader_isSign_118 lt_iconst_0 ?_
    replace h := Ok_some h
    exact G_iret rfl rfl d_Reader_isSign_119 (hR _ h)
  replace h := Ok_f c2 h
  have n2 := ne_ti (z := 39) (by decide) c2
  by_cases c3 : v1 = (40 : Int32)
  · replace h := Ok_t c3 h
    refine G_tableIn (tgt := 116) d_Reader_isSign_1 (by rw [c3]; decide) (by rw [c3]; decide) (by rw [c3]; rfl) (by decide) ?_
    refine G_iconst d_Reader_isSign_116 lt_iconst_1 ?_
    replace h := Ok_some h
    exact G_iret rfl rfl d_Reader_isSign_117 (hR _ h)
  replace h := Ok_f c3 h
  have n3 := ne_ti (z := 40) (by decide) c3
  by_cases c4 : v1 = (41 : Int32)
  · replace h := Ok_t c4 h
    refine G_tableIn (tgt := 116) d_Reader_isSign_1 (by rw [c4]; decide) (by rw [c4]; decide) (by rw [c4]; rfl) (by decide) ?_
    refine G_iconst d_Reader_isSign_116 lt_iconst_1 ?_
    replace h := Ok_some h
    exact G_iret rfl rfl d_Reader_isSign_117 (hR _ h)
  replace h := Ok_f c4 h
  have n4 := ne_ti (z := 41) (by decide) c4
  by_cases c5 : v1 = (42 : Int32)
  · replace h := Ok_t c5 h
    refine G_tableIn (tgt := 116) d_Reader_isSign_1 (by rw [c5]; decide) (by rw [c5]; decide) (by rw [c5]; rfl) (by decide) ?_
    refine G_iconst d_Reader_isSign_116 lt_iconst_1 ?_
    replace h := Ok_some h
    exact G_iret rfl rfl d_Reader_isSign_117 (hR _ h)
  replace h := Ok_f c5 h
  have n5 := ne_ti (z := 42) (by decide) c5
  by_cases c6 : v1 = (43 : Int32)
  · replace h := Ok_t c6 h
    refine G_tableIn (tgt := 116) d_Reader_isSign_1 (by rw [c6]; decide) (by rw [c6]; decide) (by rw [c6]; rfl) (by decide) ?_
    refine G_iconst d_Reader_isSign_116 lt_iconst_1 ?_
    replace h := Ok_some h
    exact G_iret rfl rfl d_Reader_isSign_117 (hR _ h)
  replace h := Ok_f c6 h
  have n6 := ne_ti (z := 43) (by decide) c6
  by_cases c7 : v1 = (44 : Int32)
  · replace h := Ok_t c7 h
    refine G_tableIn (tgt := 118) d_Reader_isSign_1 (by rw [c7]; decide) (by rw [c7]; decide) (by rw [c7]; rfl) (by decide) ?_
    refine G_iconst d_Reader_isSign_118 lt_iconst_0 ?_
    replace h := Ok_some h
    exact G_iret rfl rfl d_Reader_isSign_119 (hR _ h)
  replace h := Ok_f c7 h
  have n7 := ne_ti (z := 44) (by decide) c7
  by_cases c8 : v1 = (45 : Int32)
  · replace h := Ok_t c8 h
    refine G_tableIn (tgt := 116) d_Reader_isSign_1 (by rw [c8]; decide) (by rw [c8]; decide) (by rw [c8]; rfl) (by decide) ?_
    refine G_iconst d_Reader_isSign_116 lt_iconst_1 ?_
    replace h := Ok_some h
    exact G_iret rfl rfl d_Reader_isSign_117 (hR _ h)
  replace h := Ok_f c8 h
  have n8 := ne_ti (z := 45) (by decide) c8
  by_cases c9 : v1 = (46 : Int32)
  · replace h := Ok_t c9 h
    refine G_tableIn (tgt := 118) d_Reader_isSign_1 (by rw [c9]; decide) (by rw [c9]; decide) (by rw [c9]; rfl) (by decide) ?_
    refine G_iconst d_Reader_isSign_118 lt_iconst_0 ?_
    replace h := Ok_some h
    exact G_iret rfl rfl d_Reader_isSign_119 (hR _ h)
  replace h := Ok_f c9 h
  have n9 := ne_ti (z := 46) (by decide) c9
  by_cases c10 : v1 = (47 : Int32)
  · replace h := Ok_t c10 h
    refine G_tableIn (tgt := 116) d_Reader_isSign_1 (by rw [c10]; decide) (by rw [c10]; decide) (by rw [c10]; rfl) (by decide) ?_
    refine G_iconst d_Reader_isSign_116 lt_iconst_1 ?_
    replace h := Ok_some h
    exact G_iret rfl rfl d_Reader_isSign_117 (hR _ h)
  replace h := Ok_f c10 h
  have n10 := ne_ti (z := 47) (by decide) c10
  by_cases c11 : v1 = (48 : Int32)
  · replace h := Ok_t c11 h
    refine G_tableIn (tgt := 118) d_Reader_isSign_1 (by rw [c11]; decide) (by rw [c11]; decide) (by rw [c11]; rfl) (by decide) ?_
    refine G_iconst d_Reader_isSign_118 lt_iconst_0 ?_
    replace h := Ok_some h
    exact G_iret rfl rfl d_Reader_isSign_119 (hR _ h)
  replace h := Ok_f c11 h
  have n11 := ne_ti (z := 48) (by decide) c11
  by_cases c12 : v1 = (49 : Int32)
  · replace h := Ok_t c12 h
    refine G_tableIn (tgt := 118) d_Reader_isSign_1 (by rw [c12]; decide) (by rw [c12]; decide) (by rw [c12]; rfl) (by decide) ?_
    refine G_iconst d_Reader_isSign_118 lt_iconst_0 ?_
    replace h := Ok_some h
    exact G_iret rfl rfl d_Reader_isSign_119 (hR _ h)
  replace h := Ok_f c12 h
  have n12 := ne_ti (z := 49) (by decide) c12
  by_cases c13 : v1 = (50 : Int32)
  · replace h := Ok_t c13 h
    refine G_tableIn (tgt := 118) d_Reader_isSign_1 (by rw [c13]; decide) (by rw [c13]; decide) (by rw [c13]; rfl) (by decide) ?_
    refine G_iconst d_Reader_isSign_118 lt_iconst_0 ?_
    replace h := Ok_some h
    exact G_iret rfl rfl d_Reader_isSign_119 (hR _ h)
  replace h := Ok_f c13 h
  have n13 := ne_ti (z := 50) (by decide) c13
  by_cases c14 : v1 = (51 : Int32)
  · replace h := Ok_t c14 h
    refine G_tableIn (tgt := 118) d_Reader_isSign_1 (by rw [c14]; decide) (by rw [c14]; decide) (by rw [c14]; rfl) (by decide) ?_
    refine G_iconst d_Reader_isSign_118 lt_iconst_0 ?_
    replace h := Ok_some h
    exact G_iret rfl rfl d_Reader_isSign_119 (hR _ h)
  replace h := Ok_f c14 h
  have n14 := ne_ti (z := 51) (by decide) c14
  by_cases c15 : v1 = (52 : Int32)
  · replace h := Ok_t c15 h
    refine G_tableIn (tgt := 118) d_Reader_isSign_1 (by rw [c15]; decide) (by rw [c15]; decide) (by rw [c15]; rfl) (by decide) ?_
    refine G_iconst d_Reader_isSign_118 lt_iconst_0 ?_
    replace h := Ok_some h
    exact G_iret rfl rfl d_Reader_isSign_119 (hR _ h)
  replace h := Ok_f c15 h
  have n15 := ne_ti (z := 52) (by decide) c15
  by_cases c16 : v1 = (53 : Int32)
  · replace h := Ok_t c16 h
    refine G_tableIn (tgt := 118) d_Reader_isSign_1 (by rw [c16]; decide) (by rw [c16]; decide) (by rw [c16]; rfl) (by decide) ?_
    refine G_iconst d_Reader_isSign_118 lt_iconst_0 ?_
    replace h := Ok_some h
    exact G_iret rfl rfl d_Reader_isSign_119 (hR _ h)
  replace h := Ok_f c16 h
  have n16 := ne_ti (z := 53) (by decide) c16
  by_cases c17 : v1 = (54 : Int32)
  · replace h := Ok_t c17 h
    refine G_tableIn (tgt := 118) d_Reader_isSign_1 (by rw [c17]; decide) (by rw [c17]; decide) (by rw [c17]; rfl) (by decide) ?_
    refine G_iconst d_Reader_isSign_118 lt_iconst_0 ?_
    replace h := Ok_some h
    exact G_iret rfl rfl d_Reader_isSign_119 (hR _ h)
  replace h := Ok_f c17 h
  have n17 := ne_ti (z := 54) (by decide) c17
  by_cases c18 : v1 = (55 : Int32)
  · replace h := Ok_t c18 h
    refine G_tableIn (tgt := 118) d_Reader_isSign_1 (by rw [c18]; decide) (by rw [c18]; decide) (by rw [c18]; rfl) (by decide) ?_
    refine G_iconst d_Reader_isSign_118 lt_iconst_0 ?_
    replace h := Ok_some h
    exact G_iret rfl rfl d_Reader_isSign_119 (hR _ h)
  replace h := Ok_f c18 h
  have n18 := ne_ti (z := 55) (by decide) c18
  by_cases c19 : v1 = (56 : Int32)
  · replace h := Ok_t c19 h
    refine G_tableIn (tgt := 118) d_Reader_isSign_1 (by rw [c19]; decide) (by rw [c19]; decide) (by rw [c19]; rfl) (by decide) ?_
    refine G_iconst d_Reader_isSign_118 lt_iconst_0 ?_
    replace h := Ok_some h
    exact G_iret rfl rfl d_Reader_isSign_119 (hR _ h)
  replace h := Ok_f c19 h
  have n19 := ne_ti (z := 56) (by decide) c19
  by_cases c20 : v1 = (57 : Int32)
  · replace h := Ok_t c20 h
    refine G_tableIn (tgt := 118) d_Reader_isSign_1 (by rw [c20]; decide) (by rw [c20]; decide) (by rw [c20]; rfl) (by decide) ?_
    refine G_iconst d_Reader_isSign_118 lt_iconst_0 ?_
    replace h := Ok_some h
    exact G_iret rfl rfl d_Reader_isSign_119 (hR _ h)
  replace h := Ok_f c20 h
  have n20 := ne_ti (z := 57) (by decide) c20
  by_cases c21 : v1 = (58 : Int32)
  · replace h := Ok_t c21 h
    refine G_tableIn (tgt := 118) d_Reader_isSign_1 (by rw [c21]; decide) (by rw [c21]; decide) (by rw [c21]; rfl) (by decide) ?_
    refine G_iconst d_Reader_isSign_118 lt_iconst_0 ?_
    replace h := Ok_some h
    exact G_iret rfl rfl d_Reader_isSign_119 (hR _ h)
  replace h := Ok_f c21 h
  have n21 := ne_ti (z := 58) (by decide) c21
  by_cases c22 : v1 = (59 : Int32)
  · replace h := Ok_t c22 h
    refine G_tableIn (tgt := 118) d_Reader_isSign_1 (by rw [c22]; decide) (by rw [c22]; decide) (by rw [c22]; rfl) (by decide) ?_
    refine G_iconst d_Reader_isSign_118 lt_iconst_0 ?_
    replace h := Ok_some h
    exact G_iret rfl rfl d_Reader_isSign_119 (hR _ h)
  replace h := Ok_f c22 h
  have n22 := ne_ti (z := 59) (by decide) c22
  by_cases c23 : v1 = (60 : Int32)
  · replace h := Ok_t c23 h
    refine G_tableIn (tgt := 116) d_Reader_isSign_1 (by rw [c23]; decide) (by rw [c23]; decide) (by rw [c23]; rfl) (by decide) ?_
    refine G_iconst d_Reader_isSign_116 lt_iconst_1 ?_
    replace h := Ok_some h
    exact G_iret rfl rfl d_Reader_isSign_117 (hR _ h)
  replace h := Ok_f c23 h
  have n23 := ne_ti (z := 60) (by decide) c23
  by_cases c24 : v1 = (61 : Int32)
  · replace h := Ok_t c24 h
    refine G_tableIn (tgt := 116) d_Reader_isSign_1 (by rw [c24]; decide) (by rw [c24]; decide) (by rw [c24]; rfl) (by decide) ?_
    refine G_iconst d_Reader_isSign_116 lt_iconst_1 ?_
    replace h := Ok_some h
    exact G_iret rfl rfl d_Reader_isSign_117 (hR _ h)
  replace h := Ok_f c24 h
  have n24 := ne_ti (z := 61) (by decide) c24
  refine G_tableOut (tgt := 118) d_Reader_isSign_1 (by omega) (by decide) ?_
  refine G_iconst d_Reader_isSign_118 lt_iconst_0 ?_
  replace h := Ok_some h
  exact G_iret rfl rfl d_Reader_isSign_119 (hR _ h)
theorem c_Reader_isSign {l : Launch} {D : va_G} {cI cZ cJ : ClassId} {ad : Nat → Nat} (a1 : Int32) (s : MS) {P : Int32 → Prop} (h : Ok (f_Reader_isSign a1) P) : Ct (XX l D cI cZ cJ ad) y_Reader_isSign b_Reader_isSign 1 (some .boolean) 0 [.int a1] s (fun r9 s9 => s9 = s ∧ P r9) :=
  Ct.of mi_Reader_isSign (Nat.le_of_ble_eq_true rfl) (f_Reader_isSign_w a1 s (fun _ h => ⟨rfl, h⟩) h)
