-- Md_fitsAll
noncomputable def Md_fitsAll_l3 (x1 x2 x4 : Int32) (s : MS) (x5 : Int32) : Option ((Int32) ⊕ Int32) :=
  if x4 ≤ x5 then (xit (some (1 : Int32))) else (chk (inb x1 30) (bnd (s.2 3 x1.toNatClampNeg) fun v1 => chk (inb x1 30) (bnd (s.2 4 x1.toNatClampNeg) fun v2 => (f_Md_isFit v1 v2 x2 x5 s).bind fun v3 => if v3 = 0 then (xit (some (0 : Int32))) else (bnd (x5 + (1 : Int32)) fun v4 => some (.inl v4)))))
theorem Md_fitsAll_l3_w {l : Launch} {D : va_G} {cI cZ cJ : ClassId} {ad : Nat → Nat} (x1 x2 x4 x5 : Int32) (s : MS) {Q : Int32 → MS → Prop} {Post : ((Int32) ⊕ Int32) → Prop} (hR : ∀ (r9 : Int32), Post (.inr (r9)) → Q r9 s) (hL3 : ∀ (z5 : Int32) , Post (.inl z5) → G (XM l D cI cZ cJ ad) "SmallHarbourModel" b_Md_fitsAll 6 (some .boolean) 1 3 [(0, .ref (ad 0)), (1, .int x1), (2, .int x2), (4, .int x4), (5, .int z5)] [] s Q) (h : Ok (Md_fitsAll_l3 x1 x2 x4 s x5) Post) : G (XM l D cI cZ cJ ad) "SmallHarbourModel" b_Md_fitsAll 6 (some .boolean) 1 3 [(0, .ref (ad 0)), (1, .int x1), (2, .int x2), (4, .int x4), (5, .int x5)] [] s Q := by
  unfold Md_fitsAll_l3 at h
  refine G_iload d_Md_fitsAll_3 4 rfl ?_
  refine G_iload d_Md_fitsAll_5 3 rfl ?_
  refine G_icmp_ge (tgt := 40) d_Md_fitsAll_7 (by decide) (fun c => ?_) (fun c => ?_)
  · replace h := Ok_t c h
    replace h := Ok_xit h
    refine G_iconst d_Md_fitsAll_40 lt_iconst_1 ?_
    replace h := Ok_some h
    exact G_iret rfl rfl d_Md_fitsAll_41 (hR _ h)
  replace h := Ok_f c h
  refine G_aload_n d_Md_fitsAll_10 rfl 0 rfl ?_
  refine G_aload_n d_Md_fitsAll_11 rfl 0 rfl ?_
  refine gm_Md_length d_Md_fitsAll_12 w_842 ?_
  refine G_iload_n d_Md_fitsAll_15 rfl 1 rfl ?_
  refine lm_3 d_Md_fitsAll_16 (Ok_ld h).1 (fun v1 e => ?_)
  replace h := (Ok_ld h).2 v1 e
  clear e
  refine G_aload_n d_Md_fitsAll_17 rfl 0 rfl ?_
  refine gm_Md_draught d_Md_fitsAll_18 w_843 ?_
  refine G_iload_n d_Md_fitsAll_21 rfl 1 rfl ?_
  refine lm_4 d_Md_fitsAll_22 (Ok_ld h).1 (fun v2 e => ?_)
  replace h := (Ok_ld h).2 v2 e
  clear e
  refine G_iload_n d_Md_fitsAll_23 rfl 2 rfl ?_
  refine G_iload d_Md_fitsAll_24 4 rfl ?_
  refine G_callVp (st := []) (As := [.int v1, .int v2, .int x2, .int x5]) (b := ad 0) d_Md_fitsAll_26 mi_Md_isFit w_1068 0 rfl rfl mv_Md_isFit rfl (Nat.le_of_ble_eq_true rfl) (by decide) (c_Md_isFit v1 v2 x2 x5 s (Ok_bind h)) (fun v3 h hnv3 => ?_)
  refine G_if_ne (tgt := 34) d_Md_fitsAll_29 (by decide) (fun c => ?_) (fun c => ?_)
  · replace h := Ok_f c h
    refine G_iinc d_Md_fitsAll_34 4 rfl lt_iconst_1 rfl (Nat.le_of_ble_eq_true rfl) (fun x => [(5, .int x), (0, .ref (ad 0)), (1, .int x1), (2, .int x2), (4, .int x4)]) (fun _ => rfl) (fun v4 e => ?_)
    replace h := Ok_bnd h v4 e
    clear e
    refine G_goto (tgt := 3) d_Md_fitsAll_37 (by decide) ?_
    refine G_lv [1, 2, 3, 4, 0] rfl ?_
    replace h := Ok_some h
    exact hL3 v4 h
  replace h := Ok_t c h
  replace h := Ok_xit h
  refine G_iconst d_Md_fitsAll_32 lt_iconst_0 ?_
  replace h := Ok_some h
  exact G_iret rfl rfl d_Md_fitsAll_33 (hR _ h)
noncomputable def f_Md_fitsAll (a1 a2 a3 a4 : Int32) (s : MS) : Option Int32 :=
  loop (fun z => Md_fitsAll_l3 a1 a2 a4 s z) a3
theorem f_Md_fitsAll_w {l : Launch} {D : va_G} {cI cZ cJ : ClassId} {ad : Nat → Nat} (a1 a2 a3 a4 : Int32) (s : MS) {Q : Int32 → MS → Prop} {Post : Int32 → Prop} (hR : ∀ (r9 : Int32), Post (r9) → Q r9 s) (h : Ok (f_Md_fitsAll a1 a2 a3 a4 s) Post) : G (XM l D cI cZ cJ ad) "SmallHarbourModel" b_Md_fitsAll 6 (some .boolean) 1 0 [(0, .ref (ad 0)), (1, .int a1), (2, .int a2), (3, .int a3), (4, .int a4)] [] s Q := by
  unfold f_Md_fitsAll at h
  refine G_iload_n d_Md_fitsAll_0 rfl 3 rfl ?_
  refine G_istore d_Md_fitsAll_1 (Nat.le_of_ble_eq_true rfl) (fun x => [(5, .int x), (0, .ref (ad 0)), (1, .int a1), (2, .int a2), (3, .int a3), (4, .int a4)]) (fun _ => rfl) (fun x e => ?_)
  subst e
  refine G_lv [1, 2, 3, 5, 0] rfl ?_
  refine G_loop (J := (fun z => G (XM l D cI cZ cJ ad) "SmallHarbourModel" b_Md_fitsAll 6 (some .boolean) 1 3 [(0, .ref (ad 0)), (1, .int a1), (2, .int a2), (4, .int a4), (5, .int z)] [] s Q)) (fun z h => ?_) a3 h
  refine Md_fitsAll_l3_w a1 a2 a4 z s ?_ ?_ h
  · exact hR
  · exact (fun z5 h => h)
theorem c_Md_fitsAll {l : Launch} {D : va_G} {cI cZ cJ : ClassId} {ad : Nat → Nat} (a1 a2 a3 a4 : Int32) (s : MS) {P : Int32 → Prop} (h : Ok (f_Md_fitsAll a1 a2 a3 a4 s) P) : Ct (XM l D cI cZ cJ ad) y_Md_fitsAll b_Md_fitsAll 6 (some .boolean) 1 [.ref (ad 0), .int a1, .int a2, .int a3, .int a4] s (fun r9 s9 => s9 = s ∧ P r9) :=
  Ct.of mi_Md_fitsAll (Nat.le_of_ble_eq_true rfl) (f_Md_fitsAll_w a1 a2 a3 a4 s (fun _ h => ⟨rfl, h⟩) h)
-- Md_hasStay
noncomputable def Md_hasStay_l3 (x1 x2 x3 : Int32) (s : MS) (x4 : Int32) : Option ((Int32) ⊕ Int32) :=
  if (s.1 4) ≤ x4 then (xit (some (0 : Int32))) else (chk (inb x4 40) (bnd (s.2 10 x4.toNatClampNeg) fun v1 => if v1 = x1 then (chk (inb x4 40) (bnd (s.2 12 x4.toNatClampNeg) fun v3 => if x3 ≤ v3 then (bnd (x4 + (1 : Int32)) fun v4 => some (.inl v4)) else (chk (inb x4 40) (bnd (s.2 13 x4.toNatClampNeg) fun v5 => if v5 ≤ x2 then (bnd (x4 + (1 : Int32)) fun v6 => some (.inl v6)) else (xit (some (1 : Int32))))))) else (bnd (x4 + (1 : Int32)) fun v2 => some (.inl v2))))
theorem Md_hasStay_l3_w {l : Launch} {D : va_G} {cI cZ cJ : ClassId} {ad : Nat → Nat} (x1 x2 x3 x4 : Int32) (s : MS) {Q : Int32 → MS → Prop} {Post : ((Int32) ⊕ Int32) → Prop} (hR : ∀ (r9 : Int32), Post (.inr (r9)) → Q r9 s) (hL3 : ∀ (z4 : Int32) , Post (.inl z4) → G (XM l D cI cZ cJ ad) "SmallHarbourModel" b_Md_hasStay 5 (some .boolean) 0 3 [(0, .ref (ad 0)), (1, .int x1), (2, .int x2), (3, .int x3), (4, .int z4)] [] s Q) (h : Ok (Md_hasStay_l3 x1 x2 x3 s x4) Post) : G (XM l D cI cZ cJ ad) "SmallHarbourModel" b_Md_hasStay 5 (some .boolean) 0 3 [(0, .ref (ad 0)), (1, .int x1), (2, .int x2), (3, .int x3), (4, .int x4)] [] s Q := by
  unfold Md_hasStay_l3 at h
  refine G_iload d_Md_hasStay_3 4 rfl ?_
  refine G_aload_n d_Md_hasStay_5 rfl 0 rfl ?_
  refine gm_Md_stays d_Md_hasStay_6 w_850 ?_
  refine G_icmp_ge (tgt := 53) d_Md_hasStay_9 (by decide) (fun c => ?_) (fun c => ?_)
  · replace h := Ok_t c h
    replace h := Ok_xit h
    refine G_iconst d_Md_hasStay_53 lt_iconst_0 ?_
    replace h := Ok_some h
    exact G_iret rfl rfl d_Md_hasStay_54 (hR _ h)
  replace h := Ok_f c h
  refine G_aload_n d_Md_hasStay_12 rfl 0 rfl ?_
  refine gm_Md_stayBoat d_Md_hasStay_13 w_851 ?_
  refine G_iload d_Md_hasStay_16 4 rfl ?_
  refine lm_10 d_Md_hasStay_18 (Ok_ld h).1 (fun v1 e => ?_)
  replace h := (Ok_ld h).2 v1 e
  clear e
  refine G_iload_n d_Md_hasStay_19 rfl 1 rfl ?_
  refine G_icmp_ne (tgt := 47) d_Md_hasStay_20 (by decide) (fun c => ?_) (fun c => ?_)
  · replace h := Ok_f c h
    refine G_iinc d_Md_hasStay_47 4 rfl lt_iconst_1 rfl (Nat.le_of_ble_eq_true rfl) (fun x => [(4, .int x), (0, .ref (ad 0)), (1, .int x1), (2, .int x2), (3, .int x3)]) (fun _ => rfl) (fun v2 e => ?_)
    replace h := Ok_bnd h v2 e
    clear e
    refine G_goto (tgt := 3) d_Md_hasStay_50 (by decide) ?_
    refine G_lv [1, 2, 3, 4, 0] rfl ?_
    replace h := Ok_some h
    exact hL3 v2 h
  replace h := Ok_t c h
  refine G_aload_n d_Md_hasStay_23 rfl 0 rfl ?_
  refine gm_Md_stayFrom d_Md_hasStay_24 w_853 ?_
  refine G_iload d_Md_hasStay_27 4 rfl ?_
  refine lm_12 d_Md_hasStay_29 (Ok_ld h).1 (fun v3 e => ?_)
  replace h := (Ok_ld h).2 v3 e
  clear e
  refine G_iload_n d_Md_hasStay_30 rfl 3 rfl ?_
  refine G_icmp_ge (tgt := 47) d_Md_hasStay_31 (by decide) (fun c => ?_) (fun c => ?_)
  · replace h := Ok_t c h
    refine G_iinc d_Md_hasStay_47 4 rfl lt_iconst_1 rfl (Nat.le_of_ble_eq_true rfl) (fun x => [(4, .int x), (0, .ref (ad 0)), (1, .int x1), (2, .int x2), (3, .int x3)]) (fun _ => rfl) (fun v4 e => ?_)
    replace h := Ok_bnd h v4 e
    clear e
    refine G_goto (tgt := 3) d_Md_hasStay_50 (by decide) ?_
    refine G_lv [1, 2, 3, 4, 0] rfl ?_
    replace h := Ok_some h
    exact hL3 v4 h
  replace h := Ok_f c h
  refine G_iload_n d_Md_hasStay_34 rfl 2 rfl ?_
  refine G_aload_n d_Md_hasStay_35 rfl 0 rfl ?_
  refine gm_Md_stayTo d_Md_hasStay_36 w_854 ?_
  refine G_iload d_Md_hasStay_39 4 rfl ?_
  refine lm_13 d_Md_hasStay_41 (Ok_ld h).1 (fun v5 e => ?_)
  replace h := (Ok_ld h).2 v5 e
  clear e
  refine G_icmp_ge (tgt := 47) d_Md_hasStay_42 (by decide) (fun c => ?_) (fun c => ?_)
  · replace h := Ok_t c h
    refine G_iinc d_Md_hasStay_47 4 rfl lt_iconst_1 rfl (Nat.le_of_ble_eq_true rfl) (fun x => [(4, .int x), (0, .ref (ad 0)), (1, .int x1), (2, .int x2), (3, .int x3)]) (fun _ => rfl) (fun v6 e => ?_)
    replace h := Ok_bnd h v6 e
    clear e
    refine G_goto (tgt := 3) d_Md_hasStay_50 (by decide) ?_
    refine G_lv [1, 2, 3, 4, 0] rfl ?_
    replace h := Ok_some h
    exact hL3 v6 h
  replace h := Ok_f c h
  replace h := Ok_xit h
  refine G_iconst d_Md_hasStay_45 lt_iconst_1 ?_
  replace h := Ok_some h
  exact G_iret rfl rfl d_Md_hasStay_46 (hR _ h)
noncomputable def f_Md_hasStay (a1 a2 a3 : Int32) (s : MS) : Option Int32 :=
  loop (fun z => Md_hasStay_l3 a1 a2 a3 s z) (0 : Int32)
theorem f_Md_hasStay_w {l : Launch} {D : va_G} {cI cZ cJ : ClassId} {ad : Nat → Nat} (a1 a2 a3 : Int32) (s : MS) {Q : Int32 → MS → Prop} {Post : Int32 → Prop} (hR : ∀ (r9 : Int32), Post (r9) → Q r9 s) (h : Ok (f_Md_hasStay a1 a2 a3 s) Post) : G (XM l D cI cZ cJ ad) "SmallHarbourModel" b_Md_hasStay 5 (some .boolean) 0 0 [(0, .ref (ad 0)), (1, .int a1), (2, .int a2), (3, .int a3)] [] s Q := by
  unfold f_Md_hasStay at h
  refine G_iconst d_Md_hasStay_0 lt_iconst_0 ?_
  refine G_istore d_Md_hasStay_1 (Nat.le_of_ble_eq_true rfl) (fun x => [(4, .int x), (0, .ref (ad 0)), (1, .int a1), (2, .int a2), (3, .int a3)]) (fun _ => rfl) (fun x e => ?_)
  subst e
  refine G_lv [1, 2, 3, 4, 0] rfl ?_
  refine G_loop (J := (fun z => G (XM l D cI cZ cJ ad) "SmallHarbourModel" b_Md_hasStay 5 (some .boolean) 0 3 [(0, .ref (ad 0)), (1, .int a1), (2, .int a2), (3, .int a3), (4, .int z)] [] s Q)) (fun z h => ?_) (0 : Int32) h
  refine Md_hasStay_l3_w a1 a2 a3 z s ?_ ?_ h
  · exact hR
  · exact (fun z4 h => h)
theorem c_Md_hasStay {l : Launch} {D : va_G} {cI cZ cJ : ClassId} {ad : Nat → Nat} (a1 a2 a3 : Int32) (s : MS) {P : Int32 → Prop} (h : Ok (f_Md_hasStay a1 a2 a3 s) P) : Ct (XM l D cI cZ cJ ad) y_Md_hasStay b_Md_hasStay 5 (some .boolean) 0 [.ref (ad 0), .int a1, .int a2, .int a3] s (fun r9 s9 => s9 = s ∧ P r9) :=
  Ct.of mi_Md_hasStay (Nat.le_of_ble_eq_true rfl) (f_Md_hasStay_w a1 a2 a3 s (fun _ h => ⟨rfl, h⟩) h)
-- Md_hoist
noncomputable def f_Md_hoist (a1 a2 a3 : Int32) (s : MS) : Option (Int32 × MS) :=
  (f_Md_isIn a1 (0 : Int32) (40 : Int32)).bind fun v1 => if v1 = 0 then (some ((0 : Int32), s)) else ((f_Md_isIn a2 (1 : Int32) (500 : Int32)).bind fun v2 => if v2 = 0 then (some ((0 : Int32), s)) else ((f_Md_isIn a3 (1 : Int32) (600 : Int32)).bind fun v3 => if v3 = 0 then (some ((0 : Int32), s)) else (bnd (pf s 12 a1) fun s4 => bnd (pf s4 13 a2) fun s5 => bnd (pf s5 14 a3) fun s6 => some ((1 : Int32), s6))))
theorem f_Md_hoist_w {l : Launch} {D : va_G} {cI cZ cJ : ClassId} {ad : Nat → Nat} (a1 a2 a3 : Int32) (s : MS) {Q : Int32 → MS → Prop} {Post : (Int32 × MS) → Prop} (hR : ∀ (r9 : Int32) (s9 : MS), Post ((r9, s9)) → Q r9 s9) (h : Ok (f_Md_hoist a1 a2 a3 s) Post) : G (XM l D cI cZ cJ ad) "SmallHarbourModel" b_Md_hoist 4 (some .boolean) 1 0 [(0, .ref (ad 0)), (1, .int a1), (2, .int a2), (3, .int a3)] [] s Q := by
  unfold f_Md_hoist at h
  refine G_iload_n d_Md_hoist_0 rfl 1 rfl ?_
  refine G_iconst d_Md_hoist_1 lt_iconst_0 ?_
  refine G_bipush d_Md_hoist_2 lt_bipush_40 ?_
  refine G_callSp (st := []) (As := [.int a1, .int (0 : Int32), .int (40 : Int32)]) d_Md_hoist_4 mi_Md_isIn w_1045 w_1046 rfl (Nat.le_of_ble_eq_true rfl) (by decide) (c_Md_isIn a1 (0 : Int32) (40 : Int32) s (Ok_bind h)) (fun v1 h hnv1 => ?_)
  refine G_if_eq (tgt := 32) d_Md_hoist_7 (by decide) (fun c => ?_) (fun c => ?_)
  · replace h := Ok_t c h
    refine G_iconst d_Md_hoist_32 lt_iconst_0 ?_
    replace h := Ok_some h
    exact G_iret rfl rfl d_Md_hoist_33 (hR _ _ h)
  replace h := Ok_f c h
  refine G_iload_n d_Md_hoist_10 rfl 2 rfl ?_
  refine G_iconst d_Md_hoist_11 lt_iconst_1 ?_
  refine G_sipush d_Md_hoist_12 lt_sipush_500 ?_
  refine G_callSp (st := []) (As := [.int a2, .int (1 : Int32), .int (500 : Int32)]) d_Md_hoist_15 mi_Md_isIn w_1045 w_1046 rfl (Nat.le_of_ble_eq_true rfl) (by decide) (c_Md_isIn a2 (1 : Int32) (500 : Int32) s (Ok_bind h)) (fun v2 h hnv2 => ?_)
  refine G_if_eq (tgt := 32) d_Md_hoist_18 (by decide) (fun c => ?_) (fun c => ?_)
  · replace h := Ok_t c h
    refine G_iconst d_Md_hoist_32 lt_iconst_0 ?_
    replace h := Ok_some h
    exact G_iret rfl rfl d_Md_hoist_33 (hR _ _ h)
  replace h := Ok_f c h
  refine G_iload_n d_Md_hoist_21 rfl 3 rfl ?_
  refine G_iconst d_Md_hoist_22 lt_iconst_1 ?_
  refine G_sipush d_Md_hoist_23 lt_sipush_600 ?_
  refine G_callSp (st := []) (As := [.int a3, .int (1 : Int32), .int (600 : Int32)]) d_Md_hoist_26 mi_Md_isIn w_1045 w_1046 rfl (Nat.le_of_ble_eq_true rfl) (by decide) (c_Md_isIn a3 (1 : Int32) (600 : Int32) s (Ok_bind h)) (fun v3 h hnv3 => ?_)
  refine G_if_ne (tgt := 34) d_Md_hoist_29 (by decide) (fun c => ?_) (fun c => ?_)
  · replace h := Ok_f c h
    refine G_aload_n d_Md_hoist_34 rfl 0 rfl ?_
    refine G_iload_n d_Md_hoist_35 rfl 1 rfl ?_
    refine pm_Md_leastLevel d_Md_hoist_36 w_868 (fun s4 e => ?_)
    replace h := Ok_bnd h s4 e
    clear e
    refine G_aload_n d_Md_hoist_39 rfl 0 rfl ?_
    refine G_iload_n d_Md_hoist_40 rfl 2 rfl ?_
    refine pm_Md_mostWeight d_Md_hoist_41 w_869 (fun s5 e => ?_)
    replace h := Ok_bnd h s5 e
    clear e
    refine G_aload_n d_Md_hoist_44 rfl 0 rfl ?_
    refine G_iload_n d_Md_hoist_45 rfl 3 rfl ?_
    refine pm_Md_dayMinutes d_Md_hoist_46 w_870 (fun s6 e => ?_)
    replace h := Ok_bnd h s6 e
    clear e
    refine G_iconst d_Md_hoist_49 lt_iconst_1 ?_
    replace h := Ok_some h
    exact G_iret rfl rfl d_Md_hoist_50 (hR _ _ h)
  replace h := Ok_t c h
  refine G_iconst d_Md_hoist_32 lt_iconst_0 ?_
  replace h := Ok_some h
  exact G_iret rfl rfl d_Md_hoist_33 (hR _ _ h)
theorem c_Md_hoist {l : Launch} {D : va_G} {cI cZ cJ : ClassId} {ad : Nat → Nat} (a1 a2 a3 : Int32) (s : MS) {P : Int32 → MS → Prop} (h : Ok2 (f_Md_hoist a1 a2 a3 s) P) : Ct (XM l D cI cZ cJ ad) y_Md_hoist b_Md_hoist 4 (some .boolean) 1 [.ref (ad 0), .int a1, .int a2, .int a3] s (P) :=
  Ct.of mi_Md_hoist (Nat.le_of_ble_eq_true rfl) (f_Md_hoist_w a1 a2 a3 s (Post := fun q => P q.1 q.2) (fun _ _ h => h) (Ok2_ok h))
-- Md_putStay
noncomputable def f_Md_putStay (a1 a2 a3 a4 : Int32) (s : MS) : Option MS :=
  chk (inb (s.1 4) 40) (bnd (pa s 10 (s.1 4).toNatClampNeg a1) fun s1 => chk (inb (s1.1 4) 40) (bnd (pa s1 11 (s1.1 4).toNatClampNeg a2) fun s2 => chk (inb (s2.1 4) 40) (bnd (pa s2 12 (s2.1 4).toNatClampNeg a3) fun s3 => chk (inb (s3.1 4) 40) (bnd (pa s3 13 (s3.1 4).toNatClampNeg a4) fun s4 => bnd (pf s4 4 ((s4.1 4) + (1 : Int32))) fun s5 => some s5))))
theorem f_Md_putStay_w {l : Launch} {D : va_G} {cI cZ cJ : ClassId} {ad : Nat → Nat} (a1 a2 a3 a4 : Int32) (s : MS) {Q : Int32 → MS → Prop} {Post : MS → Prop} (hR : ∀ (s9 : MS), Post (s9) → Q 0 s9) (h : Ok (f_Md_putStay a1 a2 a3 a4 s) Post) : G (XM l D cI cZ cJ ad) "SmallHarbourModel" b_Md_putStay 5 none 0 0 [(0, .ref (ad 0)), (1, .int a1), (2, .int a2), (3, .int a3), (4, .int a4)] [] s Q := by
  unfold f_Md_putStay at h
  refine G_aload_n d_Md_putStay_0 rfl 0 rfl ?_
  refine gm_Md_stayBoat d_Md_putStay_1 w_851 ?_
  refine G_aload_n d_Md_putStay_4 rfl 0 rfl ?_
  refine gm_Md_stays d_Md_putStay_5 w_850 ?_
  refine G_iload_n d_Md_putStay_8 rfl 1 rfl ?_
  refine sm_10 d_Md_putStay_9 (Ok_ld h).1 (fun s1 e => ?_)
  replace h := (Ok_ld h).2 s1 e
  clear e
  refine G_aload_n d_Md_putStay_10 rfl 0 rfl ?_
  refine gm_Md_stayBerth d_Md_putStay_11 w_852 ?_
  refine G_aload_n d_Md_putStay_14 rfl 0 rfl ?_
  refine gm_Md_stays d_Md_putStay_15 w_850 ?_
  refine G_iload_n d_Md_putStay_18 rfl 2 rfl ?_
  refine sm_11 d_Md_putStay_19 (Ok_ld h).1 (fun s2 e => ?_)
  replace h := (Ok_ld h).2 s2 e
  clear e
  refine G_aload_n d_Md_putStay_20 rfl 0 rfl ?_
  refine gm_Md_stayFrom d_Md_putStay_21 w_853 ?_
  refine G_aload_n d_Md_putStay_24 rfl 0 rfl ?_
  refine gm_Md_stays d_Md_putStay_25 w_850 ?_
  refine G_iload_n d_Md_putStay_28 rfl 3 rfl ?_
  refine sm_12 d_Md_putStay_29 (Ok_ld h).1 (fun s3 e => ?_)
  replace h := (Ok_ld h).2 s3 e
  clear e
  refine G_aload_n d_Md_putStay_30 rfl 0 rfl ?_
  refine gm_Md_stayTo d_Md_putStay_31 w_854 ?_
  refine G_aload_n d_Md_putStay_34 rfl 0 rfl ?_
  refine gm_Md_stays d_Md_putStay_35 w_850 ?_
  refine G_iload d_Md_putStay_38 4 rfl ?_
  refine sm_13 d_Md_putStay_40 (Ok_ld h).1 (fun s4 e => ?_)
  replace h := (Ok_ld h).2 s4 e
  clear e
  refine G_aload_n d_Md_putStay_41 rfl 0 rfl ?_
  refine G_dup d_Md_putStay_42 rfl ?_
  refine gm_Md_stays d_Md_putStay_43 w_850 ?_
  refine G_iconst d_Md_putStay_46 lt_iconst_1 ?_
  refine G_iadd d_Md_putStay_47 ?_
  refine pm_Md_stays d_Md_putStay_48 w_850 (fun s5 e => ?_)
  replace h := Ok_bnd h s5 e
  clear e
  replace h := Ok_some h
  exact G_vret rfl d_Md_putStay_51 (hR _ h)
theorem c_Md_putStay {l : Launch} {D : va_G} {cI cZ cJ : ClassId} {ad : Nat → Nat} (a1 a2 a3 a4 : Int32) (s : MS) {P : MS → Prop} (h : Ok (f_Md_putStay a1 a2 a3 a4 s) P) : Ct (XM l D cI cZ cJ ad) y_Md_putStay b_Md_putStay 5 none 0 [.ref (ad 0), .int a1, .int a2, .int a3, .int a4] s (fun _ s9 => P s9) :=
  Ct.of mi_Md_putStay (Nat.le_of_ble_eq_true rfl) (f_Md_putStay_w a1 a2 a3 a4 s (fun _ h => h) h)
-- Md_moveAll
noncomputable def Md_moveAll_j143 (x1 x2 : Int32) (s : MS) : Option ((Int32 × MS) ⊕ (Int32 × MS)) :=
  bnd (pf s 11 ((s.1 11) + (1 : Int32))) fun s1 => bnd (x2 + (1 : Int32)) fun v2 => some (.inl (v2, s1))
theorem Md_moveAll_j143_w {l : Launch} {D : va_G} {cI cZ cJ : ClassId} {ad : Nat → Nat} (x1 x2 : Int32) (s : MS) {Q : Int32 → MS → Prop} {Post : ((Int32 × MS) ⊕ (Int32 × MS)) → Prop} (hR : ∀ (r9 : Int32) (s9 : MS), Post (.inr ((r9, s9))) → Q r9 s9) (hL7 : ∀ (z2 : Int32) (s9 : MS), Post (.inl (z2, s9)) → G (XM l D cI cZ cJ ad) "SmallHarbourModel" b_Md_moveAll 4 (some .int) 1 7 [(0, .ref (ad 0)), (1, .int x1), (2, .int z2)] [] s9 Q) (h : Ok (Md_moveAll_j143 x1 x2 s) Post) : G (XM l D cI cZ cJ ad) "SmallHarbourModel" b_Md_moveAll 4 (some .int) 1 143 [(0, .ref (ad 0)), (1, .int x1), (2, .int x2)] [] s Q := by
  unfold Md_moveAll_j143 at h
  refine G_aload_n d_Md_moveAll_143 rfl 0 rfl ?_
  refine G_dup d_Md_moveAll_144 rfl ?_
  refine gm_Md_moves d_Md_moveAll_145 w_864 ?_
  refine G_iconst d_Md_moveAll_148 lt_iconst_1 ?_
  refine G_iadd d_Md_moveAll_149 ?_
  refine pm_Md_moves d_Md_moveAll_150 w_864 (fun s1 e => ?_)
  replace h := Ok_bnd h s1 e
  clear e
  refine G_iinc d_Md_moveAll_153 2 rfl lt_iconst_1 rfl (Nat.le_of_ble_eq_true rfl) (fun x => [(2, .int x), (0, .ref (ad 0)), (1, .int x1)]) (fun _ => rfl) (fun v2 e => ?_)
  replace h := Ok_bnd h v2 e
  clear e
  refine G_goto (tgt := 7) d_Md_moveAll_156 (by decide) ?_
  refine G_lv [1, 2, 0] rfl ?_
  replace h := Ok_some h
  exact hL7 v2 s1 h
noncomputable def Md_moveAll_l7 (x1 : Int32) (x2 : Int32) (s : MS) : Option ((Int32 × MS) ⊕ (Int32 × MS)) :=
  if (s.1 5) ≤ x2 then (xit (some ((s.1 11), s))) else (chk (inb x2 12) (bnd (s.2 14 x2.toNatClampNeg) fun v1 => chk (inb x2 12) (bnd (s.2 16 x2.toNatClampNeg) fun v2 => chk (inb v1 40) (bnd (s.2 11 v1.toNatClampNeg) fun v3 => if v2 = v3 then (bnd (x2 + (1 : Int32)) fun v17 => some (.inl (v17, s))) else (chk (inb (s.1 11) 12) (bnd (pa s 17 (s.1 11).toNatClampNeg v1) fun s4 => chk (inb x2 12) (bnd (s4.2 16 x2.toNatClampNeg) fun v5 => chk (inb (s4.1 11) 12) (bnd (pa s4 18 (s4.1 11).toNatClampNeg v5) fun s6 => chk (inb (s6.1 11) 12) (bnd (pa s6 19 (s6.1 11).toNatClampNeg v1) fun s7 => chk (inb v1 40) (bnd (s7.2 12 v1.toNatClampNeg) fun v8 => if v8 < x1 then (chk (inb (s7.1 11) 12) (bnd (pa s7 19 (s7.1 11).toNatClampNeg (s7.1 4)) fun s9 => chk (inb v1 40) (bnd (s9.2 10 v1.toNatClampNeg) fun v10 => chk (inb x2 12) (bnd (s9.2 16 x2.toNatClampNeg) fun v11 => chk (inb v1 40) (bnd (s9.2 13 v1.toNatClampNeg) fun v12 => (f_Md_putStay v10 v11 x1 v12 s9).bind fun s13 => chk (inb v1 40) (bnd (pa s13 13 v1.toNatClampNeg x1) fun s14 => Md_moveAll_j143 x1 x2 s14)))))) else (chk (inb x2 12) (bnd (s7.2 16 x2.toNatClampNeg) fun v15 => chk (inb v1 40) (bnd (pa s7 11 v1.toNatClampNeg v15) fun s16 => Md_moveAll_j143 x1 x2 s16)))))))))))))
theorem Md_moveAll_l7_w {l : Launch} {D : va_G} {cI cZ cJ : ClassId} {ad : Nat → Nat} (x1 x2 : Int32) (s : MS) {Q : Int32 → MS → Prop} {Post : ((Int32 × MS) ⊕ (Int32 × MS)) → Prop} (hR : ∀ (r9 : Int32) (s9 : MS), Post (.inr ((r9, s9))) → Q r9 s9) (hL7 : ∀ (z2 : Int32) (s9 : MS), Post (.inl (z2, s9)) → G (XM l D cI cZ cJ ad) "SmallHarbourModel" b_Md_moveAll 4 (some .int) 1 7 [(0, .ref (ad 0)), (1, .int x1), (2, .int z2)] [] s9 Q) (h : Ok (Md_moveAll_l7 x1 x2 s) Post) : G (XM l D cI cZ cJ ad) "SmallHarbourModel" b_Md_moveAll 4 (some .int) 1 7 [(0, .ref (ad 0)), (1, .int x1), (2, .int x2)] [] s Q := by
  unfold Md_moveAll_l7 at h
  refine G_iload_n d_Md_moveAll_7 rfl 2 rfl ?_
  refine G_aload_n d_Md_moveAll_8 rfl 0 rfl ?_
  refine gm_Md_many d_Md_moveAll_9 w_856 ?_
  refine G_icmp_ge (tgt := 159) d_Md_moveAll_12 (by decide) (fun c => ?_) (fun c => ?_)
  · replace h := Ok_t c h
    replace h := Ok_xit h
    refine G_aload_n d_Md_moveAll_159 rfl 0 rfl ?_
    refine gm_Md_moves d_Md_moveAll_160 w_864 ?_
    replace h := Ok_some h
    exact G_iret rfl (vp_nar_int _) d_Md_moveAll_163 (hR _ _ h)
  replace h := Ok_f c h
  refine G_aload_n d_Md_moveAll_15 rfl 0 rfl ?_
  refine gm_Md_these d_Md_moveAll_16 w_855 ?_
  refine G_iload_n d_Md_moveAll_19 rfl 2 rfl ?_
  refine lm_14 d_Md_moveAll_20 (Ok_ld h).1 (fun v1 e => ?_)
  replace h := (Ok_ld h).2 v1 e
  clear e
  refine G_istore_n d_Md_moveAll_21 rfl (Nat.le_of_ble_eq_true rfl) (fun x => [(3, .int x), (0, .ref (ad 0)), (1, .int x1), (2, .int x2)]) (fun _ => rfl) (fun x e => ?_)
  subst e
  refine G_aload_n d_Md_moveAll_22 rfl 1 rfl ?_
  refine gm_Md_best d_Md_moveAll_23 w_858 ?_
  refine G_iload_n d_Md_moveAll_26 rfl 3 rfl ?_
  refine lm_16 d_Md_moveAll_27 (Ok_ld h).1 (fun v2 e => ?_)
  replace h := (Ok_ld h).2 v2 e
  clear e
  refine G_aload_n d_Md_moveAll_28 rfl 1 rfl ?_
  refine gm_Md_stayBerth d_Md_moveAll_29 w_852 ?_
  refine G_iload_n d_Md_moveAll_32 rfl 0 rfl ?_
  refine lm_11 d_Md_moveAll_33 (Ok_ld h).1 (fun v3 e => ?_)
  replace h := (Ok_ld h).2 v3 e
  clear e
  refine G_icmp_ne (tgt := 40) d_Md_moveAll_34 (by decide) (fun c => ?_) (fun c => ?_)
  · replace h := Ok_f c h
    refine G_aload_n d_Md_moveAll_40 rfl 1 rfl ?_
    refine gm_Md_movedStay d_Md_moveAll_41 w_865 ?_
    refine G_aload_n d_Md_moveAll_44 rfl 1 rfl ?_
    refine gm_Md_moves d_Md_moveAll_45 w_864 ?_
    refine G_iload_n d_Md_moveAll_48 rfl 0 rfl ?_
    refine sm_17 d_Md_moveAll_49 (Ok_ld h).1 (fun s4 e => ?_)
    replace h := (Ok_ld h).2 s4 e
    clear e
    refine G_aload_n d_Md_moveAll_50 rfl 1 rfl ?_
    refine gm_Md_movedBerth d_Md_moveAll_51 w_866 ?_
    refine G_aload_n d_Md_moveAll_54 rfl 1 rfl ?_
    refine gm_Md_moves d_Md_moveAll_55 w_864 ?_
    refine G_aload_n d_Md_moveAll_58 rfl 1 rfl ?_
    refine gm_Md_best d_Md_moveAll_59 w_858 ?_
    refine G_iload_n d_Md_moveAll_62 rfl 3 rfl ?_
    refine lm_16 d_Md_moveAll_63 (Ok_ld h).1 (fun v5 e => ?_)
    replace h := (Ok_ld h).2 v5 e
    clear e
    refine sm_18 d_Md_moveAll_64 (Ok_ld h).1 (fun s6 e => ?_)
    replace h := (Ok_ld h).2 s6 e
    clear e
    refine G_aload_n d_Md_moveAll_65 rfl 1 rfl ?_
    refine gm_Md_movedNow d_Md_moveAll_66 w_867 ?_
    refine G_aload_n d_Md_moveAll_69 rfl 1 rfl ?_
    refine gm_Md_moves d_Md_moveAll_70 w_864 ?_
    refine G_iload_n d_Md_moveAll_73 rfl 0 rfl ?_
    refine sm_19 d_Md_moveAll_74 (Ok_ld h).1 (fun s7 e => ?_)
    replace h := (Ok_ld h).2 s7 e
    clear e
    refine G_aload_n d_Md_moveAll_75 rfl 1 rfl ?_
    refine gm_Md_stayFrom d_Md_moveAll_76 w_853 ?_
    refine G_iload_n d_Md_moveAll_79 rfl 0 rfl ?_
    refine lm_12 d_Md_moveAll_80 (Ok_ld h).1 (fun v8 e => ?_)
    replace h := (Ok_ld h).2 v8 e
    clear e
    refine G_iload_n d_Md_moveAll_81 rfl 2 rfl ?_
    refine G_icmp_lt (tgt := 100) d_Md_moveAll_82 (by decide) (fun c => ?_) (fun c => ?_)
    · replace h := Ok_t c h
      refine G_aload_n d_Md_moveAll_100 rfl 1 rfl ?_
      refine gm_Md_movedNow d_Md_moveAll_101 w_867 ?_
      refine G_aload_n d_Md_moveAll_104 rfl 1 rfl ?_
      refine gm_Md_moves d_Md_moveAll_105 w_864 ?_
      refine G_aload_n d_Md_moveAll_108 rfl 1 rfl ?_
      refine gm_Md_stays d_Md_moveAll_109 w_850 ?_
      refine sm_19 d_Md_moveAll_112 (Ok_ld h).1 (fun s9 e => ?_)
      replace h := (Ok_ld h).2 s9 e
      clear e
      refine G_aload_n d_Md_moveAll_113 rfl 1 rfl ?_
      refine G_aload_n d_Md_moveAll_114 rfl 1 rfl ?_
      refine gm_Md_stayBoat d_Md_moveAll_115 w_851 ?_
      refine G_iload_n d_Md_moveAll_118 rfl 0 rfl ?_
      refine lm_10 d_Md_moveAll_119 (Ok_ld h).1 (fun v10 e => ?_)
      replace h := (Ok_ld h).2 v10 e
      clear e
      refine G_aload_n d_Md_moveAll_120 rfl 1 rfl ?_
      refine gm_Md_best d_Md_moveAll_121 w_858 ?_
      refine G_iload_n d_Md_moveAll_124 rfl 3 rfl ?_
      refine lm_16 d_Md_moveAll_125 (Ok_ld h).1 (fun v11 e => ?_)
      replace h := (Ok_ld h).2 v11 e
      clear e
      refine G_iload_n d_Md_moveAll_126 rfl 2 rfl ?_
      refine G_aload_n d_Md_moveAll_127 rfl 1 rfl ?_
      refine gm_Md_stayTo d_Md_moveAll_128 w_854 ?_
      refine G_iload_n d_Md_moveAll_131 rfl 0 rfl ?_
      refine lm_13 d_Md_moveAll_132 (Ok_ld h).1 (fun v12 e => ?_)
      replace h := (Ok_ld h).2 v12 e
      clear e
      refine G_callVv (st := []) (As := [.int v10, .int v11, .int x1, .int v12]) (b := ad 0) d_Md_moveAll_133 mi_Md_putStay w_1112 0 rfl rfl mv_Md_putStay rfl (Nat.le_of_ble_eq_true rfl) (by decide) (c_Md_putStay v10 v11 x1 v12 s9 (Ok_bind h)) (fun s13 h => ?_)
      refine G_aload_n d_Md_moveAll_136 rfl 1 rfl ?_
      refine gm_Md_stayTo d_Md_moveAll_137 w_854 ?_
      refine G_iload_n d_Md_moveAll_140 rfl 0 rfl ?_
      refine G_iload_n d_Md_moveAll_141 rfl 2 rfl ?_
      refine sm_13 d_Md_moveAll_142 (Ok_ld h).1 (fun s14 e => ?_)
      replace h := (Ok_ld h).2 s14 e
      clear e
      refine G_lv [1, 2, 3] rfl ?_
      refine Md_moveAll_j143_w x1 x2 s14 ?_ ?_ h
      · exact hR
      · exact hL7
    replace h := Ok_f c h
    refine G_aload_n d_Md_moveAll_85 rfl 1 rfl ?_
    refine gm_Md_stayBerth d_Md_moveAll_86 w_852 ?_
    refine G_iload_n d_Md_moveAll_89 rfl 0 rfl ?_
    refine G_aload_n d_Md_moveAll_90 rfl 1 rfl ?_
    refine gm_Md_best d_Md_moveAll_91 w_858 ?_
    refine G_iload_n d_Md_moveAll_94 rfl 3 rfl ?_
    refine lm_16 d_Md_moveAll_95 (Ok_ld h).1 (fun v15 e => ?_)
    replace h := (Ok_ld h).2 v15 e
    clear e
    refine sm_11 d_Md_moveAll_96 (Ok_ld h).1 (fun s16 e => ?_)
    replace h := (Ok_ld h).2 s16 e
    clear e
    refine G_goto (tgt := 143) d_Md_moveAll_97 (by decide) ?_
    refine G_lv [1, 2, 3] rfl ?_
    refine Md_moveAll_j143_w x1 x2 s16 ?_ ?_ h
    · exact hR
    · exact hL7
  replace h := Ok_t c h
  refine G_goto (tgt := 153) d_Md_moveAll_37 (by decide) ?_
  refine G_iinc d_Md_moveAll_153 3 rfl lt_iconst_1 rfl (Nat.le_of_ble_eq_true rfl) (fun x => [(2, .int x), (3, .int v1), (0, .ref (ad 0)), (1, .int x1)]) (fun _ => rfl) (fun v17 e => ?_)
  replace h := Ok_bnd h v17 e
  clear e
  refine G_goto (tgt := 7) d_Md_moveAll_156 (by decide) ?_
  refine G_lv [2, 3, 0] rfl ?_
  replace h := Ok_some h
  exact hL7 v17 s h
noncomputable def f_Md_moveAll (a1 : Int32) (s : MS) : Option (Int32 × MS) :=
  bnd (pf s 11 (0 : Int32)) fun s1 => loop (fun z => Md_moveAll_l7 a1 z.1 z.2) ((0 : Int32), s1)
theorem f_Md_moveAll_w {l : Launch} {D : va_G} {cI cZ cJ : ClassId} {ad : Nat → Nat} (a1 : Int32) (s : MS) {Q : Int32 → MS → Prop} {Post : (Int32 × MS) → Prop} (hR : ∀ (r9 : Int32) (s9 : MS), Post ((r9, s9)) → Q r9 s9) (h : Ok (f_Md_moveAll a1 s) Post) : G (XM l D cI cZ cJ ad) "SmallHarbourModel" b_Md_moveAll 4 (some .int) 1 0 [(0, .ref (ad 0)), (1, .int a1)] [] s Q := by
  unfold f_Md_moveAll at h
  refine G_aload_n d_Md_moveAll_0 rfl 0 rfl ?_
  refine G_iconst d_Md_moveAll_1 lt_iconst_0 ?_
  refine pm_Md_moves d_Md_moveAll_2 w_864 (fun s1 e => ?_)
  replace h := Ok_bnd h s1 e
  clear e
  refine G_iconst d_Md_moveAll_5 lt_iconst_0 ?_
  refine G_istore_n d_Md_moveAll_6 rfl (Nat.le_of_ble_eq_true rfl) (fun x => [(2, .int x), (0, .ref (ad 0)), (1, .int a1)]) (fun _ => rfl) (fun x e => ?_)
  subst e
  refine G_lv [1, 2, 0] rfl ?_
  refine G_loop (J := (fun z => G (XM l D cI cZ cJ ad) "SmallHarbourModel" b_Md_moveAll 4 (some .int) 1 7 [(0, .ref (ad 0)), (1, .int a1), (2, .int (z.1))] [] z.2 Q)) (fun z h => ?_) ((0 : Int32), s1) h
  refine Md_moveAll_l7_w a1 z.1 z.2 ?_ ?_ h
  · exact hR
  · exact (fun z2 s9 h => h)
theorem c_Md_moveAll {l : Launch} {D : va_G} {cI cZ cJ : ClassId} {ad : Nat → Nat} (a1 : Int32) (s : MS) {P : Int32 → MS → Prop} (h : Ok2 (f_Md_moveAll a1 s) P) : Ct (XM l D cI cZ cJ ad) y_Md_moveAll b_Md_moveAll 4 (some .int) 1 [.ref (ad 0), .int a1] s (P) :=
  Ct.of mi_Md_moveAll (Nat.le_of_ble_eq_true rfl) (f_Md_moveAll_w a1 s (Post := fun q => P q.1 q.2) (fun _ _ h => h) (Ok2_ok h))
-- Md_isTry
noncomputable def Md_isTry_l95 (x1 x2 x3 : Int32) (s : MS) (x4 : Int32) : Option ((Int32) ⊕ Int32) :=
  if x1 ≤ x4 then (xit (some (1 : Int32))) else (chk (inb x4 12) (bnd (s.2 15 x4.toNatClampNeg) fun v1 => if v1 = x2 then ((f_Md_firstNight x4 s).bind fun v3 => chk (inb x3 40) (bnd (s.2 13 x3.toNatClampNeg) fun v4 => if v4 ≤ v3 then (bnd (x4 + (1 : Int32)) fun v5 => some (.inl v5)) else ((f_Md_firstNight x1 s).bind fun v6 => chk (inb x4 12) (bnd (s.2 14 x4.toNatClampNeg) fun v7 => chk (inb v7 40) (bnd (s.2 13 v7.toNatClampNeg) fun v8 => if v8 ≤ v6 then (bnd (x4 + (1 : Int32)) fun v9 => some (.inl v9)) else (xit (some (0 : Int32)))))))) else (bnd (x4 + (1 : Int32)) fun v2 => some (.inl v2))))
theorem Md_isTry_l95_w {l : Launch} {D : va_G} {cI cZ cJ : ClassId} {ad : Nat → Nat} (x1 x2 x3 x4 : Int32) (s : MS) {Q : Int32 → MS → Prop} {Post : ((Int32) ⊕ Int32) → Prop} (hR : ∀ (r9 : Int32), Post (.inr (r9)) → Q r9 s) (hL95 : ∀ (z4 : Int32) , Post (.inl z4) → G (XM l D cI cZ cJ ad) "SmallHarbourModel" b_Md_isTry 5 (some .boolean) 2 95 [(0, .ref (ad 0)), (1, .int x1), (2, .int x2), (3, .int x3), (4, .int z4)] [] s Q) (h : Ok (Md_isTry_l95 x1 x2 x3 s x4) Post) : G (XM l D cI cZ cJ ad) "SmallHarbourModel" b_Md_isTry 5 (some .boolean) 2 95 [(0, .ref (ad 0)), (1, .int x1), (2, .int x2), (3, .int x3), (4, .int x4)] [] s Q := by
  unfold Md_isTry_l95 at h
  refine G_iload d_Md_isTry_95 4 rfl ?_
  refine G_iload_n d_Md_isTry_97 rfl 1 rfl ?_
  refine G_icmp_ge (tgt := 155) d_Md_isTry_98 (by decide) (fun c => ?_) (fun c => ?_)
  · replace h := Ok_t c h
    replace h := Ok_xit h
    refine G_iconst d_Md_isTry_155 lt_iconst_1 ?_
    replace h := Ok_some h
    exact G_iret rfl rfl d_Md_isTry_156 (hR _ h)
  replace h := Ok_f c h
  refine G_aload_n d_Md_isTry_101 rfl 0 rfl ?_
  refine gm_Md_put d_Md_isTry_102 w_857 ?_
  refine G_iload d_Md_isTry_105 4 rfl ?_
  refine lm_15 d_Md_isTry_107 (Ok_ld h).1 (fun v1 e => ?_)
  replace h := (Ok_ld h).2 v1 e
  clear e
  refine G_iload_n d_Md_isTry_108 rfl 2 rfl ?_
  refine G_icmp_ne (tgt := 149) d_Md_isTry_109 (by decide) (fun c => ?_) (fun c => ?_)
  · replace h := Ok_f c h
    refine G_iinc d_Md_isTry_149 4 rfl lt_iconst_1 rfl (Nat.le_of_ble_eq_true rfl) (fun x => [(4, .int x), (0, .ref (ad 0)), (1, .int x1), (2, .int x2), (3, .int x3)]) (fun _ => rfl) (fun v2 e => ?_)
    replace h := Ok_bnd h v2 e
    clear e
    refine G_goto (tgt := 95) d_Md_isTry_152 (by decide) ?_
    refine G_lv [1, 2, 3, 4, 0] rfl ?_
    replace h := Ok_some h
    exact hL95 v2 h
  replace h := Ok_t c h
  refine G_aload_n d_Md_isTry_112 rfl 0 rfl ?_
  refine G_iload d_Md_isTry_113 4 rfl ?_
  refine G_callVp (st := []) (As := [.int x4]) (b := ad 0) d_Md_isTry_115 mi_Md_firstNight w_1140 0 rfl rfl mv_Md_firstNight rfl (Nat.le_of_ble_eq_true rfl) (by decide) (c_Md_firstNight x4 s (Ok_bind h)) (fun v3 h hnv3 => ?_)
  refine G_aload_n d_Md_isTry_118 rfl 0 rfl ?_
  refine gm_Md_stayTo d_Md_isTry_119 w_854 ?_
  refine G_iload_n d_Md_isTry_122 rfl 3 rfl ?_
  refine lm_13 d_Md_isTry_123 (Ok_ld h).1 (fun v4 e => ?_)
  replace h := (Ok_ld h).2 v4 e
  clear e
  refine G_icmp_ge (tgt := 149) d_Md_isTry_124 (by decide) (fun c => ?_) (fun c => ?_)
  · replace h := Ok_t c h
    refine G_iinc d_Md_isTry_149 4 rfl lt_iconst_1 rfl (Nat.le_of_ble_eq_true rfl) (fun x => [(4, .int x), (0, .ref (ad 0)), (1, .int x1), (2, .int x2), (3, .int x3)]) (fun _ => rfl) (fun v5 e => ?_)
    replace h := Ok_bnd h v5 e
    clear e
    refine G_goto (tgt := 95) d_Md_isTry_152 (by decide) ?_
    refine G_lv [1, 2, 3, 4, 0] rfl ?_
    replace h := Ok_some h
    exact hL95 v5 h
  replace h := Ok_f c h
  refine G_aload_n d_Md_isTry_127 rfl 0 rfl ?_
  refine G_iload_n d_Md_isTry_128 rfl 1 rfl ?_
  refine G_callVp (st := []) (As := [.int x1]) (b := ad 0) d_Md_isTry_129 mi_Md_firstNight w_1140 0 rfl rfl mv_Md_firstNight rfl (Nat.le_of_ble_eq_true rfl) (by decide) (c_Md_firstNight x1 s (Ok_bind h)) (fun v6 h hnv6 => ?_)
  refine G_aload_n d_Md_isTry_132 rfl 0 rfl ?_
  refine gm_Md_stayTo d_Md_isTry_133 w_854 ?_
  refine G_aload_n d_Md_isTry_136 rfl 0 rfl ?_
  refine gm_Md_these d_Md_isTry_137 w_855 ?_
  refine G_iload d_Md_isTry_140 4 rfl ?_
  refine lm_14 d_Md_isTry_142 (Ok_ld h).1 (fun v7 e => ?_)
  replace h := (Ok_ld h).2 v7 e
  clear e
  refine lm_13 d_Md_isTry_143 (Ok_ld h).1 (fun v8 e => ?_)
  replace h := (Ok_ld h).2 v8 e
  clear e
  refine G_icmp_ge (tgt := 149) d_Md_isTry_144 (by decide) (fun c => ?_) (fun c => ?_)
  · replace h := Ok_t c h
    refine G_iinc d_Md_isTry_149 4 rfl lt_iconst_1 rfl (Nat.le_of_ble_eq_true rfl) (fun x => [(4, .int x), (0, .ref (ad 0)), (1, .int x1), (2, .int x2), (3, .int x3)]) (fun _ => rfl) (fun v9 e => ?_)
    replace h := Ok_bnd h v9 e
    clear e
    refine G_goto (tgt := 95) d_Md_isTry_152 (by decide) ?_
    refine G_lv [1, 2, 3, 4, 0] rfl ?_
    replace h := Ok_some h
    exact hL95 v9 h
  replace h := Ok_f c h
  replace h := Ok_xit h
  refine G_iconst d_Md_isTry_147 lt_iconst_0 ?_
  replace h := Ok_some h
  exact G_iret rfl rfl d_Md_isTry_148 (hR _ h)
noncomputable def Md_isTry_l41 (x1 x2 x3 : Int32) (s : MS) (x4 : Int32) : Option ((Int32) ⊕ Int32) :=
  chk (inb x3 40) (bnd (s.2 13 x3.toNatClampNeg) fun v1 => if v1 ≤ x4 then (xit (loop (fun z => Md_isTry_l95 x1 x2 x3 s z) (0 : Int32))) else ((f_Md_atHome x2 x4 s).bind fun v2 => if 0 ≤ v2 then (xit (some (0 : Int32))) else (chk (inb (s.1 9) 30) (bnd (s.2 6 (s.1 9).toNatClampNeg) fun v3 => if v3 = x2 then (if (s.1 10) ≤ x4 then (bnd (x4 + (1 : Int32)) fun v5 => some (.inl v5)) else (xit (some (0 : Int32)))) else (bnd (x4 + (1 : Int32)) fun v4 => some (.inl v4))))))
theorem Md_isTry_l41_w {l : Launch} {D : va_G} {cI cZ cJ : ClassId} {ad : Nat → Nat} (x1 x2 x3 x4 : Int32) (s : MS) {Q : Int32 → MS → Prop} {Post : ((Int32) ⊕ Int32) → Prop} (hR : ∀ (r9 : Int32), Post (.inr (r9)) → Q r9 s) (hL41 : ∀ (z4 : Int32) , Post (.inl z4) → G (XM l D cI cZ cJ ad) "SmallHarbourModel" b_Md_isTry 5 (some .boolean) 2 41 [(0, .ref (ad 0)), (1, .int x1), (2, .int x2), (3, .int x3), (4, .int z4)] [] s Q) (h : Ok (Md_isTry_l41 x1 x2 x3 s x4) Post) : G (XM l D cI cZ cJ ad) "SmallHarbourModel" b_Md_isTry 5 (some .boolean) 2 41 [(0, .ref (ad 0)), (1, .int x1), (2, .int x2), (3, .int x3), (4, .int x4)] [] s Q := by
  unfold Md_isTry_l41 at h
  refine G_iload d_Md_isTry_41 4 rfl ?_
  refine G_aload_n d_Md_isTry_43 rfl 0 rfl ?_
  refine gm_Md_stayTo d_Md_isTry_44 w_854 ?_
  refine G_iload_n d_Md_isTry_47 rfl 3 rfl ?_
  refine lm_13 d_Md_isTry_48 (Ok_ld h).1 (fun v1 e => ?_)
  replace h := (Ok_ld h).2 v1 e
  clear e
  refine G_icmp_ge (tgt := 92) d_Md_isTry_49 (by decide) (fun c => ?_) (fun c => ?_)
  · replace h := Ok_t c h
    replace h := Ok_xit h
    refine G_iconst d_Md_isTry_92 lt_iconst_0 ?_
    refine G_istore d_Md_isTry_93 (Nat.le_of_ble_eq_true rfl) (fun x => [(4, .int x), (0, .ref (ad 0)), (1, .int x1), (2, .int x2), (3, .int x3)]) (fun _ => rfl) (fun x e => ?_)
    subst e
    refine G_lv [1, 2, 3, 4, 0] rfl ?_
    refine G_loop (J := (fun z => G (XM l D cI cZ cJ ad) "SmallHarbourModel" b_Md_isTry 5 (some .boolean) 2 95 [(0, .ref (ad 0)), (1, .int x1), (2, .int x2), (3, .int x3), (4, .int z)] [] s Q)) (fun z h => ?_) (0 : Int32) h
    refine Md_isTry_l95_w x1 x2 x3 z s ?_ ?_ h
    · exact hR
    · exact (fun z4 h => h)
  replace h := Ok_f c h
  refine G_aload_n d_Md_isTry_52 rfl 0 rfl ?_
  refine G_iload_n d_Md_isTry_53 rfl 2 rfl ?_
  refine G_iload d_Md_isTry_54 4 rfl ?_
  refine G_callVp (st := []) (As := [.int x2, .int x4]) (b := ad 0) d_Md_isTry_56 mi_Md_atHome w_1104 0 rfl rfl mv_Md_atHome rfl (Nat.le_of_ble_eq_true rfl) (by decide) (c_Md_atHome x2 x4 s (Ok_bind h)) (fun v2 h hnv2 => ?_)
  refine G_if_ge (tgt := 84) d_Md_isTry_59 (by decide) (fun c => ?_) (fun c => ?_)
  · replace h := Ok_t c h
    replace h := Ok_xit h
    refine G_iconst d_Md_isTry_84 lt_iconst_0 ?_
    replace h := Ok_some h
    exact G_iret rfl rfl d_Md_isTry_85 (hR _ h)
  replace h := Ok_f c h
  refine G_aload_n d_Md_isTry_62 rfl 0 rfl ?_
  refine gm_Md_home d_Md_isTry_63 w_845 ?_
  refine G_aload_n d_Md_isTry_66 rfl 0 rfl ?_
  refine gm_Md_coming d_Md_isTry_67 w_862 ?_
  refine lm_6 d_Md_isTry_70 (Ok_ld h).1 (fun v3 e => ?_)
  replace h := (Ok_ld h).2 v3 e
  clear e
  refine G_iload_n d_Md_isTry_71 rfl 2 rfl ?_
  refine G_icmp_ne (tgt := 86) d_Md_isTry_72 (by decide) (fun c => ?_) (fun c => ?_)
  · replace h := Ok_f c h
    refine G_iinc d_Md_isTry_86 4 rfl lt_iconst_1 rfl (Nat.le_of_ble_eq_true rfl) (fun x => [(4, .int x), (0, .ref (ad 0)), (1, .int x1), (2, .int x2), (3, .int x3)]) (fun _ => rfl) (fun v4 e => ?_)
    replace h := Ok_bnd h v4 e
    clear e
    refine G_goto (tgt := 41) d_Md_isTry_89 (by decide) ?_
    refine G_lv [1, 2, 3, 4, 0] rfl ?_
    replace h := Ok_some h
    exact hL41 v4 h
  replace h := Ok_t c h
  refine G_iload d_Md_isTry_75 4 rfl ?_
  refine G_aload_n d_Md_isTry_77 rfl 0 rfl ?_
  refine gm_Md_comesTo d_Md_isTry_78 w_863 ?_
  refine G_icmp_ge (tgt := 86) d_Md_isTry_81 (by decide) (fun c => ?_) (fun c => ?_)
  · replace h := Ok_t c h
    refine G_iinc d_Md_isTry_86 4 rfl lt_iconst_1 rfl (Nat.le_of_ble_eq_true rfl) (fun x => [(4, .int x), (0, .ref (ad 0)), (1, .int x1), (2, .int x2), (3, .int x3)]) (fun _ => rfl) (fun v5 e => ?_)
    replace h := Ok_bnd h v5 e
    clear e
    refine G_goto (tgt := 41) d_Md_isTry_89 (by decide) ?_
    refine G_lv [1, 2, 3, 4, 0] rfl ?_
    replace h := Ok_some h
    exact hL41 v5 h
  replace h := Ok_f c h
  replace h := Ok_xit h
  refine G_iconst d_Md_isTry_84 lt_iconst_0 ?_
  replace h := Ok_some h
  exact G_iret rfl rfl d_Md_isTry_85 (hR _ h)
noncomputable def f_Md_isTry (a1 a2 : Int32) (s : MS) : Option Int32 :=
  chk (inb a1 12) (bnd (s.2 14 a1.toNatClampNeg) fun v1 => chk (inb v1 40) (bnd (s.2 10 v1.toNatClampNeg) fun v2 => (f_Md_firstNight a1 s).bind fun v3 => chk (inb v1 40) (bnd (s.2 13 v1.toNatClampNeg) fun v4 => (f_Md_fitsAll v2 a2 v3 v4 s).bind fun v5 => if v5 = 0 then (some (0 : Int32)) else ((f_Md_firstNight a1 s).bind fun v6 => loop (fun z => Md_isTry_l41 a1 a2 v1 s z) v6))))
theorem f_Md_isTry_w {l : Launch} {D : va_G} {cI cZ cJ : ClassId} {ad : Nat → Nat} (a1 a2 : Int32) (s : MS) {Q : Int32 → MS → Prop} {Post : Int32 → Prop} (hR : ∀ (r9 : Int32), Post (r9) → Q r9 s) (h : Ok (f_Md_isTry a1 a2 s) Post) : G (XM l D cI cZ cJ ad) "SmallHarbourModel" b_Md_isTry 5 (some .boolean) 2 0 [(0, .ref (ad 0)), (1, .int a1), (2, .int a2)] [] s Q := by
  unfold f_Md_isTry at h
  refine G_aload_n d_Md_isTry_0 rfl 0 rfl ?_
  refine gm_Md_these d_Md_isTry_1 w_855 ?_
  refine G_iload_n d_Md_isTry_4 rfl 1 rfl ?_
  refine lm_14 d_Md_isTry_5 (Ok_ld h).1 (fun v1 e => ?_)
  replace h := (Ok_ld h).2 v1 e
  clear e
  refine G_istore_n d_Md_isTry_6 rfl (Nat.le_of_ble_eq_true rfl) (fun x => [(3, .int x), (0, .ref (ad 0)), (1, .int a1), (2, .int a2)]) (fun _ => rfl) (fun x e => ?_)
  subst e
  refine G_aload_n d_Md_isTry_7 rfl 1 rfl ?_
  refine G_aload_n d_Md_isTry_8 rfl 1 rfl ?_
  refine gm_Md_stayBoat d_Md_isTry_9 w_851 ?_
  refine G_iload_n d_Md_isTry_12 rfl 0 rfl ?_
  refine lm_10 d_Md_isTry_13 (Ok_ld h).1 (fun v2 e => ?_)
  replace h := (Ok_ld h).2 v2 e
  clear e
  refine G_iload_n d_Md_isTry_14 rfl 3 rfl ?_
  refine G_aload_n d_Md_isTry_15 rfl 1 rfl ?_
  refine G_iload_n d_Md_isTry_16 rfl 2 rfl ?_
  refine G_callVp (st := [.int a2, .int v2, .ref (ad 0)]) (As := [.int a1]) (b := ad 0) d_Md_isTry_17 mi_Md_firstNight w_1140 0 rfl rfl mv_Md_firstNight rfl (Nat.le_of_ble_eq_true rfl) (by decide) (c_Md_firstNight a1 s (Ok_bind h)) (fun v3 h hnv3 => ?_)
  refine G_aload_n d_Md_isTry_20 rfl 1 rfl ?_
  refine gm_Md_stayTo d_Md_isTry_21 w_854 ?_
  refine G_iload_n d_Md_isTry_24 rfl 0 rfl ?_
  refine lm_13 d_Md_isTry_25 (Ok_ld h).1 (fun v4 e => ?_)
  replace h := (Ok_ld h).2 v4 e
  clear e
  refine G_callVp (st := []) (As := [.int v2, .int a2, .int v3, .int v4]) (b := ad 0) d_Md_isTry_26 mi_Md_fitsAll w_1092 0 rfl rfl mv_Md_fitsAll rfl (Nat.le_of_ble_eq_true rfl) (by decide) (c_Md_fitsAll v2 a2 v3 v4 s (Ok_bind h)) (fun v5 h hnv5 => ?_)
  refine G_if_ne (tgt := 34) d_Md_isTry_29 (by decide) (fun c => ?_) (fun c => ?_)
  · replace h := Ok_f c h
    refine G_aload_n d_Md_isTry_34 rfl 1 rfl ?_
    refine G_iload_n d_Md_isTry_35 rfl 2 rfl ?_
    refine G_callVp (st := []) (As := [.int a1]) (b := ad 0) d_Md_isTry_36 mi_Md_firstNight w_1140 0 rfl rfl mv_Md_firstNight rfl (Nat.le_of_ble_eq_true rfl) (by decide) (c_Md_firstNight a1 s (Ok_bind h)) (fun v6 h hnv6 => ?_)
    refine G_istore d_Md_isTry_39 (Nat.le_of_ble_eq_true rfl) (fun x => [(4, .int x), (3, .int v1), (0, .ref (ad 0)), (1, .int a1), (2, .int a2)]) (fun _ => rfl) (fun x e => ?_)
    subst e
    refine G_lv [2, 3, 4, 1, 0] rfl ?_
    refine G_loop (J := (fun z => G (XM l D cI cZ cJ ad) "SmallHarbourModel" b_Md_isTry 5 (some .boolean) 2 41 [(0, .ref (ad 0)), (1, .int a1), (2, .int a2), (3, .int v1), (4, .int z)] [] s Q)) (fun z h => ?_) v6 h
    refine Md_isTry_l41_w a1 a2 v1 z s ?_ ?_ h
    · exact hR
    · exact (fun z4 h => h)
  replace h := Ok_t c h
  refine G_iconst d_Md_isTry_32 lt_iconst_0 ?_
  replace h := Ok_some h
  exact G_iret rfl rfl d_Md_isTry_33 (hR _ h)
theorem c_Md_isTry {l : Launch} {D : va_G} {cI cZ cJ : ClassId} {ad : Nat → Nat} (a1 a2 : Int32) (s : MS) {P : Int32 → Prop} (h : Ok (f_Md_isTry a1 a2 s) P) : Ct (XM l D cI cZ cJ ad) y_Md_isTry b_Md_isTry 5 (some .boolean) 2 [.ref (ad 0), .int a1, .int a2] s (fun r9 s9 => s9 = s ∧ P r9) :=
  Ct.of mi_Md_isTry (Nat.le_of_ble_eq_true rfl) (f_Md_isTry_w a1 a2 s (fun _ h => ⟨rfl, h⟩) h)
-- Md_movesTo
noncomputable def Md_movesTo_l4 (x1 : Int32) (s : MS) (x2 x3 : Int32) : Option ((Int32 × Int32) ⊕ Int32) :=
  if x1 < x3 then (xit (some x2)) else (chk (inb x3 12) (bnd (s.2 15 x3.toNatClampNeg) fun v1 => chk (inb x3 12) (bnd (s.2 14 x3.toNatClampNeg) fun v2 => chk (inb v2 40) (bnd (s.2 11 v2.toNatClampNeg) fun v3 => if v1 = v3 then (bnd (x2 + (0 : Int32)) fun v4 => bnd (x3 + (1 : Int32)) fun v5 => some (.inl (v4, v5))) else (bnd (x2 + (1 : Int32)) fun v6 => bnd (x3 + (1 : Int32)) fun v7 => some (.inl (v6, v7)))))))
theorem Md_movesTo_l4_w {l : Launch} {D : va_G} {cI cZ cJ : ClassId} {ad : Nat → Nat} (x1 x2 x3 : Int32) (s : MS) {Q : Int32 → MS → Prop} {Post : ((Int32 × Int32) ⊕ Int32) → Prop} (hR : ∀ (r9 : Int32), Post (.inr (r9)) → Q r9 s) (hL4 : ∀ (z2 z3 : Int32) , Post (.inl (z2, z3)) → G (XM l D cI cZ cJ ad) "SmallHarbourModel" b_Md_movesTo 4 (some .int) 0 4 [(0, .ref (ad 0)), (1, .int x1), (2, .int z2), (3, .int z3)] [] s Q) (h : Ok (Md_movesTo_l4 x1 s x2 x3) Post) : G (XM l D cI cZ cJ ad) "SmallHarbourModel" b_Md_movesTo 4 (some .int) 0 4 [(0, .ref (ad 0)), (1, .int x1), (2, .int x2), (3, .int x3)] [] s Q := by
  unfold Md_movesTo_l4 at h
  refine G_iload_n d_Md_movesTo_4 rfl 3 rfl ?_
  refine G_iload_n d_Md_movesTo_5 rfl 1 rfl ?_
  refine G_icmp_gt (tgt := 43) d_Md_movesTo_6 (by decide) (fun c => ?_) (fun c => ?_)
  · replace h := Ok_t c h
    replace h := Ok_xit h
    refine G_iload_n d_Md_movesTo_43 rfl 2 rfl ?_
    replace h := Ok_some h
    exact G_iret rfl (vp_nar_int _) d_Md_movesTo_44 (hR _ h)
  replace h := Ok_f c h
  refine G_iload_n d_Md_movesTo_9 rfl 2 rfl ?_
  refine G_aload_n d_Md_movesTo_10 rfl 0 rfl ?_
  refine gm_Md_put d_Md_movesTo_11 w_857 ?_
  refine G_iload_n d_Md_movesTo_14 rfl 3 rfl ?_
  refine lm_15 d_Md_movesTo_15 (Ok_ld h).1 (fun v1 e => ?_)
  replace h := (Ok_ld h).2 v1 e
  clear e
  refine G_aload_n d_Md_movesTo_16 rfl 0 rfl ?_
  refine gm_Md_stayBerth d_Md_movesTo_17 w_852 ?_
  refine G_aload_n d_Md_movesTo_20 rfl 0 rfl ?_
  refine gm_Md_these d_Md_movesTo_21 w_855 ?_
  refine G_iload_n d_Md_movesTo_24 rfl 3 rfl ?_
  refine lm_14 d_Md_movesTo_25 (Ok_ld h).1 (fun v2 e => ?_)
  replace h := (Ok_ld h).2 v2 e
  clear e
  refine lm_11 d_Md_movesTo_26 (Ok_ld h).1 (fun v3 e => ?_)
  replace h := (Ok_ld h).2 v3 e
  clear e
  refine G_icmp_eq (tgt := 34) d_Md_movesTo_27 (by decide) (fun c => ?_) (fun c => ?_)
  · replace h := Ok_t c h
    refine G_iconst d_Md_movesTo_34 lt_iconst_0 ?_
    refine G_iadd d_Md_movesTo_35 ?_
    refine G_istore_n d_Md_movesTo_36 rfl (Nat.le_of_ble_eq_true rfl) (fun x => [(2, .int x), (0, .ref (ad 0)), (1, .int x1), (3, .int x3)]) (fun _ => rfl) (fun v4 e => ?_)
    replace h := Ok_bnd h v4 e.symm
    clear e
    refine G_iinc d_Md_movesTo_37 3 rfl lt_iconst_1 rfl (Nat.le_of_ble_eq_true rfl) (fun x => [(3, .int x), (2, .int v4), (0, .ref (ad 0)), (1, .int x1)]) (fun _ => rfl) (fun v5 e => ?_)
    replace h := Ok_bnd h v5 e
    clear e
    refine G_goto (tgt := 4) d_Md_movesTo_40 (by decide) ?_
    refine G_lv [2, 3, 1, 0] rfl ?_
    replace h := Ok_some h
    exact hL4 v4 v5 h
  replace h := Ok_f c h
  refine G_iconst d_Md_movesTo_30 lt_iconst_1 ?_
  refine G_goto (tgt := 35) d_Md_movesTo_31 (by decide) ?_
  refine G_iadd d_Md_movesTo_35 ?_
  refine G_istore_n d_Md_movesTo_36 rfl (Nat.le_of_ble_eq_true rfl) (fun x => [(2, .int x), (0, .ref (ad 0)), (1, .int x1), (3, .int x3)]) (fun _ => rfl) (fun v6 e => ?_)
  replace h := Ok_bnd h v6 e.symm
  clear e
  refine G_iinc d_Md_movesTo_37 3 rfl lt_iconst_1 rfl (Nat.le_of_ble_eq_true rfl) (fun x => [(3, .int x), (2, .int v6), (0, .ref (ad 0)), (1, .int x1)]) (fun _ => rfl) (fun v7 e => ?_)
  replace h := Ok_bnd h v7 e
  clear e
  refine G_goto (tgt := 4) d_Md_movesTo_40 (by decide) ?_
  refine G_lv [2, 3, 1, 0] rfl ?_
  replace h := Ok_some h
  exact hL4 v6 v7 h
noncomputable def f_Md_movesTo (a1 : Int32) (s : MS) : Option Int32 :=
  loop (fun z => Md_movesTo_l4 a1 s z.1 z.2) ((0 : Int32), (0 : Int32))
theorem f_Md_movesTo_w {l : Launch} {D : va_G} {cI cZ cJ : ClassId} {ad : Nat → Nat} (a1 : Int32) (s : MS) {Q : Int32 → MS → Prop} {Post : Int32 → Prop} (hR : ∀ (r9 : Int32), Post (r9) → Q r9 s) (h : Ok (f_Md_movesTo a1 s) Post) : G (XM l D cI cZ cJ ad) "SmallHarbourModel" b_Md_movesTo 4 (some .int) 0 0 [(0, .ref (ad 0)), (1, .int a1)] [] s Q := by
  unfold f_Md_movesTo at h
  refine G_iconst d_Md_movesTo_0 lt_iconst_0 ?_
  refine G_istore_n d_Md_movesTo_1 rfl (Nat.le_of_ble_eq_true rfl) (fun x => [(2, .int x), (0, .ref (ad 0)), (1, .int a1)]) (fun _ => rfl) (fun x e => ?_)
  subst e
  refine G_iconst d_Md_movesTo_2 lt_iconst_0 ?_
  refine G_istore_n d_Md_movesTo_3 rfl (Nat.le_of_ble_eq_true rfl) (fun x => [(3, .int x), (2, .int (0 : Int32)), (0, .ref (ad 0)), (1, .int a1)]) (fun _ => rfl) (fun x e => ?_)
  subst e
  refine G_lv [2, 3, 1, 0] rfl ?_
  refine G_loop (J := (fun z => G (XM l D cI cZ cJ ad) "SmallHarbourModel" b_Md_movesTo 4 (some .int) 0 4 [(0, .ref (ad 0)), (1, .int a1), (2, .int (z.1)), (3, .int (z.2))] [] s Q)) (fun z h => ?_) ((0 : Int32), (0 : Int32)) h
  refine Md_movesTo_l4_w a1 z.1 z.2 s ?_ ?_ h
  · exact hR
  · exact (fun z2 z3 h => h)
theorem c_Md_movesTo {l : Launch} {D : va_G} {cI cZ cJ : ClassId} {ad : Nat → Nat} (a1 : Int32) (s : MS) {P : Int32 → Prop} (h : Ok (f_Md_movesTo a1 s) P) : Ct (XM l D cI cZ cJ ad) y_Md_movesTo b_Md_movesTo 4 (some .int) 0 [.ref (ad 0), .int a1] s (fun r9 s9 => s9 = s ∧ P r9) :=
  Ct.of mi_Md_movesTo (Nat.le_of_ble_eq_true rfl) (f_Md_movesTo_w a1 s (fun _ h => ⟨rfl, h⟩) h)
-- Md_keep
noncomputable def Md_keep_l16 (x1 : Int32) (s : MS) : Option ((Int32 × MS) ⊕ MS) :=
  if (s.1 5) ≤ x1 then (xit (some s)) else (chk (inb x1 12) (bnd (s.2 15 x1.toNatClampNeg) fun v1 => chk (inb x1 12) (bnd (pa s 16 x1.toNatClampNeg v1) fun s2 => bnd (x1 + (1 : Int32)) fun v3 => some (.inl (v3, s2)))))
theorem Md_keep_l16_w {l : Launch} {D : va_G} {cI cZ cJ : ClassId} {ad : Nat → Nat} (x1 : Int32) (s : MS) {Q : Int32 → MS → Prop} {Post : ((Int32 × MS) ⊕ MS) → Prop} (hR : ∀ (s9 : MS), Post (.inr (s9)) → Q 0 s9) (hL16 : ∀ (z1 : Int32) (s9 : MS), Post (.inl (z1, s9)) → G (XM l D cI cZ cJ ad) "SmallHarbourModel" b_Md_keep 2 none 1 16 [(0, .ref (ad 0)), (1, .int z1)] [] s9 Q) (h : Ok (Md_keep_l16 x1 s) Post) : G (XM l D cI cZ cJ ad) "SmallHarbourModel" b_Md_keep 2 none 1 16 [(0, .ref (ad 0)), (1, .int x1)] [] s Q := by
  unfold Md_keep_l16 at h
  refine G_iload_n d_Md_keep_16 rfl 1 rfl ?_
  refine G_aload_n d_Md_keep_17 rfl 0 rfl ?_
  refine gm_Md_many d_Md_keep_18 w_856 ?_
  refine G_icmp_ge (tgt := 42) d_Md_keep_21 (by decide) (fun c => ?_) (fun c => ?_)
  · replace h := Ok_t c h
    replace h := Ok_xit h
    replace h := Ok_some h
    exact G_vret rfl d_Md_keep_42 (hR _ h)
  replace h := Ok_f c h
  refine G_aload_n d_Md_keep_24 rfl 0 rfl ?_
  refine gm_Md_best d_Md_keep_25 w_858 ?_
  refine G_iload_n d_Md_keep_28 rfl 1 rfl ?_
  refine G_aload_n d_Md_keep_29 rfl 0 rfl ?_
  refine gm_Md_put d_Md_keep_30 w_857 ?_
  refine G_iload_n d_Md_keep_33 rfl 1 rfl ?_
  refine lm_15 d_Md_keep_34 (Ok_ld h).1 (fun v1 e => ?_)
  replace h := (Ok_ld h).2 v1 e
  clear e
  refine sm_16 d_Md_keep_35 (Ok_ld h).1 (fun s2 e => ?_)
  replace h := (Ok_ld h).2 s2 e
  clear e
  refine G_iinc d_Md_keep_36 1 rfl lt_iconst_1 rfl (Nat.le_of_ble_eq_true rfl) (fun x => [(1, .int x), (0, .ref (ad 0))]) (fun _ => rfl) (fun v3 e => ?_)
  replace h := Ok_bnd h v3 e
  clear e
  refine G_goto (tgt := 16) d_Md_keep_39 (by decide) ?_
  refine G_lv [1, 0] rfl ?_
  replace h := Ok_some h
  exact hL16 v3 s2 h
noncomputable def f_Md_keep (s : MS) : Option MS :=
  (f_Md_movesTo ((s.1 5) - (1 : Int32)) s).bind fun v1 => bnd (pf s 6 v1) fun s2 => loop (fun z => Md_keep_l16 z.1 z.2) ((0 : Int32), s2)
theorem f_Md_keep_w {l : Launch} {D : va_G} {cI cZ cJ : ClassId} {ad : Nat → Nat} (s : MS) {Q : Int32 → MS → Prop} {Post : MS → Prop} (hR : ∀ (s9 : MS), Post (s9) → Q 0 s9) (h : Ok (f_Md_keep s) Post) : G (XM l D cI cZ cJ ad) "SmallHarbourModel" b_Md_keep 2 none 1 0 [(0, .ref (ad 0))] [] s Q := by
  unfold f_Md_keep at h
  refine G_aload_n d_Md_keep_0 rfl 0 rfl ?_
  refine G_aload_n d_Md_keep_1 rfl 0 rfl ?_
  refine G_aload_n d_Md_keep_2 rfl 0 rfl ?_
  refine gm_Md_many d_Md_keep_3 w_856 ?_
  refine G_iconst d_Md_keep_6 lt_iconst_1 ?_
  refine G_isub d_Md_keep_7 ?_
  refine G_callVp (st := [.ref (ad 0)]) (As := [.int ((s.1 5) - (1 : Int32))]) (b := ad 0) d_Md_keep_8 mi_Md_movesTo w_1132 0 rfl rfl mv_Md_movesTo rfl (Nat.le_of_ble_eq_true rfl) (by decide) (c_Md_movesTo ((s.1 5) - (1 : Int32)) s (Ok_bind h)) (fun v1 h hnv1 => ?_)
  refine pm_Md_bestMoves d_Md_keep_11 w_859 (fun s2 e => ?_)
  replace h := Ok_bnd h s2 e
  clear e
  refine G_iconst d_Md_keep_14 lt_iconst_0 ?_
  refine G_istore_n d_Md_keep_15 rfl (Nat.le_of_ble_eq_true rfl) (fun x => [(1, .int x), (0, .ref (ad 0))]) (fun _ => rfl) (fun x e => ?_)
  subst e
  refine G_lv [1, 0] rfl ?_
  refine G_loop (J := (fun z => G (XM l D cI cZ cJ ad) "SmallHarbourModel" b_Md_keep 2 none 1 16 [(0, .ref (ad 0)), (1, .int (z.1))] [] z.2 Q)) (fun z h => ?_) ((0 : Int32), s2) h
  refine Md_keep_l16_w z.1 z.2 ?_ ?_ h
  · exact hR
  · exact (fun z1 s9 h => h)
theorem c_Md_keep {l : Launch} {D : va_G} {cI cZ cJ : ClassId} {ad : Nat → Nat} (s : MS) {P : MS → Prop} (h : Ok (f_Md_keep  s) P) : Ct (XM l D cI cZ cJ ad) y_Md_keep b_Md_keep 2 none 1 [.ref (ad 0)] s (fun _ s9 => P s9) :=
  Ct.of mi_Md_keep (Nat.le_of_ble_eq_true rfl) (f_Md_keep_w  s (fun _ h => h) h)
-- Md_walk
noncomputable def Md_walk_j125 (x1 : Int32) (s : MS) : Option ((Int32 × MS) ⊕ (Int32 × MS)) :=
  if x1 = ((s.1 5) - (1 : Int32)) then ((f_Md_keep s).bind fun s3 => some (.inl (x1, s3))) else (bnd (x1 + (1 : Int32)) fun v1 => chk (inb v1 12) (bnd (pa s 15 v1.toNatClampNeg (-1 : Int32)) fun s2 => some (.inl (v1, s2))))
theorem Md_walk_j125_w {l : Launch} {D : va_G} {cI cZ cJ : ClassId} {ad : Nat → Nat} (x1 : Int32) (s : MS) {Q : Int32 → MS → Prop} {Post : ((Int32 × MS) ⊕ (Int32 × MS)) → Prop} (hR : ∀ (r9 : Int32) (s9 : MS), Post (.inr ((r9, s9))) → Q r9 s9) (hL32 : ∀ (z1 : Int32) (s9 : MS), Post (.inl (z1, s9)) → G (XM l D cI cZ cJ ad) "SmallHarbourModel" b_Md_walk 2 (some .boolean) 3 32 [(0, .ref (ad 0)), (1, .int z1)] [] s9 Q) (h : Ok (Md_walk_j125 x1 s) Post) : G (XM l D cI cZ cJ ad) "SmallHarbourModel" b_Md_walk 2 (some .boolean) 3 125 [(0, .ref (ad 0)), (1, .int x1)] [] s Q := by
  unfold Md_walk_j125 at h
  refine G_iload_n d_Md_walk_125 rfl 1 rfl ?_
  refine G_aload_n d_Md_walk_126 rfl 0 rfl ?_
  refine gm_Md_many d_Md_walk_127 w_856 ?_
  refine G_iconst d_Md_walk_130 lt_iconst_1 ?_
  refine G_isub d_Md_walk_131 ?_
  refine G_icmp_ne (tgt := 142) d_Md_walk_132 (by decide) (fun c => ?_) (fun c => ?_)
  · replace h := Ok_f c h
    refine G_iinc d_Md_walk_142 1 rfl lt_iconst_1 rfl (Nat.le_of_ble_eq_true rfl) (fun x => [(1, .int x), (0, .ref (ad 0))]) (fun _ => rfl) (fun v1 e => ?_)
    replace h := Ok_bnd h v1 e
    clear e
    refine G_aload_n d_Md_walk_145 rfl 1 rfl ?_
    refine gm_Md_put d_Md_walk_146 w_857 ?_
    refine G_iload_n d_Md_walk_149 rfl 0 rfl ?_
    refine G_iconst d_Md_walk_150 lt_iconst_m1 ?_
    refine sm_15 d_Md_walk_151 (Ok_ld h).1 (fun s2 e => ?_)
    replace h := (Ok_ld h).2 s2 e
    clear e
    refine G_goto (tgt := 32) d_Md_walk_152 (by decide) ?_
    refine G_lv [1, 0] rfl ?_
    replace h := Ok_some h
    exact hL32 v1 s2 h
  replace h := Ok_t c h
  refine G_aload_n d_Md_walk_135 rfl 0 rfl ?_
  refine G_callVv (st := []) (As := []) (b := ad 0) d_Md_walk_136 mi_Md_keep w_1128 0 rfl rfl mv_Md_keep rfl (Nat.le_of_ble_eq_true rfl) (by decide) (c_Md_keep  s (Ok_bind h)) (fun s3 h => ?_)
  refine G_goto (tgt := 32) d_Md_walk_139 (by decide) ?_
  replace h := Ok_some h
  exact hL32 x1 s3 h
noncomputable def Md_walk_l32 (x1 : Int32) (s : MS) : Option ((Int32 × MS) ⊕ (Int32 × MS)) :=
  if x1 < 0 then (xit (some ((1 : Int32), s))) else (chk (inb x1 12) (bnd (s.2 15 x1.toNatClampNeg) fun v1 => chk (inb x1 12) (bnd (pa s 15 x1.toNatClampNeg (v1 + (1 : Int32))) fun s2 => chk (inb x1 12) (bnd (s2.2 15 x1.toNatClampNeg) fun v3 => if v3 < (s2.1 1) then (chk (inb x1 12) (bnd (s2.2 15 x1.toNatClampNeg) fun v4 => (f_Md_isTry x1 v4 s2).bind fun v5 => if v5 = 0 then (some (.inl (x1, s2))) else (if (s2.1 7) = (50000 : Int32) then (xit (some ((0 : Int32), s2))) else (bnd (pf s2 7 ((s2.1 7) + (1 : Int32))) fun s6 => if (s6.1 6) < 0 then (Md_walk_j125 x1 s6) else ((f_Md_movesTo x1 s6).bind fun v7 => if v7 < (s6.1 6) then (Md_walk_j125 x1 s6) else (some (.inl (x1, s6)))))))) else (bnd (x1 + (-1 : Int32)) fun v8 => some (.inl (v8, s2)))))))
theorem Md_walk_l32_w {l : Launch} {D : va_G} {cI cZ cJ : ClassId} {ad : Nat → Nat} (x1 : Int32) (s : MS) {Q : Int32 → MS → Prop} {Post : ((Int32 × MS) ⊕ (Int32 × MS)) → Prop} (hR : ∀ (r9 : Int32) (s9 : MS), Post (.inr ((r9, s9))) → Q r9 s9) (hL32 : ∀ (z1 : Int32) (s9 : MS), Post (.inl (z1, s9)) → G (XM l D cI cZ cJ ad) "SmallHarbourModel" b_Md_walk 2 (some .boolean) 3 32 [(0, .ref (ad 0)), (1, .int z1)] [] s9 Q) (h : Ok (Md_walk_l32 x1 s) Post) : G (XM l D cI cZ cJ ad) "SmallHarbourModel" b_Md_walk 2 (some .boolean) 3 32 [(0, .ref (ad 0)), (1, .int x1)] [] s Q := by
  unfold Md_walk_l32 at h
  refine G_iload_n d_Md_walk_32 rfl 1 rfl ?_
  refine G_if_lt (tgt := 155) d_Md_walk_33 (by decide) (fun c => ?_) (fun c => ?_)
  · replace h := Ok_t c h
    replace h := Ok_xit h
    refine G_iconst d_Md_walk_155 lt_iconst_1 ?_
    replace h := Ok_some h
    exact G_iret rfl rfl d_Md_walk_156 (hR _ _ h)
  replace h := Ok_f c h
  refine G_aload_n d_Md_walk_36 rfl 0 rfl ?_
  refine gm_Md_put d_Md_walk_37 w_857 ?_
  refine G_iload_n d_Md_walk_40 rfl 1 rfl ?_
  refine G_dup2 d_Md_walk_41 rfl rfl ?_
  refine lm_15 d_Md_walk_42 (Ok_ld h).1 (fun v1 e => ?_)
  replace h := (Ok_ld h).2 v1 e
  clear e
  refine G_iconst d_Md_walk_43 lt_iconst_1 ?_
  refine G_iadd d_Md_walk_44 ?_
  refine sm_15 d_Md_walk_45 (Ok_ld h).1 (fun s2 e => ?_)
  replace h := (Ok_ld h).2 s2 e
  clear e
  refine G_aload_n d_Md_walk_46 rfl 0 rfl ?_
  refine gm_Md_put d_Md_walk_47 w_857 ?_
  refine G_iload_n d_Md_walk_50 rfl 1 rfl ?_
  refine lm_15 d_Md_walk_51 (Ok_ld h).1 (fun v3 e => ?_)
  replace h := (Ok_ld h).2 v3 e
  clear e
  refine G_aload_n d_Md_walk_52 rfl 0 rfl ?_
  refine gm_Md_berths d_Md_walk_53 w_838 ?_
  refine G_icmp_lt (tgt := 65) d_Md_walk_56 (by decide) (fun c => ?_) (fun c => ?_)
  · replace h := Ok_t c h
    refine G_aload_n d_Md_walk_65 rfl 0 rfl ?_
    refine G_iload_n d_Md_walk_66 rfl 1 rfl ?_
    refine G_aload_n d_Md_walk_67 rfl 0 rfl ?_
    refine gm_Md_put d_Md_walk_68 w_857 ?_
    refine G_iload_n d_Md_walk_71 rfl 1 rfl ?_
    refine lm_15 d_Md_walk_72 (Ok_ld h).1 (fun v4 e => ?_)
    replace h := (Ok_ld h).2 v4 e
    clear e
    refine G_callVp (st := []) (As := [.int x1, .int v4]) (b := ad 0) d_Md_walk_73 mi_Md_isTry w_1136 0 rfl rfl mv_Md_isTry rfl (Nat.le_of_ble_eq_true rfl) (by decide) (c_Md_isTry x1 v4 s2 (Ok_bind h)) (fun v5 h hnv5 => ?_)
    refine G_if_ne (tgt := 82) d_Md_walk_76 (by decide) (fun c => ?_) (fun c => ?_)
    · replace h := Ok_f c h
      refine G_aload_n d_Md_walk_82 rfl 0 rfl ?_
      refine gm_Md_tries d_Md_walk_83 w_860 ?_
      refine G_ldc d_Md_walk_86 w_1144 ?_
      refine G_icmp_ne (tgt := 93) d_Md_walk_88 (by decide) (fun c => ?_) (fun c => ?_)
      · replace h := Ok_f c h
        refine G_aload_n d_Md_walk_93 rfl 0 rfl ?_
        refine G_dup d_Md_walk_94 rfl ?_
        refine gm_Md_tries d_Md_walk_95 w_860 ?_
        refine G_iconst d_Md_walk_98 lt_iconst_1 ?_
        refine G_iadd d_Md_walk_99 ?_
        refine pm_Md_tries d_Md_walk_100 w_860 (fun s6 e => ?_)
        replace h := Ok_bnd h s6 e
        clear e
        refine G_aload_n d_Md_walk_103 rfl 0 rfl ?_
        refine gm_Md_bestMoves d_Md_walk_104 w_859 ?_
        refine G_if_lt (tgt := 125) d_Md_walk_107 (by decide) (fun c => ?_) (fun c => ?_)
        · replace h := Ok_t c h
          refine Md_walk_j125_w x1 s6 ?_ ?_ h
          · exact hR
          · exact hL32
        replace h := Ok_f c h
        refine G_aload_n d_Md_walk_110 rfl 0 rfl ?_
        refine G_iload_n d_Md_walk_111 rfl 1 rfl ?_
        refine G_callVp (st := []) (As := [.int x1]) (b := ad 0) d_Md_walk_112 mi_Md_movesTo w_1132 0 rfl rfl mv_Md_movesTo rfl (Nat.le_of_ble_eq_true rfl) (by decide) (c_Md_movesTo x1 s6 (Ok_bind h)) (fun v7 h hnv7 => ?_)
        refine G_aload_n d_Md_walk_115 rfl 0 rfl ?_
        refine gm_Md_bestMoves d_Md_walk_116 w_859 ?_
        refine G_icmp_lt (tgt := 125) d_Md_walk_119 (by decide) (fun c => ?_) (fun c => ?_)
        · replace h := Ok_t c h
          refine Md_walk_j125_w x1 s6 ?_ ?_ h
          · exact hR
          · exact hL32
        replace h := Ok_f c h
        refine G_goto (tgt := 32) d_Md_walk_122 (by decide) ?_
        replace h := Ok_some h
        exact hL32 x1 s6 h
      replace h := Ok_t c h
      replace h := Ok_xit h
      refine G_iconst d_Md_walk_91 lt_iconst_0 ?_
      replace h := Ok_some h
      exact G_iret rfl rfl d_Md_walk_92 (hR _ _ h)
    replace h := Ok_t c h
    refine G_goto (tgt := 32) d_Md_walk_79 (by decide) ?_
    replace h := Ok_some h
    exact hL32 x1 s2 h
  replace h := Ok_f c h
  refine G_iinc d_Md_walk_59 1 rfl lt_iconst_m1 rfl (Nat.le_of_ble_eq_true rfl) (fun x => [(1, .int x), (0, .ref (ad 0))]) (fun _ => rfl) (fun v8 e => ?_)
  replace h := Ok_bnd h v8 e
  clear e
  refine G_goto (tgt := 32) d_Md_walk_62 (by decide) ?_
  refine G_lv [1, 0] rfl ?_
  replace h := Ok_some h
  exact hL32 v8 s2 h
noncomputable def f_Md_walk (s : MS) : Option (Int32 × MS) :=
  bnd (pf s 6 (-1 : Int32)) fun s1 => bnd (pf s1 7 (0 : Int32)) fun s2 => if (s2.1 5) = 0 then ((f_Md_keep s2).bind fun s4 => some ((1 : Int32), s4)) else (chk (inb (0 : Int32) 12) (bnd (pa s2 15 (0 : Int32).toNatClampNeg (-1 : Int32)) fun s3 => loop (fun z => Md_walk_l32 z.1 z.2) ((0 : Int32), s3)))
theorem f_Md_walk_w {l : Launch} {D : va_G} {cI cZ cJ : ClassId} {ad : Nat → Nat} (s : MS) {Q : Int32 → MS → Prop} {Post : (Int32 × MS) → Prop} (hR : ∀ (r9 : Int32) (s9 : MS), Post ((r9, s9)) → Q r9 s9) (h : Ok (f_Md_walk s) Post) : G (XM l D cI cZ cJ ad) "SmallHarbourModel" b_Md_walk 2 (some .boolean) 3 0 [(0, .ref (ad 0))] [] s Q := by
  unfold f_Md_walk at h
  refine G_aload_n d_Md_walk_0 rfl 0 rfl ?_
  refine G_iconst d_Md_walk_1 lt_iconst_m1 ?_
  refine pm_Md_bestMoves d_Md_walk_2 w_859 (fun s1 e => ?_)
  replace h := Ok_bnd h s1 e
  clear e
  refine G_aload_n d_Md_walk_5 rfl 0 rfl ?_
  refine G_iconst d_Md_walk_6 lt_iconst_0 ?_
  refine pm_Md_tries d_Md_walk_7 w_860 (fun s2 e => ?_)
  replace h := Ok_bnd h s2 e
  clear e
  refine G_aload_n d_Md_walk_10 rfl 0 rfl ?_
  refine gm_Md_many d_Md_walk_11 w_856 ?_
  refine G_if_ne (tgt := 23) d_Md_walk_14 (by decide) (fun c => ?_) (fun c => ?_)
  · replace h := Ok_f c h
    refine G_iconst d_Md_walk_23 lt_iconst_0 ?_
    refine G_istore_n d_Md_walk_24 rfl (Nat.le_of_ble_eq_true rfl) (fun x => [(1, .int x), (0, .ref (ad 0))]) (fun _ => rfl) (fun x e => ?_)
    subst e
    refine G_aload_n d_Md_walk_25 rfl 1 rfl ?_
    refine gm_Md_put d_Md_walk_26 w_857 ?_
    refine G_iconst d_Md_walk_29 lt_iconst_0 ?_
    refine G_iconst d_Md_walk_30 lt_iconst_m1 ?_
    refine sm_15 d_Md_walk_31 (Ok_ld h).1 (fun s3 e => ?_)
    replace h := (Ok_ld h).2 s3 e
    clear e
    refine G_lv [1, 0] rfl ?_
    refine G_loop (J := (fun z => G (XM l D cI cZ cJ ad) "SmallHarbourModel" b_Md_walk 2 (some .boolean) 3 32 [(0, .ref (ad 0)), (1, .int (z.1))] [] z.2 Q)) (fun z h => ?_) ((0 : Int32), s3) h
    refine Md_walk_l32_w z.1 z.2 ?_ ?_ h
    · exact hR
    · exact (fun z1 s9 h => h)
  replace h := Ok_t c h
  refine G_aload_n d_Md_walk_17 rfl 0 rfl ?_
  refine G_callVv (st := []) (As := []) (b := ad 0) d_Md_walk_18 mi_Md_keep w_1128 0 rfl rfl mv_Md_keep rfl (Nat.le_of_ble_eq_true rfl) (by decide) (c_Md_keep  s2 (Ok_bind h)) (fun s4 h => ?_)
  refine G_iconst d_Md_walk_21 lt_iconst_1 ?_
  replace h := Ok_some h
  exact G_iret rfl rfl d_Md_walk_22 (hR _ _ h)
theorem c_Md_walk {l : Launch} {D : va_G} {cI cZ cJ : ClassId} {ad : Nat → Nat} (s : MS) {P : Int32 → MS → Prop} (h : Ok2 (f_Md_walk  s) P) : Ct (XM l D cI cZ cJ ad) y_Md_walk b_Md_walk 2 (some .boolean) 3 [.ref (ad 0)] s (P) :=
  Ct.of mi_Md_walk (Nat.le_of_ble_eq_true rfl) (f_Md_walk_w  s (Post := fun q => P q.1 q.2) (fun _ _ h => h) (Ok2_ok h))
-- Md_home
noncomputable def Md_home_l192 (x2 x3 : Int32) (s : MS) (x4 x5 : Int32) : Option ((Int32 × Int32) ⊕ (Int32 × MS)) :=
  if (s.1 5) ≤ x5 then (xit (if ((s.1 4) + x4) ≤ (40 : Int32) then ((f_Md_endSpan x3 x2 s).bind fun s1 => bd2 (f_Md_moveAll x2 s1) fun v2 s3 => some (v2, s3)) else (some ((-3 : Int32), s)))) else (chk (inb x5 12) (bnd (s.2 16 x5.toNatClampNeg) fun v4 => chk (inb x5 12) (bnd (s.2 14 x5.toNatClampNeg) fun v5 => chk (inb v5 40) (bnd (s.2 11 v5.toNatClampNeg) fun v6 => if v4 = v6 then (bnd (x4 + (0 : Int32)) fun v7 => bnd (x5 + (1 : Int32)) fun v8 => some (.inl (v7, v8))) else (chk (inb x5 12) (bnd (s.2 14 x5.toNatClampNeg) fun v9 => chk (inb v9 40) (bnd (s.2 12 v9.toNatClampNeg) fun v10 => if x2 ≤ v10 then (bnd (x4 + (0 : Int32)) fun v11 => bnd (x5 + (1 : Int32)) fun v12 => some (.inl (v11, v12))) else (bnd (x4 + (1 : Int32)) fun v13 => bnd (x5 + (1 : Int32)) fun v14 => some (.inl (v13, v14))))))))))
theorem Md_home_l192_w {l : Launch} {D : va_G} {cI cZ cJ : ClassId} {ad : Nat → Nat} (x2 x3 x4 x5 : Int32) (s : MS) {Q : Int32 → MS → Prop} {Post : ((Int32 × Int32) ⊕ (Int32 × MS)) → Prop} (hR : ∀ (r9 : Int32) (s9 : MS), Post (.inr ((r9, s9))) → Q r9 s9) (hL192 : ∀ (z4 z5 : Int32) , Post (.inl (z4, z5)) → G (XM l D cI cZ cJ ad) "SmallHarbourModel" b_Md_home 6 (some .int) 4 192 [(0, .ref (ad 0)), (2, .int x2), (3, .int x3), (4, .int z4), (5, .int z5)] [] s Q) (h : Ok (Md_home_l192 x2 x3 s x4 x5) Post) : G (XM l D cI cZ cJ ad) "SmallHarbourModel" b_Md_home 6 (some .int) 4 192 [(0, .ref (ad 0)), (2, .int x2), (3, .int x3), (4, .int x4), (5, .int x5)] [] s Q := by
  unfold Md_home_l192 at h
  refine G_iload d_Md_home_192 4 rfl ?_
  refine G_aload_n d_Md_home_194 rfl 0 rfl ?_
  refine gm_Md_many d_Md_home_195 w_856 ?_
  refine G_icmp_ge (tgt := 255) d_Md_home_198 (by decide) (fun c => ?_) (fun c => ?_)
  · replace h := Ok_t c h
    replace h := Ok_xit h
    refine G_aload_n d_Md_home_255 rfl 0 rfl ?_
    refine gm_Md_stays d_Md_home_256 w_850 ?_
    refine G_iload d_Md_home_259 3 rfl ?_
    refine G_iadd d_Md_home_261 ?_
    refine G_bipush d_Md_home_262 lt_bipush_40 ?_
    refine G_icmp_le (tgt := 270) d_Md_home_264 (by decide) (fun c => ?_) (fun c => ?_)
    · replace h := Ok_t c h
      refine G_aload_n d_Md_home_270 rfl 0 rfl ?_
      refine G_iload_n d_Md_home_271 rfl 2 rfl ?_
      refine G_iload_n d_Md_home_272 rfl 1 rfl ?_
      refine G_callVv (st := []) (As := [.int x3, .int x2]) (b := ad 0) d_Md_home_273 mi_Md_endSpan w_1145 0 rfl rfl mv_Md_endSpan rfl (Nat.le_of_ble_eq_true rfl) (by decide) (c_Md_endSpan x3 x2 s (Ok_bind h)) (fun s1 h => ?_)
      refine G_aload_n d_Md_home_276 rfl 0 rfl ?_
      refine G_iload_n d_Md_home_277 rfl 1 rfl ?_
      refine G_callVi (st := []) (As := [.int x2]) (b := ad 0) d_Md_home_278 mi_Md_moveAll w_1149 0 rfl rfl mv_Md_moveAll rfl (Nat.le_of_ble_eq_true rfl) (by decide) (c_Md_moveAll x2 s1 (Ok_bd2 h)) (fun v2 s3 h hnv2 => ?_)
      replace h := Ok_some h
      exact G_iret rfl (vp_nar_int _) d_Md_home_281 (hR _ _ h)
    replace h := Ok_f c h
    refine G_bipush d_Md_home_267 lt_bipush_m3 ?_
    replace h := Ok_some h
    exact G_iret rfl (vp_nar_int _) d_Md_home_269 (hR _ _ h)
  replace h := Ok_f c h
  refine G_iload d_Md_home_201 3 rfl ?_
  refine G_aload_n d_Md_home_203 rfl 0 rfl ?_
  refine gm_Md_best d_Md_home_204 w_858 ?_
  refine G_iload d_Md_home_207 4 rfl ?_
  refine lm_16 d_Md_home_209 (Ok_ld h).1 (fun v4 e => ?_)
  replace h := (Ok_ld h).2 v4 e
  clear e
  refine G_aload_n d_Md_home_210 rfl 0 rfl ?_
  refine gm_Md_stayBerth d_Md_home_211 w_852 ?_
  refine G_aload_n d_Md_home_214 rfl 0 rfl ?_
  refine gm_Md_these d_Md_home_215 w_855 ?_
  refine G_iload d_Md_home_218 4 rfl ?_
  refine lm_14 d_Md_home_220 (Ok_ld h).1 (fun v5 e => ?_)
  replace h := (Ok_ld h).2 v5 e
  clear e
  refine lm_11 d_Md_home_221 (Ok_ld h).1 (fun v6 e => ?_)
  replace h := (Ok_ld h).2 v6 e
  clear e
  refine G_icmp_eq (tgt := 245) d_Md_home_222 (by decide) (fun c => ?_) (fun c => ?_)
  · replace h := Ok_t c h
    refine G_iconst d_Md_home_245 lt_iconst_0 ?_
    refine G_iadd d_Md_home_246 ?_
    refine G_istore d_Md_home_247 (Nat.le_of_ble_eq_true rfl) (fun x => [(4, .int x), (0, .ref (ad 0)), (2, .int x2), (3, .int x3), (5, .int x5)]) (fun _ => rfl) (fun v7 e => ?_)
    replace h := Ok_bnd h v7 e.symm
    clear e
    refine G_iinc d_Md_home_249 4 rfl lt_iconst_1 rfl (Nat.le_of_ble_eq_true rfl) (fun x => [(5, .int x), (4, .int v7), (0, .ref (ad 0)), (2, .int x2), (3, .int x3)]) (fun _ => rfl) (fun v8 e => ?_)
    replace h := Ok_bnd h v8 e
    clear e
    refine G_goto (tgt := 192) d_Md_home_252 (by decide) ?_
    refine G_lv [2, 3, 4, 1, 0] rfl ?_
    replace h := Ok_some h
    exact hL192 v7 v8 h
  replace h := Ok_f c h
  refine G_aload_n d_Md_home_225 rfl 0 rfl ?_
  refine gm_Md_stayFrom d_Md_home_226 w_853 ?_
  refine G_aload_n d_Md_home_229 rfl 0 rfl ?_
  refine gm_Md_these d_Md_home_230 w_855 ?_
  refine G_iload d_Md_home_233 4 rfl ?_
  refine lm_14 d_Md_home_235 (Ok_ld h).1 (fun v9 e => ?_)
  replace h := (Ok_ld h).2 v9 e
  clear e
  refine lm_12 d_Md_home_236 (Ok_ld h).1 (fun v10 e => ?_)
  replace h := (Ok_ld h).2 v10 e
  clear e
  refine G_iload_n d_Md_home_237 rfl 1 rfl ?_
  refine G_icmp_ge (tgt := 245) d_Md_home_238 (by decide) (fun c => ?_) (fun c => ?_)
  · replace h := Ok_t c h
    refine G_iconst d_Md_home_245 lt_iconst_0 ?_
    refine G_iadd d_Md_home_246 ?_
    refine G_istore d_Md_home_247 (Nat.le_of_ble_eq_true rfl) (fun x => [(4, .int x), (0, .ref (ad 0)), (2, .int x2), (3, .int x3), (5, .int x5)]) (fun _ => rfl) (fun v11 e => ?_)
    replace h := Ok_bnd h v11 e.symm
    clear e
    refine G_iinc d_Md_home_249 4 rfl lt_iconst_1 rfl (Nat.le_of_ble_eq_true rfl) (fun x => [(5, .int x), (4, .int v11), (0, .ref (ad 0)), (2, .int x2), (3, .int x3)]) (fun _ => rfl) (fun v12 e => ?_)
    replace h := Ok_bnd h v12 e
    clear e
    refine G_goto (tgt := 192) d_Md_home_252 (by decide) ?_
    refine G_lv [2, 3, 4, 1, 0] rfl ?_
    replace h := Ok_some h
    exact hL192 v11 v12 h
  replace h := Ok_f c h
  refine G_iconst d_Md_home_241 lt_iconst_1 ?_
  refine G_goto (tgt := 246) d_Md_home_242 (by decide) ?_
  refine G_iadd d_Md_home_246 ?_
  refine G_istore d_Md_home_247 (Nat.le_of_ble_eq_true rfl) (fun x => [(4, .int x), (0, .ref (ad 0)), (2, .int x2), (3, .int x3), (5, .int x5)]) (fun _ => rfl) (fun v13 e => ?_)
  replace h := Ok_bnd h v13 e.symm
  clear e
  refine G_iinc d_Md_home_249 4 rfl lt_iconst_1 rfl (Nat.le_of_ble_eq_true rfl) (fun x => [(5, .int x), (4, .int v13), (0, .ref (ad 0)), (2, .int x2), (3, .int x3)]) (fun _ => rfl) (fun v14 e => ?_)
  replace h := Ok_bnd h v14 e
  clear e
  refine G_goto (tgt := 192) d_Md_home_252 (by decide) ?_
  refine G_lv [2, 3, 4, 1, 0] rfl ?_
  replace h := Ok_some h
  exact hL192 v13 v14 h
noncomputable def Md_home_l85 (x1 x2 x3 : Int32) (x4 : Int32) (s : MS) : Option ((Int32 × MS) ⊕ (Int32 × MS)) :=
  if (s.1 4) ≤ x4 then (xit (bnd (pf s 8 x2) fun s1 => bnd (pf s1 9 x1) fun s2 => chk (inb x3 60) (bnd (s2.2 9 x3.toNatClampNeg) fun v3 => bnd (pf s2 10 v3) fun s4 => bd2 (f_Md_walk s4) fun v5 s6 => if v5 = 0 then (some ((-2 : Int32), s6)) else (if 0 ≤ (s6.1 6) then (loop (fun z => Md_home_l192 x2 x3 s6 z.1 z.2) ((0 : Int32), (0 : Int32))) else (some ((-1 : Int32), s6)))))) else (chk (inb x4 40) (bnd (s.2 13 x4.toNatClampNeg) fun v7 => if x2 < v7 then (if (s.1 5) = (12 : Int32) then (xit (some ((-2 : Int32), s))) else (chk (inb (s.1 5) 12) (bnd (pa s 14 (s.1 5).toNatClampNeg x4) fun s8 => bnd (pf s8 5 ((s8.1 5) + (1 : Int32))) fun s9 => bnd (x4 + (1 : Int32)) fun v10 => some (.inl (v10, s9))))) else (bnd (x4 + (1 : Int32)) fun v11 => some (.inl (v11, s)))))
theorem Md_home_l85_w {l : Launch} {D : va_G} {cI cZ cJ : ClassId} {ad : Nat → Nat} (x1 x2 x3 x4 : Int32) (s : MS) {Q : Int32 → MS → Prop} {Post : ((Int32 × MS) ⊕ (Int32 × MS)) → Prop} (hR : ∀ (r9 : Int32) (s9 : MS), Post (.inr ((r9, s9))) → Q r9 s9) (hL85 : ∀ (z4 : Int32) (s9 : MS), Post (.inl (z4, s9)) → G (XM l D cI cZ cJ ad) "SmallHarbourModel" b_Md_home 6 (some .int) 4 85 [(0, .ref (ad 0)), (1, .int x1), (2, .int x2), (3, .int x3), (4, .int z4)] [] s9 Q) (h : Ok (Md_home_l85 x1 x2 x3 x4 s) Post) : G (XM l D cI cZ cJ ad) "SmallHarbourModel" b_Md_home 6 (some .int) 4 85 [(0, .ref (ad 0)), (1, .int x1), (2, .int x2), (3, .int x3), (4, .int x4)] [] s Q := by
  unfold Md_home_l85 at h
  refine G_iload d_Md_home_85 4 rfl ?_
  refine G_aload_n d_Md_home_87 rfl 0 rfl ?_
  refine gm_Md_stays d_Md_home_88 w_850 ?_
  refine G_icmp_ge (tgt := 147) d_Md_home_91 (by decide) (fun c => ?_) (fun c => ?_)
  · replace h := Ok_t c h
    replace h := Ok_xit h
    refine G_aload_n d_Md_home_147 rfl 0 rfl ?_
    refine G_iload_n d_Md_home_148 rfl 2 rfl ?_
    refine pm_Md_comesOn d_Md_home_149 w_861 (fun s1 e => ?_)
    replace h := Ok_bnd h s1 e
    clear e
    refine G_aload_n d_Md_home_152 rfl 0 rfl ?_
    refine G_iload_n d_Md_home_153 rfl 1 rfl ?_
    refine pm_Md_coming d_Md_home_154 w_862 (fun s2 e => ?_)
    replace h := Ok_bnd h s2 e
    clear e
    refine G_aload_n d_Md_home_157 rfl 0 rfl ?_
    refine G_aload_n d_Md_home_158 rfl 0 rfl ?_
    refine gm_Md_spanTo d_Md_home_159 w_849 ?_
    refine G_iload_n d_Md_home_162 rfl 3 rfl ?_
    refine lm_9 d_Md_home_163 (Ok_ld h).1 (fun v3 e => ?_)
    replace h := (Ok_ld h).2 v3 e
    clear e
    refine pm_Md_comesTo d_Md_home_164 w_863 (fun s4 e => ?_)
    replace h := Ok_bnd h s4 e
    clear e
    refine G_aload_n d_Md_home_167 rfl 0 rfl ?_
    refine G_callVi (st := []) (As := []) (b := ad 0) d_Md_home_168 mi_Md_walk w_1124 0 rfl rfl mv_Md_walk rfl (Nat.le_of_ble_eq_true rfl) (by decide) (c_Md_walk  s4 (Ok_bd2 h)) (fun v5 s6 h hnv5 => ?_)
    refine G_if_ne (tgt := 177) d_Md_home_171 (by decide) (fun c => ?_) (fun c => ?_)
    · replace h := Ok_f c h
      refine G_aload_n d_Md_home_177 rfl 0 rfl ?_
      refine gm_Md_bestMoves d_Md_home_178 w_859 ?_
      refine G_if_ge (tgt := 186) d_Md_home_181 (by decide) (fun c => ?_) (fun c => ?_)
      · replace h := Ok_t c h
        refine G_iconst d_Md_home_186 lt_iconst_0 ?_
        refine G_istore d_Md_home_187 (Nat.le_of_ble_eq_true rfl) (fun x => [(4, .int x), (0, .ref (ad 0)), (1, .int x1), (2, .int x2), (3, .int x3)]) (fun _ => rfl) (fun x e => ?_)
        subst e
        refine G_iconst d_Md_home_189 lt_iconst_0 ?_
        refine G_istore d_Md_home_190 (Nat.le_of_ble_eq_true rfl) (fun x => [(5, .int x), (4, .int (0 : Int32)), (0, .ref (ad 0)), (1, .int x1), (2, .int x2), (3, .int x3)]) (fun _ => rfl) (fun x e => ?_)
        subst e
        refine G_lv [2, 4, 5, 1, 0] rfl ?_
        refine G_loop (J := (fun z => G (XM l D cI cZ cJ ad) "SmallHarbourModel" b_Md_home 6 (some .int) 4 192 [(0, .ref (ad 0)), (2, .int x2), (3, .int x3), (4, .int (z.1)), (5, .int (z.2))] [] s6 Q)) (fun z h => ?_) ((0 : Int32), (0 : Int32)) h
        refine Md_home_l192_w x2 x3 z.1 z.2 s6 ?_ ?_ h
        · exact hR
        · exact (fun z4 z5 h => h)
      replace h := Ok_f c h
      refine G_iconst d_Md_home_184 lt_iconst_m1 ?_
      replace h := Ok_some h
      exact G_iret rfl (vp_nar_int _) d_Md_home_185 (hR _ _ h)
    replace h := Ok_t c h
    refine G_bipush d_Md_home_174 lt_bipush_m2 ?_
    replace h := Ok_some h
    exact G_iret rfl (vp_nar_int _) d_Md_home_176 (hR _ _ h)
  replace h := Ok_f c h
  refine G_aload_n d_Md_home_94 rfl 0 rfl ?_
  refine gm_Md_stayTo d_Md_home_95 w_854 ?_
  refine G_iload d_Md_home_98 4 rfl ?_
  refine lm_13 d_Md_home_100 (Ok_ld h).1 (fun v7 e => ?_)
  replace h := (Ok_ld h).2 v7 e
  clear e
  refine G_iload_n d_Md_home_101 rfl 2 rfl ?_
  refine G_icmp_gt (tgt := 108) d_Md_home_102 (by decide) (fun c => ?_) (fun c => ?_)
  · replace h := Ok_t c h
    refine G_aload_n d_Md_home_108 rfl 0 rfl ?_
    refine gm_Md_many d_Md_home_109 w_856 ?_
    refine G_bipush d_Md_home_112 lt_bipush_12 ?_
    refine G_icmp_ne (tgt := 120) d_Md_home_114 (by decide) (fun c => ?_) (fun c => ?_)
    · replace h := Ok_f c h
      refine G_aload_n d_Md_home_120 rfl 0 rfl ?_
      refine gm_Md_these d_Md_home_121 w_855 ?_
      refine G_aload_n d_Md_home_124 rfl 0 rfl ?_
      refine gm_Md_many d_Md_home_125 w_856 ?_
      refine G_iload d_Md_home_128 4 rfl ?_
      refine sm_14 d_Md_home_130 (Ok_ld h).1 (fun s8 e => ?_)
      replace h := (Ok_ld h).2 s8 e
      clear e
      refine G_aload_n d_Md_home_131 rfl 0 rfl ?_
      refine G_dup d_Md_home_132 rfl ?_
      refine gm_Md_many d_Md_home_133 w_856 ?_
      refine G_iconst d_Md_home_136 lt_iconst_1 ?_
      refine G_iadd d_Md_home_137 ?_
      refine pm_Md_many d_Md_home_138 w_856 (fun s9 e => ?_)
      replace h := Ok_bnd h s9 e
      clear e
      refine G_iinc d_Md_home_141 4 rfl lt_iconst_1 rfl (Nat.le_of_ble_eq_true rfl) (fun x => [(4, .int x), (0, .ref (ad 0)), (1, .int x1), (2, .int x2), (3, .int x3)]) (fun _ => rfl) (fun v10 e => ?_)
      replace h := Ok_bnd h v10 e
      clear e
      refine G_goto (tgt := 85) d_Md_home_144 (by decide) ?_
      refine G_lv [1, 2, 3, 4, 0] rfl ?_
      replace h := Ok_some h
      exact hL85 v10 s9 h
    replace h := Ok_t c h
    replace h := Ok_xit h
    refine G_bipush d_Md_home_117 lt_bipush_m2 ?_
    replace h := Ok_some h
    exact G_iret rfl (vp_nar_int _) d_Md_home_119 (hR _ _ h)
  replace h := Ok_f c h
  refine G_goto (tgt := 141) d_Md_home_105 (by decide) ?_
  refine G_iinc d_Md_home_141 4 rfl lt_iconst_1 rfl (Nat.le_of_ble_eq_true rfl) (fun x => [(4, .int x), (0, .ref (ad 0)), (1, .int x1), (2, .int x2), (3, .int x3)]) (fun _ => rfl) (fun v11 e => ?_)
  replace h := Ok_bnd h v11 e
  clear e
  refine G_goto (tgt := 85) d_Md_home_144 (by decide) ?_
  refine G_lv [1, 2, 3, 4, 0] rfl ?_
  replace h := Ok_some h
  exact hL85 v11 s h
noncomputable def Md_home_l41 (x1 x2 : Int32) (s : MS) (x3 : Int32) : Option ((Int32) ⊕ (Int32 × MS)) :=
  chk (inb x3 60) (bnd (s.2 7 x3.toNatClampNeg) fun v1 => if v1 = x1 then (chk (inb x3 60) (bnd (s.2 8 x3.toNatClampNeg) fun v3 => if x2 < v3 then (bnd (x3 + (1 : Int32)) fun v4 => some (.inl v4)) else (chk (inb x3 60) (bnd (s.2 9 x3.toNatClampNeg) fun v5 => if x2 < v5 then (xit (bnd (pf s 5 (0 : Int32)) fun s6 => loop (fun z => Md_home_l85 x1 x2 x3 z.1 z.2) ((0 : Int32), s6))) else (bnd (x3 + (1 : Int32)) fun v7 => some (.inl v7)))))) else (bnd (x3 + (1 : Int32)) fun v2 => some (.inl v2)))
theorem Md_home_l41_w {l : Launch} {D : va_G} {cI cZ cJ : ClassId} {ad : Nat → Nat} (x1 x2 x3 : Int32) (s : MS) {Q : Int32 → MS → Prop} {Post : ((Int32) ⊕ (Int32 × MS)) → Prop} (hR : ∀ (r9 : Int32) (s9 : MS), Post (.inr ((r9, s9))) → Q r9 s9) (hL41 : ∀ (z3 : Int32) , Post (.inl z3) → G (XM l D cI cZ cJ ad) "SmallHarbourModel" b_Md_home 6 (some .int) 4 41 [(0, .ref (ad 0)), (1, .int x1), (2, .int x2), (3, .int z3)] [] s Q) (h : Ok (Md_home_l41 x1 x2 s x3) Post) : G (XM l D cI cZ cJ ad) "SmallHarbourModel" b_Md_home 6 (some .int) 4 41 [(0, .ref (ad 0)), (1, .int x1), (2, .int x2), (3, .int x3)] [] s Q := by
  unfold Md_home_l41 at h
  refine G_aload_n d_Md_home_41 rfl 0 rfl ?_
  refine gm_Md_spanBoat d_Md_home_42 w_847 ?_
  refine G_iload_n d_Md_home_45 rfl 3 rfl ?_
  refine lm_7 d_Md_home_46 (Ok_ld h).1 (fun v1 e => ?_)
  replace h := (Ok_ld h).2 v1 e
  clear e
  refine G_iload_n d_Md_home_47 rfl 1 rfl ?_
  refine G_icmp_ne (tgt := 71) d_Md_home_48 (by decide) (fun c => ?_) (fun c => ?_)
  · replace h := Ok_f c h
    refine G_iinc d_Md_home_71 3 rfl lt_iconst_1 rfl (Nat.le_of_ble_eq_true rfl) (fun x => [(3, .int x), (0, .ref (ad 0)), (1, .int x1), (2, .int x2)]) (fun _ => rfl) (fun v2 e => ?_)
    replace h := Ok_bnd h v2 e
    clear e
    refine G_goto (tgt := 41) d_Md_home_74 (by decide) ?_
    refine G_lv [1, 2, 3, 0] rfl ?_
    replace h := Ok_some h
    exact hL41 v2 h
  replace h := Ok_t c h
  refine G_iload_n d_Md_home_51 rfl 2 rfl ?_
  refine G_aload_n d_Md_home_52 rfl 0 rfl ?_
  refine gm_Md_spanFrom d_Md_home_53 w_848 ?_
  refine G_iload_n d_Md_home_56 rfl 3 rfl ?_
  refine lm_8 d_Md_home_57 (Ok_ld h).1 (fun v3 e => ?_)
  replace h := (Ok_ld h).2 v3 e
  clear e
  refine G_icmp_lt (tgt := 71) d_Md_home_58 (by decide) (fun c => ?_) (fun c => ?_)
  · replace h := Ok_t c h
    refine G_iinc d_Md_home_71 3 rfl lt_iconst_1 rfl (Nat.le_of_ble_eq_true rfl) (fun x => [(3, .int x), (0, .ref (ad 0)), (1, .int x1), (2, .int x2)]) (fun _ => rfl) (fun v4 e => ?_)
    replace h := Ok_bnd h v4 e
    clear e
    refine G_goto (tgt := 41) d_Md_home_74 (by decide) ?_
    refine G_lv [1, 2, 3, 0] rfl ?_
    replace h := Ok_some h
    exact hL41 v4 h
  replace h := Ok_f c h
  refine G_iload_n d_Md_home_61 rfl 2 rfl ?_
  refine G_aload_n d_Md_home_62 rfl 0 rfl ?_
  refine gm_Md_spanTo d_Md_home_63 w_849 ?_
  refine G_iload_n d_Md_home_66 rfl 3 rfl ?_
  refine lm_9 d_Md_home_67 (Ok_ld h).1 (fun v5 e => ?_)
  replace h := (Ok_ld h).2 v5 e
  clear e
  refine G_icmp_lt (tgt := 77) d_Md_home_68 (by decide) (fun c => ?_) (fun c => ?_)
  · replace h := Ok_t c h
    replace h := Ok_xit h
    refine G_aload_n d_Md_home_77 rfl 0 rfl ?_
    refine G_iconst d_Md_home_78 lt_iconst_0 ?_
    refine pm_Md_many d_Md_home_79 w_856 (fun s6 e => ?_)
    replace h := Ok_bnd h s6 e
    clear e
    refine G_iconst d_Md_home_82 lt_iconst_0 ?_
    refine G_istore d_Md_home_83 (Nat.le_of_ble_eq_true rfl) (fun x => [(4, .int x), (0, .ref (ad 0)), (1, .int x1), (2, .int x2), (3, .int x3)]) (fun _ => rfl) (fun x e => ?_)
    subst e
    refine G_lv [1, 2, 3, 4, 0] rfl ?_
    refine G_loop (J := (fun z => G (XM l D cI cZ cJ ad) "SmallHarbourModel" b_Md_home 6 (some .int) 4 85 [(0, .ref (ad 0)), (1, .int x1), (2, .int x2), (3, .int x3), (4, .int (z.1))] [] z.2 Q)) (fun z h => ?_) ((0 : Int32), s6) h
    refine Md_home_l85_w x1 x2 x3 z.1 z.2 ?_ ?_ h
    · exact hR
    · exact (fun z4 s9 h => h)
  replace h := Ok_f c h
  refine G_iinc d_Md_home_71 3 rfl lt_iconst_1 rfl (Nat.le_of_ble_eq_true rfl) (fun x => [(3, .int x), (0, .ref (ad 0)), (1, .int x1), (2, .int x2)]) (fun _ => rfl) (fun v7 e => ?_)
  replace h := Ok_bnd h v7 e
  clear e
  refine G_goto (tgt := 41) d_Md_home_74 (by decide) ?_
  refine G_lv [1, 2, 3, 0] rfl ?_
  replace h := Ok_some h
  exact hL41 v7 h
noncomputable def f_Md_home (a1 a2 : Int32) (s : MS) : Option (Int32 × MS) :=
  (f_Md_isBoat a1 s).bind fun v1 => if v1 = 0 then (some ((-1 : Int32), s)) else (chk (inb a1 30) (bnd (s.2 6 a1.toNatClampNeg) fun v2 => if v2 < 0 then (some ((-1 : Int32), s)) else ((f_Md_isIn a2 (0 : Int32) (399 : Int32)).bind fun v3 => if v3 = 0 then (some ((-1 : Int32), s)) else ((f_Md_isAway a1 a2 s).bind fun v4 => if v4 = 0 then (some ((-1 : Int32), s)) else (loop (fun z => Md_home_l41 a1 a2 s z) (0 : Int32))))))
theorem f_Md_home_w {l : Launch} {D : va_G} {cI cZ cJ : ClassId} {ad : Nat → Nat} (a1 a2 : Int32) (s : MS) {Q : Int32 → MS → Prop} {Post : (Int32 × MS) → Prop} (hR : ∀ (r9 : Int32) (s9 : MS), Post ((r9, s9)) → Q r9 s9) (h : Ok (f_Md_home a1 a2 s) Post) : G (XM l D cI cZ cJ ad) "SmallHarbourModel" b_Md_home 6 (some .int) 4 0 [(0, .ref (ad 0)), (1, .int a1), (2, .int a2)] [] s Q := by
  unfold f_Md_home at h
  refine G_aload_n d_Md_home_0 rfl 0 rfl ?_
  refine G_iload_n d_Md_home_1 rfl 1 rfl ?_
  refine G_callVp (st := []) (As := [.int a1]) (b := ad 0) d_Md_home_2 mi_Md_isBoat w_1076 0 rfl rfl mv_Md_isBoat rfl (Nat.le_of_ble_eq_true rfl) (by decide) (c_Md_isBoat a1 s (Ok_bind h)) (fun v1 h hnv1 => ?_)
  refine G_if_eq (tgt := 37) d_Md_home_5 (by decide) (fun c => ?_) (fun c => ?_)
  · replace h := Ok_t c h
    refine G_iconst d_Md_home_37 lt_iconst_m1 ?_
    replace h := Ok_some h
    exact G_iret rfl (vp_nar_int _) d_Md_home_38 (hR _ _ h)
  replace h := Ok_f c h
  refine G_aload_n d_Md_home_8 rfl 0 rfl ?_
  refine gm_Md_home d_Md_home_9 w_845 ?_
  refine G_iload_n d_Md_home_12 rfl 1 rfl ?_
  refine lm_6 d_Md_home_13 (Ok_ld h).1 (fun v2 e => ?_)
  replace h := (Ok_ld h).2 v2 e
  clear e
  refine G_if_lt (tgt := 37) d_Md_home_14 (by decide) (fun c => ?_) (fun c => ?_)
  · replace h := Ok_t c h
    refine G_iconst d_Md_home_37 lt_iconst_m1 ?_
    replace h := Ok_some h
    exact G_iret rfl (vp_nar_int _) d_Md_home_38 (hR _ _ h)
  replace h := Ok_f c h
  refine G_iload_n d_Md_home_17 rfl 2 rfl ?_
  refine G_iconst d_Md_home_18 lt_iconst_0 ?_
  refine G_sipush d_Md_home_19 lt_sipush_399 ?_
  refine G_callSp (st := []) (As := [.int a2, .int (0 : Int32), .int (399 : Int32)]) d_Md_home_22 mi_Md_isIn w_1045 w_1046 rfl (Nat.le_of_ble_eq_true rfl) (by decide) (c_Md_isIn a2 (0 : Int32) (399 : Int32) s (Ok_bind h)) (fun v3 h hnv3 => ?_)
  refine G_if_eq (tgt := 37) d_Md_home_25 (by decide) (fun c => ?_) (fun c => ?_)
  · replace h := Ok_t c h
    refine G_iconst d_Md_home_37 lt_iconst_m1 ?_
    replace h := Ok_some h
    exact G_iret rfl (vp_nar_int _) d_Md_home_38 (hR _ _ h)
  replace h := Ok_f c h
  refine G_aload_n d_Md_home_28 rfl 0 rfl ?_
  refine G_iload_n d_Md_home_29 rfl 1 rfl ?_
  refine G_iload_n d_Md_home_30 rfl 2 rfl ?_
  refine G_callVp (st := []) (As := [.int a1, .int a2]) (b := ad 0) d_Md_home_31 mi_Md_isAway w_1080 0 rfl rfl mv_Md_isAway rfl (Nat.le_of_ble_eq_true rfl) (by decide) (c_Md_isAway a1 a2 s (Ok_bind h)) (fun v4 h hnv4 => ?_)
  refine G_if_ne (tgt := 39) d_Md_home_34 (by decide) (fun c => ?_) (fun c => ?_)
  · replace h := Ok_f c h
    refine G_iconst d_Md_home_39 lt_iconst_0 ?_
    refine G_istore_n d_Md_home_40 rfl (Nat.le_of_ble_eq_true rfl) (fun x => [(3, .int x), (0, .ref (ad 0)), (1, .int a1), (2, .int a2)]) (fun _ => rfl) (fun x e => ?_)
    subst e
    refine G_lv [1, 2, 3, 0] rfl ?_
    refine G_loop (J := (fun z => G (XM l D cI cZ cJ ad) "SmallHarbourModel" b_Md_home 6 (some .int) 4 41 [(0, .ref (ad 0)), (1, .int a1), (2, .int a2), (3, .int z)] [] s Q)) (fun z h => ?_) (0 : Int32) h
    refine Md_home_l41_w a1 a2 z s ?_ ?_ h
    · exact hR
    · exact (fun z3 h => h)
  replace h := Ok_t c h
  refine G_iconst d_Md_home_37 lt_iconst_m1 ?_
  replace h := Ok_some h
  exact G_iret rfl (vp_nar_int _) d_Md_home_38 (hR _ _ h)
theorem c_Md_home {l : Launch} {D : va_G} {cI cZ cJ : ClassId} {ad : Nat → Nat} (a1 a2 : Int32) (s : MS) {P : Int32 → MS → Prop} (h : Ok2 (f_Md_home a1 a2 s) P) : Ct (XM l D cI cZ cJ ad) y_Md_home b_Md_home 6 (some .int) 4 [.ref (ad 0), .int a1, .int a2] s (P) :=
  Ct.of mi_Md_home (Nat.le_of_ble_eq_true rfl) (f_Md_home_w a1 a2 s (Post := fun q => P q.1 q.2) (fun _ _ h => h) (Ok2_ok h))
-- Md_isBound
noncomputable def Md_isBound_l2 (s : MS) (x1 : Int32) : Option ((Int32) ⊕ Int32) :=
  if (s.1 2) ≤ x1 then (xit (if (s.1 4) ≤ 0 then (some (0 : Int32)) else (some (1 : Int32)))) else (chk (inb x1 30) (bnd (s.2 6 x1.toNatClampNeg) fun v1 => if v1 < 0 then (bnd (x1 + (1 : Int32)) fun v2 => some (.inl v2)) else (xit (some (1 : Int32)))))
theorem Md_isBound_l2_w {l : Launch} {D : va_G} {cI cZ cJ : ClassId} {ad : Nat → Nat} (x1 : Int32) (s : MS) {Q : Int32 → MS → Prop} {Post : ((Int32) ⊕ Int32) → Prop} (hR : ∀ (r9 : Int32), Post (.inr (r9)) → Q r9 s) (hL2 : ∀ (z1 : Int32) , Post (.inl z1) → G (XM l D cI cZ cJ ad) "SmallHarbourModel" b_Md_isBound 2 (some .boolean) 0 2 [(0, .ref (ad 0)), (1, .int z1)] [] s Q) (h : Ok (Md_isBound_l2 s x1) Post) : G (XM l D cI cZ cJ ad) "SmallHarbourModel" b_Md_isBound 2 (some .boolean) 0 2 [(0, .ref (ad 0)), (1, .int x1)] [] s Q := by
  unfold Md_isBound_l2 at h
  refine G_iload_n d_Md_isBound_2 rfl 1 rfl ?_
  refine G_aload_n d_Md_isBound_3 rfl 0 rfl ?_
  refine gm_Md_boats d_Md_isBound_4 w_841 ?_
  refine G_icmp_ge (tgt := 27) d_Md_isBound_7 (by decide) (fun c => ?_) (fun c => ?_)
  · replace h := Ok_t c h
    replace h := Ok_xit h
    refine G_aload_n d_Md_isBound_27 rfl 0 rfl ?_
    refine gm_Md_stays d_Md_isBound_28 w_850 ?_
    refine G_if_le (tgt := 38) d_Md_isBound_31 (by decide) (fun c => ?_) (fun c => ?_)
    · replace h := Ok_t c h
      refine G_iconst d_Md_isBound_38 lt_iconst_0 ?_
      replace h := Ok_some h
      exact G_iret rfl rfl d_Md_isBound_39 (hR _ h)
    replace h := Ok_f c h
    refine G_iconst d_Md_isBound_34 lt_iconst_1 ?_
    refine G_goto (tgt := 39) d_Md_isBound_35 (by decide) ?_
    replace h := Ok_some h
    exact G_iret rfl rfl d_Md_isBound_39 (hR _ h)
  replace h := Ok_f c h
  refine G_aload_n d_Md_isBound_10 rfl 0 rfl ?_
  refine gm_Md_home d_Md_isBound_11 w_845 ?_
  refine G_iload_n d_Md_isBound_14 rfl 1 rfl ?_
  refine lm_6 d_Md_isBound_15 (Ok_ld h).1 (fun v1 e => ?_)
  replace h := (Ok_ld h).2 v1 e
  clear e
  refine G_if_lt (tgt := 21) d_Md_isBound_16 (by decide) (fun c => ?_) (fun c => ?_)
  · replace h := Ok_t c h
    refine G_iinc d_Md_isBound_21 1 rfl lt_iconst_1 rfl (Nat.le_of_ble_eq_true rfl) (fun x => [(1, .int x), (0, .ref (ad 0))]) (fun _ => rfl) (fun v2 e => ?_)
    replace h := Ok_bnd h v2 e
    clear e
    refine G_goto (tgt := 2) d_Md_isBound_24 (by decide) ?_
    refine G_lv [1, 0] rfl ?_
    replace h := Ok_some h
    exact hL2 v2 h
  replace h := Ok_f c h
  replace h := Ok_xit h
  refine G_iconst d_Md_isBound_19 lt_iconst_1 ?_
  replace h := Ok_some h
  exact G_iret rfl rfl d_Md_isBound_20 (hR _ h)
noncomputable def f_Md_isBound (s : MS) : Option Int32 :=
  loop (fun z => Md_isBound_l2 s z) (0 : Int32)
theorem f_Md_isBound_w {l : Launch} {D : va_G} {cI cZ cJ : ClassId} {ad : Nat → Nat} (s : MS) {Q : Int32 → MS → Prop} {Post : Int32 → Prop} (hR : ∀ (r9 : Int32), Post (r9) → Q r9 s) (h : Ok (f_Md_isBound s) Post) : G (XM l D cI cZ cJ ad) "SmallHarbourModel" b_Md_isBound 2 (some .boolean) 0 0 [(0, .ref (ad 0))] [] s Q := by
  unfold f_Md_isBound at h
  refine G_iconst d_Md_isBound_0 lt_iconst_0 ?_
  refine G_istore_n d_Md_isBound_1 rfl (Nat.le_of_ble_eq_true rfl) (fun x => [(1, .int x), (0, .ref (ad 0))]) (fun _ => rfl) (fun x e => ?_)
  subst e
  refine G_lv [1, 0] rfl ?_
  refine G_loop (J := (fun z => G (XM l D cI cZ cJ ad) "SmallHarbourModel" b_Md_isBound 2 (some .boolean) 0 2 [(0, .ref (ad 0)), (1, .int z)] [] s Q)) (fun z h => ?_) (0 : Int32) h
  refine Md_isBound_l2_w z s ?_ ?_ h
  · exact hR
  · exact (fun z1 h => h)
theorem c_Md_isBound {l : Launch} {D : va_G} {cI cZ cJ : ClassId} {ad : Nat → Nat} (s : MS) {P : Int32 → Prop} (h : Ok (f_Md_isBound  s) P) : Ct (XM l D cI cZ cJ ad) y_Md_isBound b_Md_isBound 2 (some .boolean) 0 [.ref (ad 0)] s (fun r9 s9 => s9 = s ∧ P r9) :=
  Ct.of mi_Md_isBound (Nat.le_of_ble_eq_true rfl) (f_Md_isBound_w  s (fun _ h => ⟨rfl, h⟩) h)
-- Md_isDigit
noncomputable def f_Md_isDigit (a1 : Int32) : Option Int32 :=
  (f_Md_isIn a1 (48 : Int32) (57 : Int32)).bind fun v1 => some v1
theorem f_Md_isDigit_w {l : Launch} {D : va_G} {cI cZ cJ : ClassId} {ad : Nat → Nat} (a1 : Int32) (s : MS) {Q : Int32 → MS → Prop} {Post : Int32 → Prop} (hR : ∀ (r9 : Int32), Post (r9) → Q r9 s) (h : Ok (f_Md_isDigit a1) Post) : G (XM l D cI cZ cJ ad) "SmallHarbourModel" b_Md_isDigit 1 (some .boolean) 1 0 [(0, .int a1)] [] s Q := by
  unfold f_Md_isDigit at h
  refine G_iload_n d_Md_isDigit_0 rfl 0 rfl ?_
  refine G_bipush d_Md_isDigit_1 lt_bipush_48 ?_
  refine G_bipush d_Md_isDigit_3 lt_bipush_57 ?_
  refine G_callSp (st := []) (As := [.int a1, .int (48 : Int32), .int (57 : Int32)]) d_Md_isDigit_5 mi_Md_isIn w_1045 w_1046 rfl (Nat.le_of_ble_eq_true rfl) (by decide) (c_Md_isIn a1 (48 : Int32) (57 : Int32) s (Ok_bind h)) (fun v1 h hnv1 => ?_)
  replace h := Ok_some h
  exact G_iret rfl hnv1 d_Md_isDigit_8 (hR _ h)
theorem c_Md_isDigit {l : Launch} {D : va_G} {cI cZ cJ : ClassId} {ad : Nat → Nat} (a1 : Int32) (s : MS) {P : Int32 → Prop} (h : Ok (f_Md_isDigit a1) P) : Ct (XM l D cI cZ cJ ad) y_Md_isDigit b_Md_isDigit 1 (some .boolean) 1 [.int a1] s (fun r9 s9 => s9 = s ∧ P r9) :=
  Ct.of mi_Md_isDigit (Nat.le_of_ble_eq_true rfl) (f_Md_isDigit_w a1 s (fun _ h => ⟨rfl, h⟩) h)
-- Md_isEmpty
noncomputable def Md_isEmpty_l3 (x1 x3 : Int32) (s : MS) (x4 : Int32) : Option ((Int32) ⊕ Int32) :=
  if x3 ≤ x4 then (xit (some (1 : Int32))) else ((f_Md_at x1 x4 s).bind fun v1 => if v1 < 0 then (bnd (x4 + (1 : Int32)) fun v2 => some (.inl v2)) else (xit (some (0 : Int32))))
theorem Md_isEmpty_l3_w {l : Launch} {D : va_G} {cI cZ cJ : ClassId} {ad : Nat → Nat} (x1 x3 x4 : Int32) (s : MS) {Q : Int32 → MS → Prop} {Post : ((Int32) ⊕ Int32) → Prop} (hR : ∀ (r9 : Int32), Post (.inr (r9)) → Q r9 s) (hL3 : ∀ (z4 : Int32) , Post (.inl z4) → G (XM l D cI cZ cJ ad) "SmallHarbourModel" b_Md_isEmpty 5 (some .boolean) 3 3 [(0, .ref (ad 0)), (1, .int x1), (3, .int x3), (4, .int z4)] [] s Q) (h : Ok (Md_isEmpty_l3 x1 x3 s x4) Post) : G (XM l D cI cZ cJ ad) "SmallHarbourModel" b_Md_isEmpty 5 (some .boolean) 3 3 [(0, .ref (ad 0)), (1, .int x1), (3, .int x3), (4, .int x4)] [] s Q := by
  unfold Md_isEmpty_l3 at h
  refine G_iload d_Md_isEmpty_3 3 rfl ?_
  refine G_iload_n d_Md_isEmpty_5 rfl 2 rfl ?_
  refine G_icmp_ge (tgt := 27) d_Md_isEmpty_6 (by decide) (fun c => ?_) (fun c => ?_)
  · replace h := Ok_t c h
    replace h := Ok_xit h
    refine G_iconst d_Md_isEmpty_27 lt_iconst_1 ?_
    replace h := Ok_some h
    exact G_iret rfl rfl d_Md_isEmpty_28 (hR _ h)
  replace h := Ok_f c h
  refine G_aload_n d_Md_isEmpty_9 rfl 0 rfl ?_
  refine G_iload_n d_Md_isEmpty_10 rfl 1 rfl ?_
  refine G_iload d_Md_isEmpty_11 3 rfl ?_
  refine G_callVp (st := []) (As := [.int x1, .int x4]) (b := ad 0) d_Md_isEmpty_13 mi_Md_at w_1100 0 rfl rfl mv_Md_at rfl (Nat.le_of_ble_eq_true rfl) (by decide) (c_Md_at x1 x4 s (Ok_bind h)) (fun v1 h hnv1 => ?_)
  refine G_if_lt (tgt := 21) d_Md_isEmpty_16 (by decide) (fun c => ?_) (fun c => ?_)
  · replace h := Ok_t c h
    refine G_iinc d_Md_isEmpty_21 3 rfl lt_iconst_1 rfl (Nat.le_of_ble_eq_true rfl) (fun x => [(4, .int x), (0, .ref (ad 0)), (1, .int x1), (3, .int x3)]) (fun _ => rfl) (fun v2 e => ?_)
    replace h := Ok_bnd h v2 e
    clear e
    refine G_goto (tgt := 3) d_Md_isEmpty_24 (by decide) ?_
    refine G_lv [1, 2, 3, 0] rfl ?_
    replace h := Ok_some h
    exact hL3 v2 h
  replace h := Ok_f c h
  replace h := Ok_xit h
  refine G_iconst d_Md_isEmpty_19 lt_iconst_0 ?_
  replace h := Ok_some h
  exact G_iret rfl rfl d_Md_isEmpty_20 (hR _ h)
noncomputable def f_Md_isEmpty (a1 a2 a3 : Int32) (s : MS) : Option Int32 :=
  loop (fun z => Md_isEmpty_l3 a1 a3 s z) a2
theorem f_Md_isEmpty_w {l : Launch} {D : va_G} {cI cZ cJ : ClassId} {ad : Nat → Nat} (a1 a2 a3 : Int32) (s : MS) {Q : Int32 → MS → Prop} {Post : Int32 → Prop} (hR : ∀ (r9 : Int32), Post (r9) → Q r9 s) (h : Ok (f_Md_isEmpty a1 a2 a3 s) Post) : G (XM l D cI cZ cJ ad) "SmallHarbourModel" b_Md_isEmpty 5 (some .boolean) 3 0 [(0, .ref (ad 0)), (1, .int a1), (2, .int a2), (3, .int a3)] [] s Q := by
  unfold f_Md_isEmpty at h
  refine G_iload_n d_Md_isEmpty_0 rfl 2 rfl ?_
  refine G_istore d_Md_isEmpty_1 (Nat.le_of_ble_eq_true rfl) (fun x => [(4, .int x), (0, .ref (ad 0)), (1, .int a1), (2, .int a2), (3, .int a3)]) (fun _ => rfl) (fun x e => ?_)
  subst e
  refine G_lv [1, 2, 4, 0] rfl ?_
  refine G_loop (J := (fun z => G (XM l D cI cZ cJ ad) "SmallHarbourModel" b_Md_isEmpty 5 (some .boolean) 3 3 [(0, .ref (ad 0)), (1, .int a1), (3, .int a3), (4, .int z)] [] s Q)) (fun z h => ?_) a2 h
  refine Md_isEmpty_l3_w a1 a3 z s ?_ ?_ h
  · exact hR
  · exact (fun z4 h => h)
theorem c_Md_isEmpty {l : Launch} {D : va_G} {cI cZ cJ : ClassId} {ad : Nat → Nat} (a1 a2 a3 : Int32) (s : MS) {P : Int32 → Prop} (h : Ok (f_Md_isEmpty a1 a2 a3 s) P) : Ct (XM l D cI cZ cJ ad) y_Md_isEmpty b_Md_isEmpty 5 (some .boolean) 3 [.ref (ad 0), .int a1, .int a2, .int a3] s (fun r9 s9 => s9 = s ∧ P r9) :=
  Ct.of mi_Md_isEmpty (Nat.le_of_ble_eq_true rfl) (f_Md_isEmpty_w a1 a2 a3 s (fun _ h => ⟨rfl, h⟩) h)
-- Md_isLetter
noncomputable def f_Md_isLetter (a1 : Int32) : Option Int32 :=
  (f_Md_isIn a1 (97 : Int32) (122 : Int32)).bind fun v1 => if v1 = 0 then ((f_Md_isIn a1 (65 : Int32) (90 : Int32)).bind fun v2 => if v2 = 0 then (some (0 : Int32)) else (some (1 : Int32))) else (some (1 : Int32))
theorem f_Md_isLetter_w {l : Launch} {D : va_G} {cI cZ cJ : ClassId} {ad : Nat → Nat} (a1 : Int32) (s : MS) {Q : Int32 → MS → Prop} {Post : Int32 → Prop} (hR : ∀ (r9 : Int32), Post (r9) → Q r9 s) (h : Ok (f_Md_isLetter a1) Post) : G (XM l D cI cZ cJ ad) "SmallHarbourModel" b_Md_isLetter 1 (some .boolean) 1 0 [(0, .int a1)] [] s Q := by
  unfold f_Md_isLetter at h
  refine G_iload_n d_Md_isLetter_0 rfl 0 rfl ?_
  refine G_bipush d_Md_isLetter_1 lt_bipush_97 ?_
  refine G_bipush d_Md_isLetter_3 lt_bipush_122 ?_
  refine G_callSp (st := []) (As := [.int a1, .int (97 : Int32), .int (122 : Int32)]) d_Md_isLetter_5 mi_Md_isIn w_1045 w_1046 rfl (Nat.le_of_ble_eq_true rfl) (by decide) (c_Md_isIn a1 (97 : Int32) (122 : Int32) s (Ok_bind h)) (fun v1 h hnv1 => ?_)
  refine G_if_ne (tgt := 22) d_Md_isLetter_8 (by decide) (fun c => ?_) (fun c => ?_)
  · replace h := Ok_f c h
    refine G_iconst d_Md_isLetter_22 lt_iconst_1 ?_
    refine G_goto (tgt := 27) d_Md_isLetter_23 (by decide) ?_
    replace h := Ok_some h
    exact G_iret rfl rfl d_Md_isLetter_27 (hR _ h)
  replace h := Ok_t c h
  refine G_iload_n d_Md_isLetter_11 rfl 0 rfl ?_
  refine G_bipush d_Md_isLetter_12 lt_bipush_65 ?_
  refine G_bipush d_Md_isLetter_14 lt_bipush_90 ?_
  refine G_callSp (st := []) (As := [.int a1, .int (65 : Int32), .int (90 : Int32)]) d_Md_isLetter_16 mi_Md_isIn w_1045 w_1046 rfl (Nat.le_of_ble_eq_true rfl) (by decide) (c_Md_isIn a1 (65 : Int32) (90 : Int32) s (Ok_bind h)) (fun v2 h hnv2 => ?_)
  refine G_if_eq (tgt := 26) d_Md_isLetter_19 (by decide) (fun c => ?_) (fun c => ?_)
  · replace h := Ok_t c h
    refine G_iconst d_Md_isLetter_26 lt_iconst_0 ?_
    replace h := Ok_some h
    exact G_iret rfl rfl d_Md_isLetter_27 (hR _ h)
  replace h := Ok_f c h
  refine G_iconst d_Md_isLetter_22 lt_iconst_1 ?_
  refine G_goto (tgt := 27) d_Md_isLetter_23 (by decide) ?_
  replace h := Ok_some h
  exact G_iret rfl rfl d_Md_isLetter_27 (hR _ h)
theorem c_Md_isLetter {l : Launch} {D : va_G} {cI cZ cJ : ClassId} {ad : Nat → Nat} (a1 : Int32) (s : MS) {P : Int32 → Prop} (h : Ok (f_Md_isLetter a1) P) : Ct (XM l D cI cZ cJ ad) y_Md_isLetter b_Md_isLetter 1 (some .boolean) 1 [.int a1] s (fun r9 s9 => s9 = s ∧ P r9) :=
  Ct.of mi_Md_isLetter (Nat.le_of_ble_eq_true rfl) (f_Md_isLetter_w a1 s (fun _ h => ⟨rfl, h⟩) h)
-- Md_lane
noncomputable def f_Md_lane (a1 : Int32) (s : MS) : Option (Int32 × MS) :=
  (f_Md_isIn a1 (0 : Int32) ((s.1 18) - (1 : Int32))).bind fun v1 => if v1 = 0 then (some ((-1 : Int32), s)) else (bd2 (f_Md_fewest s) fun v2 s3 => if v2 < 0 then (some ((-1 : Int32), s3)) else (chk (inb a1 9) (bnd (s3.2 28 a1.toNatClampNeg) fun v4 => some (v4, s3))))
theorem f_Md_lane_w {l : Launch} {D : va_G} {cI cZ cJ : ClassId} {ad : Nat → Nat} (a1 : Int32) (s : MS) {Q : Int32 → MS → Prop} {Post : (Int32 × MS) → Prop} (hR : ∀ (r9 : Int32) (s9 : MS), Post ((r9, s9)) → Q r9 s9) (h : Ok (f_Md_lane a1 s) Post) : G (XM l D cI cZ cJ ad) "SmallHarbourModel" b_Md_lane 2 (some .int) 2 0 [(0, .ref (ad 0)), (1, .int a1)] [] s Q := by
  unfold f_Md_lane at h
  refine G_iload_n d_Md_lane_0 rfl 1 rfl ?_
  refine G_iconst d_Md_lane_1 lt_iconst_0 ?_
  refine G_aload_n d_Md_lane_2 rfl 0 rfl ?_
  refine gm_Md_inShed d_Md_lane_3 w_879 ?_
  refine G_iconst d_Md_lane_6 lt_iconst_1 ?_
  refine G_isub d_Md_lane_7 ?_
  refine G_callSp (st := []) (As := [.int a1, .int (0 : Int32), .int ((s.1 18) - (1 : Int32))]) d_Md_lane_8 mi_Md_isIn w_1045 w_1046 rfl (Nat.le_of_ble_eq_true rfl) (by decide) (c_Md_isIn a1 (0 : Int32) ((s.1 18) - (1 : Int32)) s (Ok_bind h)) (fun v1 h hnv1 => ?_)
  refine G_if_eq (tgt := 30) d_Md_lane_11 (by decide) (fun c => ?_) (fun c => ?_)
  · replace h := Ok_t c h
    refine G_iconst d_Md_lane_30 lt_iconst_m1 ?_
    replace h := Ok_some h
    exact G_iret rfl (vp_nar_int _) d_Md_lane_31 (hR _ _ h)
  replace h := Ok_f c h
  refine G_aload_n d_Md_lane_14 rfl 0 rfl ?_
  refine G_callVi (st := []) (As := []) (b := ad 0) d_Md_lane_15 mi_Md_fewest w_1216 0 rfl rfl mv_Md_fewest rfl (Nat.le_of_ble_eq_true rfl) (by decide) (c_Md_fewest  s (Ok_bd2 h)) (fun v2 s3 h hnv2 => ?_)
  refine G_if_lt (tgt := 30) d_Md_lane_18 (by decide) (fun c => ?_) (fun c => ?_)
  · replace h := Ok_t c h
    refine G_iconst d_Md_lane_30 lt_iconst_m1 ?_
    replace h := Ok_some h
    exact G_iret rfl (vp_nar_int _) d_Md_lane_31 (hR _ _ h)
  replace h := Ok_f c h
  refine G_aload_n d_Md_lane_21 rfl 0 rfl ?_
  refine gm_Md_bestLane d_Md_lane_22 w_883 ?_
  refine G_iload_n d_Md_lane_25 rfl 1 rfl ?_
  refine lm_28 d_Md_lane_26 (Ok_ld h).1 (fun v4 e => ?_)
  replace h := (Ok_ld h).2 v4 e
  clear e
  refine G_goto (tgt := 31) d_Md_lane_27 (by decide) ?_
  replace h := Ok_some h
  exact G_iret rfl (vp_nar_int _) d_Md_lane_31 (hR _ _ h)
theorem c_Md_lane {l : Launch} {D : va_G} {cI cZ cJ : ClassId} {ad : Nat → Nat} (a1 : Int32) (s : MS) {P : Int32 → MS → Prop} (h : Ok2 (f_Md_lane a1 s) P) : Ct (XM l D cI cZ cJ ad) y_Md_lane b_Md_lane 2 (some .int) 2 [.ref (ad 0), .int a1] s (P) :=
  Ct.of mi_Md_lane (Nat.le_of_ble_eq_true rfl) (f_Md_lane_w a1 s (Post := fun q => P q.1 q.2) (fun _ _ h => h) (Ok2_ok h))
-- Md_leaves
noncomputable def f_Md_leaves (a1 a2 : Int32) (s : MS) : Option (Int32 × MS) :=
  (f_Md_isIn a1 (0 : Int32) ((s.1 4) - (1 : Int32))).bind fun v1 => if v1 = 0 then (some ((0 : Int32), s)) else (chk (inb a1 40) (bnd (s.2 12 a1.toNatClampNeg) fun v2 => if a2 ≤ v2 then (some ((0 : Int32), s)) else (chk (inb a1 40) (bnd (s.2 13 a1.toNatClampNeg) fun v3 => if a2 < v3 then (chk (inb a1 40) (bnd (pa s 13 a1.toNatClampNeg a2) fun s4 => some ((1 : Int32), s4))) else (some ((0 : Int32), s))))))
theorem f_Md_leaves_w {l : Launch} {D : va_G} {cI cZ cJ : ClassId} {ad : Nat → Nat} (a1 a2 : Int32) (s : MS) {Q : Int32 → MS → Prop} {Post : (Int32 × MS) → Prop} (hR : ∀ (r9 : Int32) (s9 : MS), Post ((r9, s9)) → Q r9 s9) (h : Ok (f_Md_leaves a1 a2 s) Post) : G (XM l D cI cZ cJ ad) "SmallHarbourModel" b_Md_leaves 3 (some .boolean) 1 0 [(0, .ref (ad 0)), (1, .int a1), (2, .int a2)] [] s Q := by
  unfold f_Md_leaves at h
  refine G_iload_n d_Md_leaves_0 rfl 1 rfl ?_
  refine G_iconst d_Md_leaves_1 lt_iconst_0 ?_
  refine G_aload_n d_Md_leaves_2 rfl 0 rfl ?_
  refine gm_Md_stays d_Md_leaves_3 w_850 ?_
  refine G_iconst d_Md_leaves_6 lt_iconst_1 ?_
  refine G_isub d_Md_leaves_7 ?_
  refine G_callSp (st := []) (As := [.int a1, .int (0 : Int32), .int ((s.1 4) - (1 : Int32))]) d_Md_leaves_8 mi_Md_isIn w_1045 w_1046 rfl (Nat.le_of_ble_eq_true rfl) (by decide) (c_Md_isIn a1 (0 : Int32) ((s.1 4) - (1 : Int32)) s (Ok_bind h)) (fun v1 h hnv1 => ?_)
  refine G_if_eq (tgt := 34) d_Md_leaves_11 (by decide) (fun c => ?_) (fun c => ?_)
  · replace h := Ok_t c h
    refine G_iconst d_Md_leaves_34 lt_iconst_0 ?_
    replace h := Ok_some h
    exact G_iret rfl rfl d_Md_leaves_35 (hR _ _ h)
  replace h := Ok_f c h
  refine G_iload_n d_Md_leaves_14 rfl 2 rfl ?_
  refine G_aload_n d_Md_leaves_15 rfl 0 rfl ?_
  refine gm_Md_stayFrom d_Md_leaves_16 w_853 ?_
  refine G_iload_n d_Md_leaves_19 rfl 1 rfl ?_
  refine lm_12 d_Md_leaves_20 (Ok_ld h).1 (fun v2 e => ?_)
  replace h := (Ok_ld h).2 v2 e
  clear e
  refine G_icmp_le (tgt := 34) d_Md_leaves_21 (by decide) (fun c => ?_) (fun c => ?_)
  · replace h := Ok_t c h
    refine G_iconst d_Md_leaves_34 lt_iconst_0 ?_
    replace h := Ok_some h
    exact G_iret rfl rfl d_Md_leaves_35 (hR _ _ h)
  replace h := Ok_f c h
  refine G_iload_n d_Md_leaves_24 rfl 2 rfl ?_
  refine G_aload_n d_Md_leaves_25 rfl 0 rfl ?_
  refine gm_Md_stayTo d_Md_leaves_26 w_854 ?_
  refine G_iload_n d_Md_leaves_29 rfl 1 rfl ?_
  refine lm_13 d_Md_leaves_30 (Ok_ld h).1 (fun v3 e => ?_)
  replace h := (Ok_ld h).2 v3 e
  clear e
  refine G_icmp_lt (tgt := 36) d_Md_leaves_31 (by decide) (fun c => ?_) (fun c => ?_)
  · replace h := Ok_t c h
    refine G_aload_n d_Md_leaves_36 rfl 0 rfl ?_
    refine gm_Md_stayTo d_Md_leaves_37 w_854 ?_
    refine G_iload_n d_Md_leaves_40 rfl 1 rfl ?_
    refine G_iload_n d_Md_leaves_41 rfl 2 rfl ?_
    refine sm_13 d_Md_leaves_42 (Ok_ld h).1 (fun s4 e => ?_)
    replace h := (Ok_ld h).2 s4 e
    clear e
    refine G_iconst d_Md_leaves_43 lt_iconst_1 ?_
    replace h := Ok_some h
    exact G_iret rfl rfl d_Md_leaves_44 (hR _ _ h)
  replace h := Ok_f c h
  refine G_iconst d_Md_leaves_34 lt_iconst_0 ?_
  replace h := Ok_some h
  exact G_iret rfl rfl d_Md_leaves_35 (hR _ _ h)
theorem c_Md_leaves {l : Launch} {D : va_G} {cI cZ cJ : ClassId} {ad : Nat → Nat} (a1 a2 : Int32) (s : MS) {P : Int32 → MS → Prop} (h : Ok2 (f_Md_leaves a1 a2 s) P) : Ct (XM l D cI cZ cJ ad) y_Md_leaves b_Md_leaves 3 (some .boolean) 1 [.ref (ad 0), .int a1, .int a2] s (P) :=
  Ct.of mi_Md_leaves (Nat.le_of_ble_eq_true rfl) (f_Md_leaves_w a1 a2 s (Post := fun q => P q.1 q.2) (fun _ _ h => h) (Ok2_ok h))
