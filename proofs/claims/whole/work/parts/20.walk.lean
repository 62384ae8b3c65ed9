-- Md_about
noncomputable def f_Md_about (a1 : Int32) (s : MS) : Option Int32 :=
  bnd a1 fun v1 => if v1 = (0 : Int32) then (some (s.1 1)) else (if v1 = (1 : Int32) then (some (s.1 2)) else (if v1 = (2 : Int32) then (some (s.1 4)) else (if v1 = (3 : Int32) then (some (s.1 3)) else (if v1 = (4 : Int32) then (some (s.1 15)) else (if v1 = (5 : Int32) then (some (s.1 18)) else (if v1 = (6 : Int32) then (some (s.1 24)) else (if v1 = (7 : Int32) then (some (s.1 19)) else (if v1 = (8 : Int32) then (some (s.1 11)) else (some (-1 : Int32))))))))))
theorem f_Md_about_w {l : Launch} {D : va_G} {cI cZ cJ : ClassId} {ad : Nat → Nat} (a1 : Int32) (s : MS) {Q : Int32 → MS → Prop} {Post : Int32 → Prop} (hR : ∀ (r9 : Int32), Post (r9) → Q r9 s) (h : Ok (f_Md_about a1 s) Post) : G (XM l D cI cZ cJ ad) "SmallHarbourModel" b_Md_about 2 (some .int) 0 0 [(0, .ref (ad 0)), (1, .int a1)] [] s Q := by
  unfold f_Md_about at h
  refine G_iload_n d_Md_about_0 rfl 1 rfl ?_
  refine G_topi (fun v1 e => ?_)
  replace h := Ok_bnd h v1 e
  clear e
  by_cases c0 : v1 = (0 : Int32)
  · replace h := Ok_t c0 h
    refine G_tableIn (tgt := 52) d_Md_about_1 (by rw [c0]; decide) (by rw [c0]; decide) (by rw [c0]; rfl) (by decide) ?_
    refine G_aload_n d_Md_about_52 rfl 0 rfl ?_
    refine gm_Md_berths d_Md_about_53 w_838 ?_
    replace h := Ok_some h
    exact G_iret rfl (vp_nar_int _) d_Md_about_56 (hR _ h)
  replace h := Ok_f c0 h
  have n0 := ne_ti (z := 0) (by decide) c0
  by_cases c1 : v1 = (1 : Int32)
  · replace h := Ok_t c1 h
    refine G_tableIn (tgt := 57) d_Md_about_1 (by rw [c1]; decide) (by rw [c1]; decide) (by rw [c1]; rfl) (by decide) ?_
    refine G_aload_n d_Md_about_57 rfl 0 rfl ?_
    refine gm_Md_boats d_Md_about_58 w_841 ?_
    replace h := Ok_some h
    exact G_iret rfl (vp_nar_int _) d_Md_about_61 (hR _ h)
  replace h := Ok_f c1 h
  have n1 := ne_ti (z := 1) (by decide) c1
  by_cases c2 : v1 = (2 : Int32)
  · replace h := Ok_t c2 h
    refine G_tableIn (tgt := 62) d_Md_about_1 (by rw [c2]; decide) (by rw [c2]; decide) (by rw [c2]; rfl) (by decide) ?_
    refine G_aload_n d_Md_about_62 rfl 0 rfl ?_
    refine gm_Md_stays d_Md_about_63 w_850 ?_
    replace h := Ok_some h
    exact G_iret rfl (vp_nar_int _) d_Md_about_66 (hR _ h)
  replace h := Ok_f c2 h
  have n2 := ne_ti (z := 2) (by decide) c2
  by_cases c3 : v1 = (3 : Int32)
  · replace h := Ok_t c3 h
    refine G_tableIn (tgt := 67) d_Md_about_1 (by rw [c3]; decide) (by rw [c3]; decide) (by rw [c3]; rfl) (by decide) ?_
    refine G_aload_n d_Md_about_67 rfl 0 rfl ?_
    refine gm_Md_spans d_Md_about_68 w_846 ?_
    replace h := Ok_some h
    exact G_iret rfl (vp_nar_int _) d_Md_about_71 (hR _ h)
  replace h := Ok_f c3 h
  have n3 := ne_ti (z := 3) (by decide) c3
  by_cases c4 : v1 = (4 : Int32)
  · replace h := Ok_t c4 h
    refine G_tableIn (tgt := 72) d_Md_about_1 (by rw [c4]; decide) (by rw [c4]; decide) (by rw [c4]; rfl) (by decide) ?_
    refine G_aload_n d_Md_about_72 rfl 0 rfl ?_
    refine gm_Md_lifts d_Md_about_73 w_872 ?_
    replace h := Ok_some h
    exact G_iret rfl (vp_nar_int _) d_Md_about_76 (hR _ h)
  replace h := Ok_f c4 h
  have n4 := ne_ti (z := 4) (by decide) c4
  by_cases c5 : v1 = (5 : Int32)
  · replace h := Ok_t c5 h
    refine G_tableIn (tgt := 77) d_Md_about_1 (by rw [c5]; decide) (by rw [c5]; decide) (by rw [c5]; rfl) (by decide) ?_
    refine G_aload_n d_Md_about_77 rfl 0 rfl ?_
    refine gm_Md_inShed d_Md_about_78 w_879 ?_
    replace h := Ok_some h
    exact G_iret rfl (vp_nar_int _) d_Md_about_81 (hR _ h)
  replace h := Ok_f c5 h
  have n5 := ne_ti (z := 5) (by decide) c5
  by_cases c6 : v1 = (6 : Int32)
  · replace h := Ok_t c6 h
    refine G_tableIn (tgt := 82) d_Md_about_1 (by rw [c6]; decide) (by rw [c6]; decide) (by rw [c6]; rfl) (by decide) ?_
    refine G_aload_n d_Md_about_82 rfl 0 rfl ?_
    refine gm_Md_rules d_Md_about_83 w_890 ?_
    replace h := Ok_some h
    exact G_iret rfl (vp_nar_int _) d_Md_about_86 (hR _ h)
  replace h := Ok_f c6 h
  have n6 := ne_ti (z := 6) (by decide) c6
  by_cases c7 : v1 = (7 : Int32)
  · replace h := Ok_t c7 h
    refine G_tableIn (tgt := 87) d_Md_about_1 (by rw [c7]; decide) (by rw [c7]; decide) (by rw [c7]; rfl) (by decide) ?_
    refine G_aload_n d_Md_about_87 rfl 0 rfl ?_
    refine gm_Md_taped d_Md_about_88 w_885 ?_
    replace h := Ok_some h
    exact G_iret rfl (vp_nar_int _) d_Md_about_91 (hR _ h)
  replace h := Ok_f c7 h
  have n7 := ne_ti (z := 7) (by decide) c7
  by_cases c8 : v1 = (8 : Int32)
  · replace h := Ok_t c8 h
    refine G_tableIn (tgt := 92) d_Md_about_1 (by rw [c8]; decide) (by rw [c8]; decide) (by rw [c8]; rfl) (by decide) ?_
    refine G_aload_n d_Md_about_92 rfl 0 rfl ?_
    refine gm_Md_moves d_Md_about_93 w_864 ?_
    replace h := Ok_some h
    exact G_iret rfl (vp_nar_int _) d_Md_about_96 (hR _ h)
  replace h := Ok_f c8 h
  have n8 := ne_ti (z := 8) (by decide) c8
  refine G_tableOut (tgt := 97) d_Md_about_1 (by omega) (by decide) ?_
  refine G_iconst d_Md_about_97 lt_iconst_m1 ?_
  replace h := Ok_some h
  exact G_iret rfl (vp_nar_int _) d_Md_about_98 (hR _ h)
theorem c_Md_about {l : Launch} {D : va_G} {cI cZ cJ : ClassId} {ad : Nat → Nat} (a1 : Int32) (s : MS) {P : Int32 → Prop} (h : Ok (f_Md_about a1 s) P) : Ct (XM l D cI cZ cJ ad) y_Md_about b_Md_about 2 (some .int) 0 [.ref (ad 0), .int a1] s (fun r9 s9 => s9 = s ∧ P r9) :=
  Ct.of mi_Md_about (Nat.le_of_ble_eq_true rfl) (f_Md_about_w a1 s (fun _ h => ⟨rfl, h⟩) h)
-- Md_isAway
noncomputable def Md_isAway_l2 (x1 x2 : Int32) (s : MS) (x3 : Int32) : Option ((Int32) ⊕ Int32) :=
  if (s.1 3) ≤ x3 then (xit (some (0 : Int32))) else (chk (inb x3 60) (bnd (s.2 7 x3.toNatClampNeg) fun v1 => if v1 = x1 then (chk (inb x3 60) (bnd (s.2 8 x3.toNatClampNeg) fun v3 => if x2 < v3 then (bnd (x3 + (1 : Int32)) fun v4 => some (.inl v4)) else (chk (inb x3 60) (bnd (s.2 9 x3.toNatClampNeg) fun v5 => if v5 ≤ x2 then (bnd (x3 + (1 : Int32)) fun v6 => some (.inl v6)) else (xit (some (1 : Int32))))))) else (bnd (x3 + (1 : Int32)) fun v2 => some (.inl v2))))
theorem Md_isAway_l2_w {l : Launch} {D : va_G} {cI cZ cJ : ClassId} {ad : Nat → Nat} (x1 x2 x3 : Int32) (s : MS) {Q : Int32 → MS → Prop} {Post : ((Int32) ⊕ Int32) → Prop} (hR : ∀ (r9 : Int32), Post (.inr (r9)) → Q r9 s) (hL2 : ∀ (z3 : Int32) , Post (.inl z3) → G (XM l D cI cZ cJ ad) "SmallHarbourModel" b_Md_isAway 4 (some .boolean) 0 2 [(0, .ref (ad 0)), (1, .int x1), (2, .int x2), (3, .int z3)] [] s Q) (h : Ok (Md_isAway_l2 x1 x2 s x3) Post) : G (XM l D cI cZ cJ ad) "SmallHarbourModel" b_Md_isAway 4 (some .boolean) 0 2 [(0, .ref (ad 0)), (1, .int x1), (2, .int x2), (3, .int x3)] [] s Q := by
  unfold Md_isAway_l2 at h
  refine G_iload_n d_Md_isAway_2 rfl 3 rfl ?_
  refine G_aload_n d_Md_isAway_3 rfl 0 rfl ?_
  refine gm_Md_spans d_Md_isAway_4 w_846 ?_
  refine G_icmp_ge (tgt := 48) d_Md_isAway_7 (by decide) (fun c => ?_) (fun c => ?_)
  · replace h := Ok_t c h
    replace h := Ok_xit h
    refine G_iconst d_Md_isAway_48 lt_iconst_0 ?_
    replace h := Ok_some h
    exact G_iret rfl rfl d_Md_isAway_49 (hR _ h)
  replace h := Ok_f c h
  refine G_aload_n d_Md_isAway_10 rfl 0 rfl ?_
  refine gm_Md_spanBoat d_Md_isAway_11 w_847 ?_
  refine G_iload_n d_Md_isAway_14 rfl 3 rfl ?_
  refine lm_7 d_Md_isAway_15 (Ok_ld h).1 (fun v1 e => ?_)
  replace h := (Ok_ld h).2 v1 e
  clear e
  refine G_iload_n d_Md_isAway_16 rfl 1 rfl ?_
  refine G_icmp_ne (tgt := 42) d_Md_isAway_17 (by decide) (fun c => ?_) (fun c => ?_)
  · replace h := Ok_f c h
    refine G_iinc d_Md_isAway_42 3 rfl lt_iconst_1 rfl (Nat.le_of_ble_eq_true rfl) (fun x => [(3, .int x), (0, .ref (ad 0)), (1, .int x1), (2, .int x2)]) (fun _ => rfl) (fun v2 e => ?_)
    replace h := Ok_bnd h v2 e
    clear e
    refine G_goto (tgt := 2) d_Md_isAway_45 (by decide) ?_
    refine G_lv [1, 2, 3, 0] rfl ?_
    replace h := Ok_some h
    exact hL2 v2 h
  replace h := Ok_t c h
  refine G_iload_n d_Md_isAway_20 rfl 2 rfl ?_
  refine G_aload_n d_Md_isAway_21 rfl 0 rfl ?_
  refine gm_Md_spanFrom d_Md_isAway_22 w_848 ?_
  refine G_iload_n d_Md_isAway_25 rfl 3 rfl ?_
  refine lm_8 d_Md_isAway_26 (Ok_ld h).1 (fun v3 e => ?_)
  replace h := (Ok_ld h).2 v3 e
  clear e
  refine G_icmp_lt (tgt := 42) d_Md_isAway_27 (by decide) (fun c => ?_) (fun c => ?_)
  · replace h := Ok_t c h
    refine G_iinc d_Md_isAway_42 3 rfl lt_iconst_1 rfl (Nat.le_of_ble_eq_true rfl) (fun x => [(3, .int x), (0, .ref (ad 0)), (1, .int x1), (2, .int x2)]) (fun _ => rfl) (fun v4 e => ?_)
    replace h := Ok_bnd h v4 e
    clear e
    refine G_goto (tgt := 2) d_Md_isAway_45 (by decide) ?_
    refine G_lv [1, 2, 3, 0] rfl ?_
    replace h := Ok_some h
    exact hL2 v4 h
  replace h := Ok_f c h
  refine G_iload_n d_Md_isAway_30 rfl 2 rfl ?_
  refine G_aload_n d_Md_isAway_31 rfl 0 rfl ?_
  refine gm_Md_spanTo d_Md_isAway_32 w_849 ?_
  refine G_iload_n d_Md_isAway_35 rfl 3 rfl ?_
  refine lm_9 d_Md_isAway_36 (Ok_ld h).1 (fun v5 e => ?_)
  replace h := (Ok_ld h).2 v5 e
  clear e
  refine G_icmp_ge (tgt := 42) d_Md_isAway_37 (by decide) (fun c => ?_) (fun c => ?_)
  · replace h := Ok_t c h
    refine G_iinc d_Md_isAway_42 3 rfl lt_iconst_1 rfl (Nat.le_of_ble_eq_true rfl) (fun x => [(3, .int x), (0, .ref (ad 0)), (1, .int x1), (2, .int x2)]) (fun _ => rfl) (fun v6 e => ?_)
    replace h := Ok_bnd h v6 e
    clear e
    refine G_goto (tgt := 2) d_Md_isAway_45 (by decide) ?_
    refine G_lv [1, 2, 3, 0] rfl ?_
    replace h := Ok_some h
    exact hL2 v6 h
  replace h := Ok_f c h
  replace h := Ok_xit h
  refine G_iconst d_Md_isAway_40 lt_iconst_1 ?_
  replace h := Ok_some h
  exact G_iret rfl rfl d_Md_isAway_41 (hR _ h)
noncomputable def f_Md_isAway (a1 a2 : Int32) (s : MS) : Option Int32 :=
  loop (fun z => Md_isAway_l2 a1 a2 s z) (0 : Int32)
theorem f_Md_isAway_w {l : Launch} {D : va_G} {cI cZ cJ : ClassId} {ad : Nat → Nat} (a1 a2 : Int32) (s : MS) {Q : Int32 → MS → Prop} {Post : Int32 → Prop} (hR : ∀ (r9 : Int32), Post (r9) → Q r9 s) (h : Ok (f_Md_isAway a1 a2 s) Post) : G (XM l D cI cZ cJ ad) "SmallHarbourModel" b_Md_isAway 4 (some .boolean) 0 0 [(0, .ref (ad 0)), (1, .int a1), (2, .int a2)] [] s Q := by
  unfold f_Md_isAway at h
  refine G_iconst d_Md_isAway_0 lt_iconst_0 ?_
  refine G_istore_n d_Md_isAway_1 rfl (Nat.le_of_ble_eq_true rfl) (fun x => [(3, .int x), (0, .ref (ad 0)), (1, .int a1), (2, .int a2)]) (fun _ => rfl) (fun x e => ?_)
  subst e
  refine G_lv [1, 2, 3, 0] rfl ?_
  refine G_loop (J := (fun z => G (XM l D cI cZ cJ ad) "SmallHarbourModel" b_Md_isAway 4 (some .boolean) 0 2 [(0, .ref (ad 0)), (1, .int a1), (2, .int a2), (3, .int z)] [] s Q)) (fun z h => ?_) (0 : Int32) h
  refine Md_isAway_l2_w a1 a2 z s ?_ ?_ h
  · exact hR
  · exact (fun z3 h => h)
theorem c_Md_isAway {l : Launch} {D : va_G} {cI cZ cJ : ClassId} {ad : Nat → Nat} (a1 a2 : Int32) (s : MS) {P : Int32 → Prop} (h : Ok (f_Md_isAway a1 a2 s) P) : Ct (XM l D cI cZ cJ ad) y_Md_isAway b_Md_isAway 4 (some .boolean) 0 [.ref (ad 0), .int a1, .int a2] s (fun r9 s9 => s9 = s ∧ P r9) :=
  Ct.of mi_Md_isAway (Nat.le_of_ble_eq_true rfl) (f_Md_isAway_w a1 a2 s (fun _ h => ⟨rfl, h⟩) h)
-- Md_atHome
noncomputable def Md_atHome_l2 (x1 x2 : Int32) (s : MS) (x3 : Int32) : Option ((Int32) ⊕ Int32) :=
  if (s.1 2) ≤ x3 then (xit (some (-1 : Int32))) else (chk (inb x3 30) (bnd (s.2 6 x3.toNatClampNeg) fun v1 => if v1 = x1 then ((f_Md_isAway x3 x2 s).bind fun v3 => if v3 = 0 then (xit (some x3)) else (bnd (x3 + (1 : Int32)) fun v4 => some (.inl v4))) else (bnd (x3 + (1 : Int32)) fun v2 => some (.inl v2))))
theorem Md_atHome_l2_w {l : Launch} {D : va_G} {cI cZ cJ : ClassId} {ad : Nat → Nat} (x1 x2 x3 : Int32) (s : MS) {Q : Int32 → MS → Prop} {Post : ((Int32) ⊕ Int32) → Prop} (hR : ∀ (r9 : Int32), Post (.inr (r9)) → Q r9 s) (hL2 : ∀ (z3 : Int32) , Post (.inl z3) → G (XM l D cI cZ cJ ad) "SmallHarbourModel" b_Md_atHome 4 (some .int) 1 2 [(0, .ref (ad 0)), (1, .int x1), (2, .int x2), (3, .int z3)] [] s Q) (h : Ok (Md_atHome_l2 x1 x2 s x3) Post) : G (XM l D cI cZ cJ ad) "SmallHarbourModel" b_Md_atHome 4 (some .int) 1 2 [(0, .ref (ad 0)), (1, .int x1), (2, .int x2), (3, .int x3)] [] s Q := by
  unfold Md_atHome_l2 at h
  refine G_iload_n d_Md_atHome_2 rfl 3 rfl ?_
  refine G_aload_n d_Md_atHome_3 rfl 0 rfl ?_
  refine gm_Md_boats d_Md_atHome_4 w_841 ?_
  refine G_icmp_ge (tgt := 37) d_Md_atHome_7 (by decide) (fun c => ?_) (fun c => ?_)
  · replace h := Ok_t c h
    replace h := Ok_xit h
    refine G_iconst d_Md_atHome_37 lt_iconst_m1 ?_
    replace h := Ok_some h
    exact G_iret rfl (vp_nar_int _) d_Md_atHome_38 (hR _ h)
  replace h := Ok_f c h
  refine G_aload_n d_Md_atHome_10 rfl 0 rfl ?_
  refine gm_Md_home d_Md_atHome_11 w_845 ?_
  refine G_iload_n d_Md_atHome_14 rfl 3 rfl ?_
  refine lm_6 d_Md_atHome_15 (Ok_ld h).1 (fun v1 e => ?_)
  replace h := (Ok_ld h).2 v1 e
  clear e
  refine G_iload_n d_Md_atHome_16 rfl 1 rfl ?_
  refine G_icmp_ne (tgt := 31) d_Md_atHome_17 (by decide) (fun c => ?_) (fun c => ?_)
  · replace h := Ok_f c h
    refine G_iinc d_Md_atHome_31 3 rfl lt_iconst_1 rfl (Nat.le_of_ble_eq_true rfl) (fun x => [(3, .int x), (0, .ref (ad 0)), (1, .int x1), (2, .int x2)]) (fun _ => rfl) (fun v2 e => ?_)
    replace h := Ok_bnd h v2 e
    clear e
    refine G_goto (tgt := 2) d_Md_atHome_34 (by decide) ?_
    refine G_lv [1, 2, 3, 0] rfl ?_
    replace h := Ok_some h
    exact hL2 v2 h
  replace h := Ok_t c h
  refine G_aload_n d_Md_atHome_20 rfl 0 rfl ?_
  refine G_iload_n d_Md_atHome_21 rfl 3 rfl ?_
  refine G_iload_n d_Md_atHome_22 rfl 2 rfl ?_
  refine G_callVp (st := []) (As := [.int x3, .int x2]) (b := ad 0) d_Md_atHome_23 mi_Md_isAway w_1080 0 rfl rfl mv_Md_isAway rfl (Nat.le_of_ble_eq_true rfl) (by decide) (c_Md_isAway x3 x2 s (Ok_bind h)) (fun v3 h hnv3 => ?_)
  refine G_if_ne (tgt := 31) d_Md_atHome_26 (by decide) (fun c => ?_) (fun c => ?_)
  · replace h := Ok_f c h
    refine G_iinc d_Md_atHome_31 3 rfl lt_iconst_1 rfl (Nat.le_of_ble_eq_true rfl) (fun x => [(3, .int x), (0, .ref (ad 0)), (1, .int x1), (2, .int x2)]) (fun _ => rfl) (fun v4 e => ?_)
    replace h := Ok_bnd h v4 e
    clear e
    refine G_goto (tgt := 2) d_Md_atHome_34 (by decide) ?_
    refine G_lv [1, 2, 3, 0] rfl ?_
    replace h := Ok_some h
    exact hL2 v4 h
  replace h := Ok_t c h
  replace h := Ok_xit h
  refine G_iload_n d_Md_atHome_29 rfl 3 rfl ?_
  replace h := Ok_some h
  exact G_iret rfl (vp_nar_int _) d_Md_atHome_30 (hR _ h)
noncomputable def f_Md_atHome (a1 a2 : Int32) (s : MS) : Option Int32 :=
  loop (fun z => Md_atHome_l2 a1 a2 s z) (0 : Int32)
theorem f_Md_atHome_w {l : Launch} {D : va_G} {cI cZ cJ : ClassId} {ad : Nat → Nat} (a1 a2 : Int32) (s : MS) {Q : Int32 → MS → Prop} {Post : Int32 → Prop} (hR : ∀ (r9 : Int32), Post (r9) → Q r9 s) (h : Ok (f_Md_atHome a1 a2 s) Post) : G (XM l D cI cZ cJ ad) "SmallHarbourModel" b_Md_atHome 4 (some .int) 1 0 [(0, .ref (ad 0)), (1, .int a1), (2, .int a2)] [] s Q := by
  unfold f_Md_atHome at h
  refine G_iconst d_Md_atHome_0 lt_iconst_0 ?_
  refine G_istore_n d_Md_atHome_1 rfl (Nat.le_of_ble_eq_true rfl) (fun x => [(3, .int x), (0, .ref (ad 0)), (1, .int a1), (2, .int a2)]) (fun _ => rfl) (fun x e => ?_)
  subst e
  refine G_lv [1, 2, 3, 0] rfl ?_
  refine G_loop (J := (fun z => G (XM l D cI cZ cJ ad) "SmallHarbourModel" b_Md_atHome 4 (some .int) 1 2 [(0, .ref (ad 0)), (1, .int a1), (2, .int a2), (3, .int z)] [] s Q)) (fun z h => ?_) (0 : Int32) h
  refine Md_atHome_l2_w a1 a2 z s ?_ ?_ h
  · exact hR
  · exact (fun z3 h => h)
theorem c_Md_atHome {l : Launch} {D : va_G} {cI cZ cJ : ClassId} {ad : Nat → Nat} (a1 a2 : Int32) (s : MS) {P : Int32 → Prop} (h : Ok (f_Md_atHome a1 a2 s) P) : Ct (XM l D cI cZ cJ ad) y_Md_atHome b_Md_atHome 4 (some .int) 1 [.ref (ad 0), .int a1, .int a2] s (fun r9 s9 => s9 = s ∧ P r9) :=
  Ct.of mi_Md_atHome (Nat.le_of_ble_eq_true rfl) (f_Md_atHome_w a1 a2 s (fun _ h => ⟨rfl, h⟩) h)
-- Md_isNight
noncomputable def f_Md_isNight (a1 a2 : Int32) (s : MS) : Option Int32 :=
  chk (inb a1 40) (bnd (s.2 12 a1.toNatClampNeg) fun v1 => if a2 < v1 then (some (0 : Int32)) else (chk (inb a1 40) (bnd (s.2 13 a1.toNatClampNeg) fun v2 => if v2 ≤ a2 then (some (0 : Int32)) else (some (1 : Int32)))))
theorem f_Md_isNight_w {l : Launch} {D : va_G} {cI cZ cJ : ClassId} {ad : Nat → Nat} (a1 a2 : Int32) (s : MS) {Q : Int32 → MS → Prop} {Post : Int32 → Prop} (hR : ∀ (r9 : Int32), Post (r9) → Q r9 s) (h : Ok (f_Md_isNight a1 a2 s) Post) : G (XM l D cI cZ cJ ad) "SmallHarbourModel" b_Md_isNight 3 (some .boolean) 0 0 [(0, .ref (ad 0)), (1, .int a1), (2, .int a2)] [] s Q := by
  unfold f_Md_isNight at h
  refine G_iload_n d_Md_isNight_0 rfl 2 rfl ?_
  refine G_aload_n d_Md_isNight_1 rfl 0 rfl ?_
  refine gm_Md_stayFrom d_Md_isNight_2 w_853 ?_
  refine G_iload_n d_Md_isNight_5 rfl 1 rfl ?_
  refine lm_12 d_Md_isNight_6 (Ok_ld h).1 (fun v1 e => ?_)
  replace h := (Ok_ld h).2 v1 e
  clear e
  refine G_icmp_lt (tgt := 24) d_Md_isNight_7 (by decide) (fun c => ?_) (fun c => ?_)
  · replace h := Ok_t c h
    refine G_iconst d_Md_isNight_24 lt_iconst_0 ?_
    replace h := Ok_some h
    exact G_iret rfl rfl d_Md_isNight_25 (hR _ h)
  replace h := Ok_f c h
  refine G_iload_n d_Md_isNight_10 rfl 2 rfl ?_
  refine G_aload_n d_Md_isNight_11 rfl 0 rfl ?_
  refine gm_Md_stayTo d_Md_isNight_12 w_854 ?_
  refine G_iload_n d_Md_isNight_15 rfl 1 rfl ?_
  refine lm_13 d_Md_isNight_16 (Ok_ld h).1 (fun v2 e => ?_)
  replace h := (Ok_ld h).2 v2 e
  clear e
  refine G_icmp_ge (tgt := 24) d_Md_isNight_17 (by decide) (fun c => ?_) (fun c => ?_)
  · replace h := Ok_t c h
    refine G_iconst d_Md_isNight_24 lt_iconst_0 ?_
    replace h := Ok_some h
    exact G_iret rfl rfl d_Md_isNight_25 (hR _ h)
  replace h := Ok_f c h
  refine G_iconst d_Md_isNight_20 lt_iconst_1 ?_
  refine G_goto (tgt := 25) d_Md_isNight_21 (by decide) ?_
  replace h := Ok_some h
  exact G_iret rfl rfl d_Md_isNight_25 (hR _ h)
theorem c_Md_isNight {l : Launch} {D : va_G} {cI cZ cJ : ClassId} {ad : Nat → Nat} (a1 a2 : Int32) (s : MS) {P : Int32 → Prop} (h : Ok (f_Md_isNight a1 a2 s) P) : Ct (XM l D cI cZ cJ ad) y_Md_isNight b_Md_isNight 3 (some .boolean) 0 [.ref (ad 0), .int a1, .int a2] s (fun r9 s9 => s9 = s ∧ P r9) :=
  Ct.of mi_Md_isNight (Nat.le_of_ble_eq_true rfl) (f_Md_isNight_w a1 a2 s (fun _ h => ⟨rfl, h⟩) h)
-- Md_at
noncomputable def Md_at_l16 (x1 x2 : Int32) (s : MS) (x4 : Int32) : Option ((Int32) ⊕ Int32) :=
  if (s.1 4) ≤ x4 then (xit (some (-1 : Int32))) else (chk (inb x4 40) (bnd (s.2 11 x4.toNatClampNeg) fun v1 => if v1 = x1 then ((f_Md_isNight x4 x2 s).bind fun v3 => if v3 = 0 then (bnd (x4 + (1 : Int32)) fun v4 => some (.inl v4)) else (xit (chk (inb x4 40) (bnd (s.2 10 x4.toNatClampNeg) fun v5 => some v5)))) else (bnd (x4 + (1 : Int32)) fun v2 => some (.inl v2))))
theorem Md_at_l16_w {l : Launch} {D : va_G} {cI cZ cJ : ClassId} {ad : Nat → Nat} (x1 x2 x4 : Int32) (s : MS) {Q : Int32 → MS → Prop} {Post : ((Int32) ⊕ Int32) → Prop} (hR : ∀ (r9 : Int32), Post (.inr (r9)) → Q r9 s) (hL16 : ∀ (z4 : Int32) , Post (.inl z4) → G (XM l D cI cZ cJ ad) "SmallHarbourModel" b_Md_at 5 (some .int) 2 16 [(0, .ref (ad 0)), (1, .int x1), (2, .int x2), (4, .int z4)] [] s Q) (h : Ok (Md_at_l16 x1 x2 s x4) Post) : G (XM l D cI cZ cJ ad) "SmallHarbourModel" b_Md_at 5 (some .int) 2 16 [(0, .ref (ad 0)), (1, .int x1), (2, .int x2), (4, .int x4)] [] s Q := by
  unfold Md_at_l16 at h
  refine G_iload d_Md_at_16 3 rfl ?_
  refine G_aload_n d_Md_at_18 rfl 0 rfl ?_
  refine gm_Md_stays d_Md_at_19 w_850 ?_
  refine G_icmp_ge (tgt := 60) d_Md_at_22 (by decide) (fun c => ?_) (fun c => ?_)
  · replace h := Ok_t c h
    replace h := Ok_xit h
    refine G_iconst d_Md_at_60 lt_iconst_m1 ?_
    replace h := Ok_some h
    exact G_iret rfl (vp_nar_int _) d_Md_at_61 (hR _ h)
  replace h := Ok_f c h
  refine G_aload_n d_Md_at_25 rfl 0 rfl ?_
  refine gm_Md_stayBerth d_Md_at_26 w_852 ?_
  refine G_iload d_Md_at_29 3 rfl ?_
  refine lm_11 d_Md_at_31 (Ok_ld h).1 (fun v1 e => ?_)
  replace h := (Ok_ld h).2 v1 e
  clear e
  refine G_iload_n d_Md_at_32 rfl 1 rfl ?_
  refine G_icmp_ne (tgt := 54) d_Md_at_33 (by decide) (fun c => ?_) (fun c => ?_)
  · replace h := Ok_f c h
    refine G_iinc d_Md_at_54 3 rfl lt_iconst_1 rfl (Nat.le_of_ble_eq_true rfl) (fun x => [(4, .int x), (0, .ref (ad 0)), (1, .int x1), (2, .int x2)]) (fun _ => rfl) (fun v2 e => ?_)
    replace h := Ok_bnd h v2 e
    clear e
    refine G_goto (tgt := 16) d_Md_at_57 (by decide) ?_
    refine G_lv [1, 2, 3, 0] rfl ?_
    replace h := Ok_some h
    exact hL16 v2 h
  replace h := Ok_t c h
  refine G_aload_n d_Md_at_36 rfl 0 rfl ?_
  refine G_iload d_Md_at_37 3 rfl ?_
  refine G_iload_n d_Md_at_39 rfl 2 rfl ?_
  refine G_callVp (st := []) (As := [.int x4, .int x2]) (b := ad 0) d_Md_at_40 mi_Md_isNight w_1108 0 rfl rfl mv_Md_isNight rfl (Nat.le_of_ble_eq_true rfl) (by decide) (c_Md_isNight x4 x2 s (Ok_bind h)) (fun v3 h hnv3 => ?_)
  refine G_if_eq (tgt := 54) d_Md_at_43 (by decide) (fun c => ?_) (fun c => ?_)
  · replace h := Ok_t c h
    refine G_iinc d_Md_at_54 3 rfl lt_iconst_1 rfl (Nat.le_of_ble_eq_true rfl) (fun x => [(4, .int x), (0, .ref (ad 0)), (1, .int x1), (2, .int x2)]) (fun _ => rfl) (fun v4 e => ?_)
    replace h := Ok_bnd h v4 e
    clear e
    refine G_goto (tgt := 16) d_Md_at_57 (by decide) ?_
    refine G_lv [1, 2, 3, 0] rfl ?_
    replace h := Ok_some h
    exact hL16 v4 h
  replace h := Ok_f c h
  replace h := Ok_xit h
  refine G_aload_n d_Md_at_46 rfl 0 rfl ?_
  refine gm_Md_stayBoat d_Md_at_47 w_851 ?_
  refine G_iload d_Md_at_50 3 rfl ?_
  refine lm_10 d_Md_at_52 (Ok_ld h).1 (fun v5 e => ?_)
  replace h := (Ok_ld h).2 v5 e
  clear e
  replace h := Ok_some h
  exact G_iret rfl (vp_nar_int _) d_Md_at_53 (hR _ h)
noncomputable def f_Md_at (a1 a2 : Int32) (s : MS) : Option Int32 :=
  (f_Md_atHome a1 a2 s).bind fun v1 => if v1 < 0 then (loop (fun z => Md_at_l16 a1 a2 s z) (0 : Int32)) else (some v1)
theorem f_Md_at_w {l : Launch} {D : va_G} {cI cZ cJ : ClassId} {ad : Nat → Nat} (a1 a2 : Int32) (s : MS) {Q : Int32 → MS → Prop} {Post : Int32 → Prop} (hR : ∀ (r9 : Int32), Post (r9) → Q r9 s) (h : Ok (f_Md_at a1 a2 s) Post) : G (XM l D cI cZ cJ ad) "SmallHarbourModel" b_Md_at 5 (some .int) 2 0 [(0, .ref (ad 0)), (1, .int a1), (2, .int a2)] [] s Q := by
  unfold f_Md_at at h
  refine G_aload_n d_Md_at_0 rfl 0 rfl ?_
  refine G_iload_n d_Md_at_1 rfl 1 rfl ?_
  refine G_iload_n d_Md_at_2 rfl 2 rfl ?_
  refine G_callVp (st := []) (As := [.int a1, .int a2]) (b := ad 0) d_Md_at_3 mi_Md_atHome w_1104 0 rfl rfl mv_Md_atHome rfl (Nat.le_of_ble_eq_true rfl) (by decide) (c_Md_atHome a1 a2 s (Ok_bind h)) (fun v1 h hnv1 => ?_)
  refine G_istore_n d_Md_at_6 rfl (Nat.le_of_ble_eq_true rfl) (fun x => [(3, .int x), (0, .ref (ad 0)), (1, .int a1), (2, .int a2)]) (fun _ => rfl) (fun x e => ?_)
  subst e
  refine G_iload_n d_Md_at_7 rfl 0 rfl ?_
  refine G_if_lt (tgt := 13) d_Md_at_8 (by decide) (fun c => ?_) (fun c => ?_)
  · replace h := Ok_t c h
    refine G_iconst d_Md_at_13 lt_iconst_0 ?_
    refine G_istore d_Md_at_14 (Nat.le_of_ble_eq_true rfl) (fun x => [(4, .int x), (3, .int v1), (0, .ref (ad 0)), (1, .int a1), (2, .int a2)]) (fun _ => rfl) (fun x e => ?_)
    subst e
    refine G_lv [2, 3, 4, 0] rfl ?_
    refine G_loop (J := (fun z => G (XM l D cI cZ cJ ad) "SmallHarbourModel" b_Md_at 5 (some .int) 2 16 [(0, .ref (ad 0)), (1, .int a1), (2, .int a2), (4, .int z)] [] s Q)) (fun z h => ?_) (0 : Int32) h
    refine Md_at_l16_w a1 a2 z s ?_ ?_ h
    · exact hR
    · exact (fun z4 h => h)
  replace h := Ok_f c h
  refine G_iload_n d_Md_at_11 rfl 0 rfl ?_
  replace h := Ok_some h
  exact G_iret rfl (vp_nar_int _) d_Md_at_12 (hR _ h)
theorem c_Md_at {l : Launch} {D : va_G} {cI cZ cJ : ClassId} {ad : Nat → Nat} (a1 a2 : Int32) (s : MS) {P : Int32 → Prop} (h : Ok (f_Md_at a1 a2 s) P) : Ct (XM l D cI cZ cJ ad) y_Md_at b_Md_at 5 (some .int) 2 [.ref (ad 0), .int a1, .int a2] s (fun r9 s9 => s9 = s ∧ P r9) :=
  Ct.of mi_Md_at (Nat.le_of_ble_eq_true rfl) (f_Md_at_w a1 a2 s (fun _ h => ⟨rfl, h⟩) h)
-- Md_isIn
noncomputable def f_Md_isIn (a1 a2 a3 : Int32) : Option Int32 :=
  if a1 < a2 then (some (0 : Int32)) else (if a3 < a1 then (some (0 : Int32)) else (some (1 : Int32)))
theorem f_Md_isIn_w {l : Launch} {D : va_G} {cI cZ cJ : ClassId} {ad : Nat → Nat} (a1 a2 a3 : Int32) (s : MS) {Q : Int32 → MS → Prop} {Post : Int32 → Prop} (hR : ∀ (r9 : Int32), Post (r9) → Q r9 s) (h : Ok (f_Md_isIn a1 a2 a3) Post) : G (XM l D cI cZ cJ ad) "SmallHarbourModel" b_Md_isIn 3 (some .boolean) 0 0 [(0, .int a1), (1, .int a2), (2, .int a3)] [] s Q := by
  unfold f_Md_isIn at h
  refine G_iload_n d_Md_isIn_0 rfl 0 rfl ?_
  refine G_iload_n d_Md_isIn_1 rfl 1 rfl ?_
  refine G_icmp_lt (tgt := 14) d_Md_isIn_2 (by decide) (fun c => ?_) (fun c => ?_)
  · replace h := Ok_t c h
    refine G_iconst d_Md_isIn_14 lt_iconst_0 ?_
    replace h := Ok_some h
    exact G_iret rfl rfl d_Md_isIn_15 (hR _ h)
  replace h := Ok_f c h
  refine G_iload_n d_Md_isIn_5 rfl 0 rfl ?_
  refine G_iload_n d_Md_isIn_6 rfl 2 rfl ?_
  refine G_icmp_gt (tgt := 14) d_Md_isIn_7 (by decide) (fun c => ?_) (fun c => ?_)
  · replace h := Ok_t c h
    refine G_iconst d_Md_isIn_14 lt_iconst_0 ?_
    replace h := Ok_some h
    exact G_iret rfl rfl d_Md_isIn_15 (hR _ h)
  replace h := Ok_f c h
  refine G_iconst d_Md_isIn_10 lt_iconst_1 ?_
  refine G_goto (tgt := 15) d_Md_isIn_11 (by decide) ?_
  replace h := Ok_some h
  exact G_iret rfl rfl d_Md_isIn_15 (hR _ h)
theorem c_Md_isIn {l : Launch} {D : va_G} {cI cZ cJ : ClassId} {ad : Nat → Nat} (a1 a2 a3 : Int32) (s : MS) {P : Int32 → Prop} (h : Ok (f_Md_isIn a1 a2 a3) P) : Ct (XM l D cI cZ cJ ad) y_Md_isIn b_Md_isIn 3 (some .boolean) 0 [.int a1, .int a2, .int a3] s (fun r9 s9 => s9 = s ∧ P r9) :=
  Ct.of mi_Md_isIn (Nat.le_of_ble_eq_true rfl) (f_Md_isIn_w a1 a2 a3 s (fun _ h => ⟨rfl, h⟩) h)
-- Md_isBoat
noncomputable def f_Md_isBoat (a1 : Int32) (s : MS) : Option Int32 :=
  (f_Md_isIn a1 (0 : Int32) ((s.1 2) - (1 : Int32))).bind fun v1 => some v1
theorem f_Md_isBoat_w {l : Launch} {D : va_G} {cI cZ cJ : ClassId} {ad : Nat → Nat} (a1 : Int32) (s : MS) {Q : Int32 → MS → Prop} {Post : Int32 → Prop} (hR : ∀ (r9 : Int32), Post (r9) → Q r9 s) (h : Ok (f_Md_isBoat a1 s) Post) : G (XM l D cI cZ cJ ad) "SmallHarbourModel" b_Md_isBoat 2 (some .boolean) 1 0 [(0, .ref (ad 0)), (1, .int a1)] [] s Q := by
  unfold f_Md_isBoat at h
  refine G_iload_n d_Md_isBoat_0 rfl 1 rfl ?_
  refine G_iconst d_Md_isBoat_1 lt_iconst_0 ?_
  refine G_aload_n d_Md_isBoat_2 rfl 0 rfl ?_
  refine gm_Md_boats d_Md_isBoat_3 w_841 ?_
  refine G_iconst d_Md_isBoat_6 lt_iconst_1 ?_
  refine G_isub d_Md_isBoat_7 ?_
  refine G_callSp (st := []) (As := [.int a1, .int (0 : Int32), .int ((s.1 2) - (1 : Int32))]) d_Md_isBoat_8 mi_Md_isIn w_1045 w_1046 rfl (Nat.le_of_ble_eq_true rfl) (by decide) (c_Md_isIn a1 (0 : Int32) ((s.1 2) - (1 : Int32)) s (Ok_bind h)) (fun v1 h hnv1 => ?_)
  replace h := Ok_some h
  exact G_iret rfl hnv1 d_Md_isBoat_11 (hR _ h)
theorem c_Md_isBoat {l : Launch} {D : va_G} {cI cZ cJ : ClassId} {ad : Nat → Nat} (a1 : Int32) (s : MS) {P : Int32 → Prop} (h : Ok (f_Md_isBoat a1 s) P) : Ct (XM l D cI cZ cJ ad) y_Md_isBoat b_Md_isBoat 2 (some .boolean) 1 [.ref (ad 0), .int a1] s (fun r9 s9 => s9 = s ∧ P r9) :=
  Ct.of mi_Md_isBoat (Nat.le_of_ble_eq_true rfl) (f_Md_isBoat_w a1 s (fun _ h => ⟨rfl, h⟩) h)
-- Md_away
noncomputable def Md_away_l55 (x1 x2 x3 : Int32) (s : MS) (x4 : Int32) : Option ((Int32) ⊕ (Int32 × MS)) :=
  if x3 ≤ x4 then (xit (chk (inb (s.1 3) 60) (bnd (pa s 7 (s.1 3).toNatClampNeg x1) fun s1 => chk (inb (s1.1 3) 60) (bnd (pa s1 8 (s1.1 3).toNatClampNeg x2) fun s2 => chk (inb (s2.1 3) 60) (bnd (pa s2 9 (s2.1 3).toNatClampNeg x3) fun s3 => bnd (pf s3 3 ((s3.1 3) + (1 : Int32))) fun s4 => some ((1 : Int32), s4)))))) else ((f_Md_isAway x1 x4 s).bind fun v5 => if v5 = 0 then (bnd (x4 + (1 : Int32)) fun v6 => some (.inl v6)) else (xit (some ((0 : Int32), s))))
theorem Md_away_l55_w {l : Launch} {D : va_G} {cI cZ cJ : ClassId} {ad : Nat → Nat} (x1 x2 x3 x4 : Int32) (s : MS) {Q : Int32 → MS → Prop} {Post : ((Int32) ⊕ (Int32 × MS)) → Prop} (hR : ∀ (r9 : Int32) (s9 : MS), Post (.inr ((r9, s9))) → Q r9 s9) (hL55 : ∀ (z4 : Int32) , Post (.inl z4) → G (XM l D cI cZ cJ ad) "SmallHarbourModel" b_Md_away 5 (some .boolean) 2 55 [(0, .ref (ad 0)), (1, .int x1), (2, .int x2), (3, .int x3), (4, .int z4)] [] s Q) (h : Ok (Md_away_l55 x1 x2 x3 s x4) Post) : G (XM l D cI cZ cJ ad) "SmallHarbourModel" b_Md_away 5 (some .boolean) 2 55 [(0, .ref (ad 0)), (1, .int x1), (2, .int x2), (3, .int x3), (4, .int x4)] [] s Q := by
  unfold Md_away_l55 at h
  refine G_iload d_Md_away_55 4 rfl ?_
  refine G_iload_n d_Md_away_57 rfl 3 rfl ?_
  refine G_icmp_ge (tgt := 79) d_Md_away_58 (by decide) (fun c => ?_) (fun c => ?_)
  · replace h := Ok_t c h
    replace h := Ok_xit h
    refine G_aload_n d_Md_away_79 rfl 0 rfl ?_
    refine gm_Md_spanBoat d_Md_away_80 w_847 ?_
    refine G_aload_n d_Md_away_83 rfl 0 rfl ?_
    refine gm_Md_spans d_Md_away_84 w_846 ?_
    refine G_iload_n d_Md_away_87 rfl 1 rfl ?_
    refine sm_7 d_Md_away_88 (Ok_ld h).1 (fun s1 e => ?_)
    replace h := (Ok_ld h).2 s1 e
    clear e
    refine G_aload_n d_Md_away_89 rfl 0 rfl ?_
    refine gm_Md_spanFrom d_Md_away_90 w_848 ?_
    refine G_aload_n d_Md_away_93 rfl 0 rfl ?_
    refine gm_Md_spans d_Md_away_94 w_846 ?_
    refine G_iload_n d_Md_away_97 rfl 2 rfl ?_
    refine sm_8 d_Md_away_98 (Ok_ld h).1 (fun s2 e => ?_)
    replace h := (Ok_ld h).2 s2 e
    clear e
    refine G_aload_n d_Md_away_99 rfl 0 rfl ?_
    refine gm_Md_spanTo d_Md_away_100 w_849 ?_
    refine G_aload_n d_Md_away_103 rfl 0 rfl ?_
    refine gm_Md_spans d_Md_away_104 w_846 ?_
    refine G_iload_n d_Md_away_107 rfl 3 rfl ?_
    refine sm_9 d_Md_away_108 (Ok_ld h).1 (fun s3 e => ?_)
    replace h := (Ok_ld h).2 s3 e
    clear e
    refine G_aload_n d_Md_away_109 rfl 0 rfl ?_
    refine G_dup d_Md_away_110 rfl ?_
    refine gm_Md_spans d_Md_away_111 w_846 ?_
    refine G_iconst d_Md_away_114 lt_iconst_1 ?_
    refine G_iadd d_Md_away_115 ?_
    refine pm_Md_spans d_Md_away_116 w_846 (fun s4 e => ?_)
    replace h := Ok_bnd h s4 e
    clear e
    refine G_iconst d_Md_away_119 lt_iconst_1 ?_
    replace h := Ok_some h
    exact G_iret rfl rfl d_Md_away_120 (hR _ _ h)
  replace h := Ok_f c h
  refine G_aload_n d_Md_away_61 rfl 0 rfl ?_
  refine G_iload_n d_Md_away_62 rfl 1 rfl ?_
  refine G_iload d_Md_away_63 4 rfl ?_
  refine G_callVp (st := []) (As := [.int x1, .int x4]) (b := ad 0) d_Md_away_65 mi_Md_isAway w_1080 0 rfl rfl mv_Md_isAway rfl (Nat.le_of_ble_eq_true rfl) (by decide) (c_Md_isAway x1 x4 s (Ok_bind h)) (fun v5 h hnv5 => ?_)
  refine G_if_eq (tgt := 73) d_Md_away_68 (by decide) (fun c => ?_) (fun c => ?_)
  · replace h := Ok_t c h
    refine G_iinc d_Md_away_73 4 rfl lt_iconst_1 rfl (Nat.le_of_ble_eq_true rfl) (fun x => [(4, .int x), (0, .ref (ad 0)), (1, .int x1), (2, .int x2), (3, .int x3)]) (fun _ => rfl) (fun v6 e => ?_)
    replace h := Ok_bnd h v6 e
    clear e
    refine G_goto (tgt := 55) d_Md_away_76 (by decide) ?_
    refine G_lv [1, 2, 3, 4, 0] rfl ?_
    replace h := Ok_some h
    exact hL55 v6 h
  replace h := Ok_f c h
  replace h := Ok_xit h
  refine G_iconst d_Md_away_71 lt_iconst_0 ?_
  replace h := Ok_some h
  exact G_iret rfl rfl d_Md_away_72 (hR _ _ h)
noncomputable def f_Md_away (a1 a2 a3 : Int32) (s : MS) : Option (Int32 × MS) :=
  (f_Md_isBoat a1 s).bind fun v1 => if v1 = 0 then (some ((0 : Int32), s)) else (chk (inb a1 30) (bnd (s.2 6 a1.toNatClampNeg) fun v2 => if v2 < 0 then (some ((0 : Int32), s)) else ((f_Md_isIn a2 (0 : Int32) (400 : Int32)).bind fun v3 => if v3 = 0 then (some ((0 : Int32), s)) else ((f_Md_isIn a3 (a2 + (1 : Int32)) (400 : Int32)).bind fun v4 => if v4 = 0 then (some ((0 : Int32), s)) else (if (s.1 3) = (60 : Int32) then (some ((0 : Int32), s)) else (loop (fun z => Md_away_l55 a1 a2 a3 s z) a2))))))
theorem f_Md_away_w {l : Launch} {D : va_G} {cI cZ cJ : ClassId} {ad : Nat → Nat} (a1 a2 a3 : Int32) (s : MS) {Q : Int32 → MS → Prop} {Post : (Int32 × MS) → Prop} (hR : ∀ (r9 : Int32) (s9 : MS), Post ((r9, s9)) → Q r9 s9) (h : Ok (f_Md_away a1 a2 a3 s) Post) : G (XM l D cI cZ cJ ad) "SmallHarbourModel" b_Md_away 5 (some .boolean) 2 0 [(0, .ref (ad 0)), (1, .int a1), (2, .int a2), (3, .int a3)] [] s Q := by
  unfold f_Md_away at h
  refine G_aload_n d_Md_away_0 rfl 0 rfl ?_
  refine G_iload_n d_Md_away_1 rfl 1 rfl ?_
  refine G_callVp (st := []) (As := [.int a1]) (b := ad 0) d_Md_away_2 mi_Md_isBoat w_1076 0 rfl rfl mv_Md_isBoat rfl (Nat.le_of_ble_eq_true rfl) (by decide) (c_Md_isBoat a1 s (Ok_bind h)) (fun v1 h hnv1 => ?_)
  refine G_if_eq (tgt := 50) d_Md_away_5 (by decide) (fun c => ?_) (fun c => ?_)
  · replace h := Ok_t c h
    refine G_iconst d_Md_away_50 lt_iconst_0 ?_
    replace h := Ok_some h
    exact G_iret rfl rfl d_Md_away_51 (hR _ _ h)
  replace h := Ok_f c h
  refine G_aload_n d_Md_away_8 rfl 0 rfl ?_
  refine gm_Md_home d_Md_away_9 w_845 ?_
  refine G_iload_n d_Md_away_12 rfl 1 rfl ?_
  refine lm_6 d_Md_away_13 (Ok_ld h).1 (fun v2 e => ?_)
  replace h := (Ok_ld h).2 v2 e
  clear e
  refine G_if_lt (tgt := 50) d_Md_away_14 (by decide) (fun c => ?_) (fun c => ?_)
  · replace h := Ok_t c h
    refine G_iconst d_Md_away_50 lt_iconst_0 ?_
    replace h := Ok_some h
    exact G_iret rfl rfl d_Md_away_51 (hR _ _ h)
  replace h := Ok_f c h
  refine G_iload_n d_Md_away_17 rfl 2 rfl ?_
  refine G_iconst d_Md_away_18 lt_iconst_0 ?_
  refine G_sipush d_Md_away_19 lt_sipush_400 ?_
  refine G_callSp (st := []) (As := [.int a2, .int (0 : Int32), .int (400 : Int32)]) d_Md_away_22 mi_Md_isIn w_1045 w_1046 rfl (Nat.le_of_ble_eq_true rfl) (by decide) (c_Md_isIn a2 (0 : Int32) (400 : Int32) s (Ok_bind h)) (fun v3 h hnv3 => ?_)
  refine G_if_eq (tgt := 50) d_Md_away_25 (by decide) (fun c => ?_) (fun c => ?_)
  · replace h := Ok_t c h
    refine G_iconst d_Md_away_50 lt_iconst_0 ?_
    replace h := Ok_some h
    exact G_iret rfl rfl d_Md_away_51 (hR _ _ h)
  replace h := Ok_f c h
  refine G_iload_n d_Md_away_28 rfl 3 rfl ?_
  refine G_iload_n d_Md_away_29 rfl 2 rfl ?_
  refine G_iconst d_Md_away_30 lt_iconst_1 ?_
  refine G_iadd d_Md_away_31 ?_
  refine G_sipush d_Md_away_32 lt_sipush_400 ?_
  refine G_callSp (st := []) (As := [.int a3, .int (a2 + (1 : Int32)), .int (400 : Int32)]) d_Md_away_35 mi_Md_isIn w_1045 w_1046 rfl (Nat.le_of_ble_eq_true rfl) (by decide) (c_Md_isIn a3 (a2 + (1 : Int32)) (400 : Int32) s (Ok_bind h)) (fun v4 h hnv4 => ?_)
  refine G_if_eq (tgt := 50) d_Md_away_38 (by decide) (fun c => ?_) (fun c => ?_)
  · replace h := Ok_t c h
    refine G_iconst d_Md_away_50 lt_iconst_0 ?_
    replace h := Ok_some h
    exact G_iret rfl rfl d_Md_away_51 (hR _ _ h)
  replace h := Ok_f c h
  refine G_aload_n d_Md_away_41 rfl 0 rfl ?_
  refine gm_Md_spans d_Md_away_42 w_846 ?_
  refine G_bipush d_Md_away_45 lt_bipush_60 ?_
  refine G_icmp_ne (tgt := 52) d_Md_away_47 (by decide) (fun c => ?_) (fun c => ?_)
  · replace h := Ok_f c h
    refine G_iload_n d_Md_away_52 rfl 2 rfl ?_
    refine G_istore d_Md_away_53 (Nat.le_of_ble_eq_true rfl) (fun x => [(4, .int x), (0, .ref (ad 0)), (1, .int a1), (2, .int a2), (3, .int a3)]) (fun _ => rfl) (fun x e => ?_)
    subst e
    refine G_lv [1, 2, 3, 4, 0] rfl ?_
    refine G_loop (J := (fun z => G (XM l D cI cZ cJ ad) "SmallHarbourModel" b_Md_away 5 (some .boolean) 2 55 [(0, .ref (ad 0)), (1, .int a1), (2, .int a2), (3, .int a3), (4, .int z)] [] s Q)) (fun z h => ?_) a2 h
    refine Md_away_l55_w a1 a2 a3 z s ?_ ?_ h
    · exact hR
    · exact (fun z4 h => h)
  replace h := Ok_t c h
  refine G_iconst d_Md_away_50 lt_iconst_0 ?_
  replace h := Ok_some h
  exact G_iret rfl rfl d_Md_away_51 (hR _ _ h)
theorem c_Md_away {l : Launch} {D : va_G} {cI cZ cJ : ClassId} {ad : Nat → Nat} (a1 a2 a3 : Int32) (s : MS) {P : Int32 → MS → Prop} (h : Ok2 (f_Md_away a1 a2 a3 s) P) : Ct (XM l D cI cZ cJ ad) y_Md_away b_Md_away 5 (some .boolean) 2 [.ref (ad 0), .int a1, .int a2, .int a3] s (P) :=
  Ct.of mi_Md_away (Nat.le_of_ble_eq_true rfl) (f_Md_away_w a1 a2 a3 s (Post := fun q => P q.1 q.2) (fun _ _ h => h) (Ok2_ok h))
-- Md_isMany
noncomputable def f_Md_isMany (s : MS) : Option Int32 :=
  if (s.1 30) = (60 : Int32) then (some (1 : Int32)) else (some (0 : Int32))
theorem f_Md_isMany_w {l : Launch} {D : va_G} {cI cZ cJ : ClassId} {ad : Nat → Nat} (s : MS) {Q : Int32 → MS → Prop} {Post : Int32 → Prop} (hR : ∀ (r9 : Int32), Post (r9) → Q r9 s) (h : Ok (f_Md_isMany s) Post) : G (XM l D cI cZ cJ ad) "SmallHarbourModel" b_Md_isMany 1 (some .boolean) 0 0 [(0, .ref (ad 0))] [] s Q := by
  unfold f_Md_isMany at h
  refine G_aload_n d_Md_isMany_0 rfl 0 rfl ?_
  refine gm_Md_tokens d_Md_isMany_1 w_901 ?_
  refine G_bipush d_Md_isMany_4 lt_bipush_60 ?_
  refine G_icmp_ne (tgt := 13) d_Md_isMany_6 (by decide) (fun c => ?_) (fun c => ?_)
  · replace h := Ok_f c h
    refine G_iconst d_Md_isMany_13 lt_iconst_0 ?_
    replace h := Ok_some h
    exact G_iret rfl rfl d_Md_isMany_14 (hR _ h)
  replace h := Ok_t c h
  refine G_iconst d_Md_isMany_9 lt_iconst_1 ?_
  refine G_goto (tgt := 14) d_Md_isMany_10 (by decide) ?_
  replace h := Ok_some h
  exact G_iret rfl rfl d_Md_isMany_14 (hR _ h)
theorem c_Md_isMany {l : Launch} {D : va_G} {cI cZ cJ : ClassId} {ad : Nat → Nat} (s : MS) {P : Int32 → Prop} (h : Ok (f_Md_isMany  s) P) : Ct (XM l D cI cZ cJ ad) y_Md_isMany b_Md_isMany 1 (some .boolean) 0 [.ref (ad 0)] s (fun r9 s9 => s9 = s ∧ P r9) :=
  Ct.of mi_Md_isMany (Nat.le_of_ble_eq_true rfl) (f_Md_isMany_w  s (fun _ h => ⟨rfl, h⟩) h)
-- Md_emit
noncomputable def f_Md_emit (a1 a2 : Int32) (s : MS) : Option MS :=
  chk (inb (s.1 25) 1000) (bnd (pa s 32 (s.1 25).toNatClampNeg a1) fun s1 => chk (inb (s1.1 25) 1000) (bnd (pa s1 33 (s1.1 25).toNatClampNeg a2) fun s2 => bnd (pf s2 25 ((s2.1 25) + (1 : Int32))) fun s3 => some s3))
theorem f_Md_emit_w {l : Launch} {D : va_G} {cI cZ cJ : ClassId} {ad : Nat → Nat} (a1 a2 : Int32) (s : MS) {Q : Int32 → MS → Prop} {Post : MS → Prop} (hR : ∀ (s9 : MS), Post (s9) → Q 0 s9) (h : Ok (f_Md_emit a1 a2 s) Post) : G (XM l D cI cZ cJ ad) "SmallHarbourModel" b_Md_emit 3 none 0 0 [(0, .ref (ad 0)), (1, .int a1), (2, .int a2)] [] s Q := by
  unfold f_Md_emit at h
  refine G_aload_n d_Md_emit_0 rfl 0 rfl ?_
  refine gm_Md_sign d_Md_emit_1 w_893 ?_
  refine G_aload_n d_Md_emit_4 rfl 0 rfl ?_
  refine gm_Md_signs d_Md_emit_5 w_895 ?_
  refine G_iload_n d_Md_emit_8 rfl 1 rfl ?_
  refine sm_32 d_Md_emit_9 (Ok_ld h).1 (fun s1 e => ?_)
  replace h := (Ok_ld h).2 s1 e
  clear e
  refine G_aload_n d_Md_emit_10 rfl 0 rfl ?_
  refine gm_Md_value d_Md_emit_11 w_894 ?_
  refine G_aload_n d_Md_emit_14 rfl 0 rfl ?_
  refine gm_Md_signs d_Md_emit_15 w_895 ?_
  refine G_iload_n d_Md_emit_18 rfl 2 rfl ?_
  refine sm_33 d_Md_emit_19 (Ok_ld h).1 (fun s2 e => ?_)
  replace h := (Ok_ld h).2 s2 e
  clear e
  refine G_aload_n d_Md_emit_20 rfl 0 rfl ?_
  refine G_dup d_Md_emit_21 rfl ?_
  refine gm_Md_signs d_Md_emit_22 w_895 ?_
  refine G_iconst d_Md_emit_25 lt_iconst_1 ?_
  refine G_iadd d_Md_emit_26 ?_
  refine pm_Md_signs d_Md_emit_27 w_895 (fun s3 e => ?_)
  replace h := Ok_bnd h s3 e
  clear e
  replace h := Ok_some h
  exact G_vret rfl d_Md_emit_30 (hR _ h)
theorem c_Md_emit {l : Launch} {D : va_G} {cI cZ cJ : ClassId} {ad : Nat → Nat} (a1 a2 : Int32) (s : MS) {P : MS → Prop} (h : Ok (f_Md_emit a1 a2 s) P) : Ct (XM l D cI cZ cJ ad) y_Md_emit b_Md_emit 3 none 0 [.ref (ad 0), .int a1, .int a2] s (fun _ s9 => P s9) :=
  Ct.of mi_Md_emit (Nat.le_of_ble_eq_true rfl) (f_Md_emit_w a1 a2 s (fun _ h => h) h)
-- Md_top
noncomputable def f_Md_top (s : MS) : Option Int32 :=
  if (s.1 28) = 0 then (some (0 : Int32)) else (chk (inb ((s.1 28) - (1 : Int32)) 130) (bnd (s.2 34 ((s.1 28) - (1 : Int32)).toNatClampNeg) fun v1 => some v1))
theorem f_Md_top_w {l : Launch} {D : va_G} {cI cZ cJ : ClassId} {ad : Nat → Nat} (s : MS) {Q : Int32 → MS → Prop} {Post : Int32 → Prop} (hR : ∀ (r9 : Int32), Post (r9) → Q r9 s) (h : Ok (f_Md_top s) Post) : G (XM l D cI cZ cJ ad) "SmallHarbourModel" b_Md_top 1 (some .int) 0 0 [(0, .ref (ad 0))] [] s Q := by
  unfold f_Md_top at h
  refine G_aload_n d_Md_top_0 rfl 0 rfl ?_
  refine gm_Md_opens d_Md_top_1 w_899 ?_
  refine G_if_ne (tgt := 11) d_Md_top_4 (by decide) (fun c => ?_) (fun c => ?_)
  · replace h := Ok_f c h
    refine G_aload_n d_Md_top_11 rfl 0 rfl ?_
    refine gm_Md_open d_Md_top_12 w_898 ?_
    refine G_aload_n d_Md_top_15 rfl 0 rfl ?_
    refine gm_Md_opens d_Md_top_16 w_899 ?_
    refine G_iconst d_Md_top_19 lt_iconst_1 ?_
    refine G_isub d_Md_top_20 ?_
    refine lm_34 d_Md_top_21 (Ok_ld h).1 (fun v1 e => ?_)
    replace h := (Ok_ld h).2 v1 e
    clear e
    replace h := Ok_some h
    exact G_iret rfl (vp_nar_int _) d_Md_top_22 (hR _ h)
  replace h := Ok_t c h
  refine G_iconst d_Md_top_7 lt_iconst_0 ?_
  refine G_goto (tgt := 22) d_Md_top_8 (by decide) ?_
  replace h := Ok_some h
  exact G_iret rfl (vp_nar_int _) d_Md_top_22 (hR _ h)
theorem c_Md_top {l : Launch} {D : va_G} {cI cZ cJ : ClassId} {ad : Nat → Nat} (s : MS) {P : Int32 → Prop} (h : Ok (f_Md_top  s) P) : Ct (XM l D cI cZ cJ ad) y_Md_top b_Md_top 1 (some .int) 0 [.ref (ad 0)] s (fun r9 s9 => s9 = s ∧ P r9) :=
  Ct.of mi_Md_top (Nat.le_of_ble_eq_true rfl) (f_Md_top_w  s (fun _ h => ⟨rfl, h⟩) h)
-- Md_partIsThrough
noncomputable def Md_partIsThrough_l5 (s : MS) : Option ((MS) ⊕ MS) :=
  (f_Md_top s).bind fun v1 => if v1 = (18 : Int32) then (bnd (pf s 28 ((s.1 28) - (1 : Int32))) fun s2 => bnd (pf s2 29 ((s2.1 29) - (1 : Int32))) fun s3 => (f_Md_emit (18 : Int32) (0 : Int32) s3).bind fun s4 => some (.inl s4)) else (xit (some s))
theorem Md_partIsThrough_l5_w {l : Launch} {D : va_G} {cI cZ cJ : ClassId} {ad : Nat → Nat} (s : MS) {Q : Int32 → MS → Prop} {Post : ((MS) ⊕ MS) → Prop} (hR : ∀ (s9 : MS), Post (.inr (s9)) → Q 0 s9) (hL5 : ∀ (s9 : MS), Post (.inl s9) → G (XM l D cI cZ cJ ad) "SmallHarbourModel" b_Md_partIsThrough 1 none 1 5 [(0, .ref (ad 0))] [] s9 Q) (h : Ok (Md_partIsThrough_l5 s) Post) : G (XM l D cI cZ cJ ad) "SmallHarbourModel" b_Md_partIsThrough 1 none 1 5 [(0, .ref (ad 0))] [] s Q := by
  unfold Md_partIsThrough_l5 at h
  refine G_aload_n d_Md_partIsThrough_5 rfl 0 rfl ?_
  refine G_callVp (st := []) (As := []) (b := ad 0) d_Md_partIsThrough_6 mi_Md_top w_1289 0 rfl rfl mv_Md_top rfl (Nat.le_of_ble_eq_true rfl) (by decide) (c_Md_top  s (Ok_bind h)) (fun v1 h hnv1 => ?_)
  refine G_bipush d_Md_partIsThrough_9 lt_bipush_18 ?_
  refine G_icmp_ne (tgt := 44) d_Md_partIsThrough_11 (by decide) (fun c => ?_) (fun c => ?_)
  · replace h := Ok_f c h
    replace h := Ok_xit h
    replace h := Ok_some h
    exact G_vret rfl d_Md_partIsThrough_44 (hR _ h)
  replace h := Ok_t c h
  refine G_aload_n d_Md_partIsThrough_14 rfl 0 rfl ?_
  refine G_dup d_Md_partIsThrough_15 rfl ?_
  refine gm_Md_opens d_Md_partIsThrough_16 w_899 ?_
  refine G_iconst d_Md_partIsThrough_19 lt_iconst_1 ?_
  refine G_isub d_Md_partIsThrough_20 ?_
  refine pm_Md_opens d_Md_partIsThrough_21 w_899 (fun s2 e => ?_)
  replace h := Ok_bnd h s2 e
  clear e
  refine G_aload_n d_Md_partIsThrough_24 rfl 0 rfl ?_
  refine G_dup d_Md_partIsThrough_25 rfl ?_
  refine gm_Md_nest d_Md_partIsThrough_26 w_900 ?_
  refine G_iconst d_Md_partIsThrough_29 lt_iconst_1 ?_
  refine G_isub d_Md_partIsThrough_30 ?_
  refine pm_Md_nest d_Md_partIsThrough_31 w_900 (fun s3 e => ?_)
  replace h := Ok_bnd h s3 e
  clear e
  refine G_aload_n d_Md_partIsThrough_34 rfl 0 rfl ?_
  refine G_bipush d_Md_partIsThrough_35 lt_bipush_18 ?_
  refine G_iconst d_Md_partIsThrough_37 lt_iconst_0 ?_
  refine G_callVv (st := []) (As := [.int (18 : Int32), .int (0 : Int32)]) (b := ad 0) d_Md_partIsThrough_38 mi_Md_emit w_1281 0 rfl rfl mv_Md_emit rfl (Nat.le_of_ble_eq_true rfl) (by decide) (c_Md_emit (18 : Int32) (0 : Int32) s3 (Ok_bind h)) (fun s4 h => ?_)
  refine G_goto (tgt := 5) d_Md_partIsThrough_41 (by decide) ?_
  replace h := Ok_some h
  exact hL5 s4 h
noncomputable def f_Md_partIsThrough (s : MS) : Option MS :=
  bnd (pf s 31 (0 : Int32)) fun s1 => loop (fun z => Md_partIsThrough_l5 z) s1
theorem f_Md_partIsThrough_w {l : Launch} {D : va_G} {cI cZ cJ : ClassId} {ad : Nat → Nat} (s : MS) {Q : Int32 → MS → Prop} {Post : MS → Prop} (hR : ∀ (s9 : MS), Post (s9) → Q 0 s9) (h : Ok (f_Md_partIsThrough s) Post) : G (XM l D cI cZ cJ ad) "SmallHarbourModel" b_Md_partIsThrough 1 none 1 0 [(0, .ref (ad 0))] [] s Q := by
  unfold f_Md_partIsThrough at h
  refine G_aload_n d_Md_partIsThrough_0 rfl 0 rfl ?_
  refine G_iconst d_Md_partIsThrough_1 lt_iconst_0 ?_
  refine pm_Md_wantsPart d_Md_partIsThrough_2 w_902 rfl rfl (fun s1 e => ?_)
  replace h := Ok_bnd h s1 e
  clear e
  refine G_loop (J := (fun z => G (XM l D cI cZ cJ ad) "SmallHarbourModel" b_Md_partIsThrough 1 none 1 5 [(0, .ref (ad 0))] [] z Q)) (fun z h => ?_) s1 h
  refine Md_partIsThrough_l5_w z ?_ ?_ h
  · exact hR
  · exact (fun s9 h => h)
theorem c_Md_partIsThrough {l : Launch} {D : va_G} {cI cZ cJ : ClassId} {ad : Nat → Nat} (s : MS) {P : MS → Prop} (h : Ok (f_Md_partIsThrough  s) P) : Ct (XM l D cI cZ cJ ad) y_Md_partIsThrough b_Md_partIsThrough 1 none 1 [.ref (ad 0)] s (fun _ s9 => P s9) :=
  Ct.of mi_Md_partIsThrough (Nat.le_of_ble_eq_true rfl) (f_Md_partIsThrough_w  s (fun _ h => h) h)
-- Md_push
noncomputable def f_Md_push (a1 : Int32) (s : MS) : Option MS :=
  chk (inb (s.1 28) 130) (bnd (pa s 34 (s.1 28).toNatClampNeg a1) fun s1 => bnd (pf s1 28 ((s1.1 28) + (1 : Int32))) fun s2 => some s2)
theorem f_Md_push_w {l : Launch} {D : va_G} {cI cZ cJ : ClassId} {ad : Nat → Nat} (a1 : Int32) (s : MS) {Q : Int32 → MS → Prop} {Post : MS → Prop} (hR : ∀ (s9 : MS), Post (s9) → Q 0 s9) (h : Ok (f_Md_push a1 s) Post) : G (XM l D cI cZ cJ ad) "SmallHarbourModel" b_Md_push 2 none 0 0 [(0, .ref (ad 0)), (1, .int a1)] [] s Q := by
  unfold f_Md_push at h
  refine G_aload_n d_Md_push_0 rfl 0 rfl ?_
  refine gm_Md_open d_Md_push_1 w_898 ?_
  refine G_aload_n d_Md_push_4 rfl 0 rfl ?_
  refine gm_Md_opens d_Md_push_5 w_899 ?_
  refine G_iload_n d_Md_push_8 rfl 1 rfl ?_
  refine sm_34 d_Md_push_9 (Ok_ld h).1 (fun s1 e => ?_)
  replace h := (Ok_ld h).2 s1 e
  clear e
  refine G_aload_n d_Md_push_10 rfl 0 rfl ?_
  refine G_dup d_Md_push_11 rfl ?_
  refine gm_Md_opens d_Md_push_12 w_899 ?_
  refine G_iconst d_Md_push_15 lt_iconst_1 ?_
  refine G_iadd d_Md_push_16 ?_
  refine pm_Md_opens d_Md_push_17 w_899 (fun s2 e => ?_)
  replace h := Ok_bnd h s2 e
  clear e
  replace h := Ok_some h
  exact G_vret rfl d_Md_push_20 (hR _ h)
theorem c_Md_push {l : Launch} {D : va_G} {cI cZ cJ : ClassId} {ad : Nat → Nat} (a1 : Int32) (s : MS) {P : MS → Prop} (h : Ok (f_Md_push a1 s) P) : Ct (XM l D cI cZ cJ ad) y_Md_push b_Md_push 2 none 0 [.ref (ad 0), .int a1] s (fun _ s9 => P s9) :=
  Ct.of mi_Md_push (Nat.le_of_ble_eq_true rfl) (f_Md_push_w a1 s (fun _ h => h) h)
-- Md_rankOf
noncomputable def f_Md_rankOf (a1 : Int32) : Option Int32 :=
  if a1 = (15 : Int32) then (some (1 : Int32)) else (if a1 = (16 : Int32) then (some (1 : Int32)) else (if a1 = (10 : Int32) then (some (2 : Int32)) else (if a1 = (11 : Int32) then (some (2 : Int32)) else (if a1 < (12 : Int32) then (some (0 : Int32)) else (if (14 : Int32) < a1 then (some (0 : Int32)) else (some (3 : Int32)))))))
theorem f_Md_rankOf_w {l : Launch} {D : va_G} {cI cZ cJ : ClassId} {ad : Nat → Nat} (a1 : Int32) (s : MS) {Q : Int32 → MS → Prop} {Post : Int32 → Prop} (hR : ∀ (r9 : Int32), Post (r9) → Q r9 s) (h : Ok (f_Md_rankOf a1) Post) : G (XM l D cI cZ cJ ad) "SmallHarbourModel" b_Md_rankOf 1 (some .int) 0 0 [(0, .int a1)] [] s Q := by
  unfold f_Md_rankOf at h
  refine G_iload_n d_Md_rankOf_0 rfl 0 rfl ?_
  refine G_bipush d_Md_rankOf_1 lt_bipush_15 ?_
  refine G_icmp_eq (tgt := 12) d_Md_rankOf_3 (by decide) (fun c => ?_) (fun c => ?_)
  · replace h := Ok_t c h
    refine G_iconst d_Md_rankOf_12 lt_iconst_1 ?_
    refine G_goto (tgt := 49) d_Md_rankOf_13 (by decide) ?_
    replace h := Ok_some h
    exact G_iret rfl (vp_nar_int _) d_Md_rankOf_49 (hR _ h)
  replace h := Ok_f c h
  refine G_iload_n d_Md_rankOf_6 rfl 0 rfl ?_
  refine G_bipush d_Md_rankOf_7 lt_bipush_16 ?_
  refine G_icmp_ne (tgt := 16) d_Md_rankOf_9 (by decide) (fun c => ?_) (fun c => ?_)
  · replace h := Ok_f c h
    refine G_iload_n d_Md_rankOf_16 rfl 0 rfl ?_
    refine G_bipush d_Md_rankOf_17 lt_bipush_10 ?_
    refine G_icmp_eq (tgt := 28) d_Md_rankOf_19 (by decide) (fun c => ?_) (fun c => ?_)
    · replace h := Ok_t c h
      refine G_iconst d_Md_rankOf_28 lt_iconst_2 ?_
      refine G_goto (tgt := 49) d_Md_rankOf_29 (by decide) ?_
      replace h := Ok_some h
      exact G_iret rfl (vp_nar_int _) d_Md_rankOf_49 (hR _ h)
    replace h := Ok_f c h
    refine G_iload_n d_Md_rankOf_22 rfl 0 rfl ?_
    refine G_bipush d_Md_rankOf_23 lt_bipush_11 ?_
    refine G_icmp_ne (tgt := 32) d_Md_rankOf_25 (by decide) (fun c => ?_) (fun c => ?_)
    · replace h := Ok_f c h
      refine G_iload_n d_Md_rankOf_32 rfl 0 rfl ?_
      refine G_bipush d_Md_rankOf_33 lt_bipush_12 ?_
      refine G_icmp_lt (tgt := 48) d_Md_rankOf_35 (by decide) (fun c => ?_) (fun c => ?_)
      · replace h := Ok_t c h
        refine G_iconst d_Md_rankOf_48 lt_iconst_0 ?_
        replace h := Ok_some h
        exact G_iret rfl (vp_nar_int _) d_Md_rankOf_49 (hR _ h)
      replace h := Ok_f c h
      refine G_iload_n d_Md_rankOf_38 rfl 0 rfl ?_
      refine G_bipush d_Md_rankOf_39 lt_bipush_14 ?_
      refine G_icmp_gt (tgt := 48) d_Md_rankOf_41 (by decide) (fun c => ?_) (fun c => ?_)
      · replace h := Ok_t c h
        refine G_iconst d_Md_rankOf_48 lt_iconst_0 ?_
        replace h := Ok_some h
        exact G_iret rfl (vp_nar_int _) d_Md_rankOf_49 (hR _ h)
      replace h := Ok_f c h
      refine G_iconst d_Md_rankOf_44 lt_iconst_3 ?_
      refine G_goto (tgt := 49) d_Md_rankOf_45 (by decide) ?_
      replace h := Ok_some h
      exact G_iret rfl (vp_nar_int _) d_Md_rankOf_49 (hR _ h)
    replace h := Ok_t c h
    refine G_iconst d_Md_rankOf_28 lt_iconst_2 ?_
    refine G_goto (tgt := 49) d_Md_rankOf_29 (by decide) ?_
    replace h := Ok_some h
    exact G_iret rfl (vp_nar_int _) d_Md_rankOf_49 (hR _ h)
  replace h := Ok_t c h
  refine G_iconst d_Md_rankOf_12 lt_iconst_1 ?_
  refine G_goto (tgt := 49) d_Md_rankOf_13 (by decide) ?_
  replace h := Ok_some h
  exact G_iret rfl (vp_nar_int _) d_Md_rankOf_49 (hR _ h)
theorem c_Md_rankOf {l : Launch} {D : va_G} {cI cZ cJ : ClassId} {ad : Nat → Nat} (a1 : Int32) (s : MS) {P : Int32 → Prop} (h : Ok (f_Md_rankOf a1) P) : Ct (XM l D cI cZ cJ ad) y_Md_rankOf b_Md_rankOf 1 (some .int) 0 [.int a1] s (fun r9 s9 => s9 = s ∧ P r9) :=
  Ct.of mi_Md_rankOf (Nat.le_of_ble_eq_true rfl) (f_Md_rankOf_w a1 s (fun _ h => ⟨rfl, h⟩) h)
-- Md_reduce
noncomputable def Md_reduce_l0 (x1 : Int32) (s : MS) : Option ((MS) ⊕ MS) :=
  (f_Md_top s).bind fun v1 => (f_Md_rankOf v1).bind fun v2 => if v2 < x1 then (xit (some s)) else (bnd (pf s 28 ((s.1 28) - (1 : Int32))) fun s3 => chk (inb (s3.1 28) 130) (bnd (s3.2 34 (s3.1 28).toNatClampNeg) fun v4 => (f_Md_emit v4 (0 : Int32) s3).bind fun s5 => some (.inl s5)))
theorem Md_reduce_l0_w {l : Launch} {D : va_G} {cI cZ cJ : ClassId} {ad : Nat → Nat} (x1 : Int32) (s : MS) {Q : Int32 → MS → Prop} {Post : ((MS) ⊕ MS) → Prop} (hR : ∀ (s9 : MS), Post (.inr (s9)) → Q 0 s9) (hL0 : ∀ (s9 : MS), Post (.inl s9) → G (XM l D cI cZ cJ ad) "SmallHarbourModel" b_Md_reduce 2 none 1 0 [(0, .ref (ad 0)), (1, .int x1)] [] s9 Q) (h : Ok (Md_reduce_l0 x1 s) Post) : G (XM l D cI cZ cJ ad) "SmallHarbourModel" b_Md_reduce 2 none 1 0 [(0, .ref (ad 0)), (1, .int x1)] [] s Q := by
  unfold Md_reduce_l0 at h
  refine G_aload_n d_Md_reduce_0 rfl 0 rfl ?_
  refine G_callVp (st := []) (As := []) (b := ad 0) d_Md_reduce_1 mi_Md_top w_1289 0 rfl rfl mv_Md_top rfl (Nat.le_of_ble_eq_true rfl) (by decide) (c_Md_top  s (Ok_bind h)) (fun v1 h hnv1 => ?_)
  refine G_callSp (st := []) (As := [.int v1]) d_Md_reduce_4 mi_Md_rankOf w_1293 w_1294 rfl (Nat.le_of_ble_eq_true rfl) (by decide) (c_Md_rankOf v1 s (Ok_bind h)) (fun v2 h hnv2 => ?_)
  refine G_iload_n d_Md_reduce_7 rfl 1 rfl ?_
  refine G_icmp_lt (tgt := 38) d_Md_reduce_8 (by decide) (fun c => ?_) (fun c => ?_)
  · replace h := Ok_t c h
    replace h := Ok_xit h
    replace h := Ok_some h
    exact G_vret rfl d_Md_reduce_38 (hR _ h)
  replace h := Ok_f c h
  refine G_aload_n d_Md_reduce_11 rfl 0 rfl ?_
  refine G_dup d_Md_reduce_12 rfl ?_
  refine gm_Md_opens d_Md_reduce_13 w_899 ?_
  refine G_iconst d_Md_reduce_16 lt_iconst_1 ?_
  refine G_isub d_Md_reduce_17 ?_
  refine pm_Md_opens d_Md_reduce_18 w_899 (fun s3 e => ?_)
  replace h := Ok_bnd h s3 e
  clear e
  refine G_aload_n d_Md_reduce_21 rfl 0 rfl ?_
  refine G_aload_n d_Md_reduce_22 rfl 0 rfl ?_
  refine gm_Md_open d_Md_reduce_23 w_898 ?_
  refine G_aload_n d_Md_reduce_26 rfl 0 rfl ?_
  refine gm_Md_opens d_Md_reduce_27 w_899 ?_
  refine lm_34 d_Md_reduce_30 (Ok_ld h).1 (fun v4 e => ?_)
  replace h := (Ok_ld h).2 v4 e
  clear e
  refine G_iconst d_Md_reduce_31 lt_iconst_0 ?_
  refine G_callVv (st := []) (As := [.int v4, .int (0 : Int32)]) (b := ad 0) d_Md_reduce_32 mi_Md_emit w_1281 0 rfl rfl mv_Md_emit rfl (Nat.le_of_ble_eq_true rfl) (by decide) (c_Md_emit v4 (0 : Int32) s3 (Ok_bind h)) (fun s5 h => ?_)
  refine G_goto (tgt := 0) d_Md_reduce_35 (by decide) ?_
  replace h := Ok_some h
  exact hL0 s5 h
noncomputable def f_Md_reduce (a1 : Int32) (s : MS) : Option MS :=
  loop (fun z => Md_reduce_l0 a1 z) s
theorem f_Md_reduce_w {l : Launch} {D : va_G} {cI cZ cJ : ClassId} {ad : Nat → Nat} (a1 : Int32) (s : MS) {Q : Int32 → MS → Prop} {Post : MS → Prop} (hR : ∀ (s9 : MS), Post (s9) → Q 0 s9) (h : Ok (f_Md_reduce a1 s) Post) : G (XM l D cI cZ cJ ad) "SmallHarbourModel" b_Md_reduce 2 none 1 0 [(0, .ref (ad 0)), (1, .int a1)] [] s Q := by
  unfold f_Md_reduce at h
  refine G_loop (J := (fun z => G (XM l D cI cZ cJ ad) "SmallHarbourModel" b_Md_reduce 2 none 1 0 [(0, .ref (ad 0)), (1, .int a1)] [] z Q)) (fun z h => ?_) s h
  refine Md_reduce_l0_w a1 z ?_ ?_ h
  · exact hR
  · exact (fun s9 h => h)
theorem c_Md_reduce {l : Launch} {D : va_G} {cI cZ cJ : ClassId} {ad : Nat → Nat} (a1 : Int32) (s : MS) {P : MS → Prop} (h : Ok (f_Md_reduce a1 s) P) : Ct (XM l D cI cZ cJ ad) y_Md_reduce b_Md_reduce 2 none 1 [.ref (ad 0), .int a1] s (fun _ s9 => P s9) :=
  Ct.of mi_Md_reduce (Nat.le_of_ble_eq_true rfl) (f_Md_reduce_w a1 s (fun _ h => h) h)
-- Md_through
noncomputable def Md_through_l5 (s : MS) : Option ((MS) ⊕ (Int32 × MS)) :=
  (f_Md_top s).bind fun v1 => if v1 = (7 : Int32) then (bnd (pf s 28 ((s.1 28) - (1 : Int32))) fun s3 => bnd (pf s3 29 ((s3.1 29) - (1 : Int32))) fun s4 => (f_Md_emit (19 : Int32) (0 : Int32) s4).bind fun s5 => (f_Md_reduce (1 : Int32) s5).bind fun s6 => some (.inl s6)) else (xit ((f_Md_top s).bind fun v2 => some (v2, s)))
theorem Md_through_l5_w {l : Launch} {D : va_G} {cI cZ cJ : ClassId} {ad : Nat → Nat} (s : MS) {Q : Int32 → MS → Prop} {Post : ((MS) ⊕ (Int32 × MS)) → Prop} (hR : ∀ (r9 : Int32) (s9 : MS), Post (.inr ((r9, s9))) → Q r9 s9) (hL5 : ∀ (s9 : MS), Post (.inl s9) → G (XM l D cI cZ cJ ad) "SmallHarbourModel" b_Md_through 1 (some .int) 2 5 [(0, .ref (ad 0))] [] s9 Q) (h : Ok (Md_through_l5 s) Post) : G (XM l D cI cZ cJ ad) "SmallHarbourModel" b_Md_through 1 (some .int) 2 5 [(0, .ref (ad 0))] [] s Q := by
  unfold Md_through_l5 at h
  refine G_aload_n d_Md_through_5 rfl 0 rfl ?_
  refine G_callVp (st := []) (As := []) (b := ad 0) d_Md_through_6 mi_Md_top w_1289 0 rfl rfl mv_Md_top rfl (Nat.le_of_ble_eq_true rfl) (by decide) (c_Md_top  s (Ok_bind h)) (fun v1 h hnv1 => ?_)
  refine G_bipush d_Md_through_9 lt_bipush_7 ?_
  refine G_icmp_ne (tgt := 49) d_Md_through_11 (by decide) (fun c => ?_) (fun c => ?_)
  · replace h := Ok_f c h
    replace h := Ok_xit h
    refine G_aload_n d_Md_through_49 rfl 0 rfl ?_
    refine G_callVp (st := []) (As := []) (b := ad 0) d_Md_through_50 mi_Md_top w_1289 0 rfl rfl mv_Md_top rfl (Nat.le_of_ble_eq_true rfl) (by decide) (c_Md_top  s (Ok_bind h)) (fun v2 h hnv2 => ?_)
    replace h := Ok_some h
    exact G_iret rfl (vp_nar_int _) d_Md_through_53 (hR _ _ h)
  replace h := Ok_t c h
  refine G_aload_n d_Md_through_14 rfl 0 rfl ?_
  refine G_dup d_Md_through_15 rfl ?_
  refine gm_Md_opens d_Md_through_16 w_899 ?_
  refine G_iconst d_Md_through_19 lt_iconst_1 ?_
  refine G_isub d_Md_through_20 ?_
  refine pm_Md_opens d_Md_through_21 w_899 (fun s3 e => ?_)
  replace h := Ok_bnd h s3 e
  clear e
  refine G_aload_n d_Md_through_24 rfl 0 rfl ?_
  refine G_dup d_Md_through_25 rfl ?_
  refine gm_Md_nest d_Md_through_26 w_900 ?_
  refine G_iconst d_Md_through_29 lt_iconst_1 ?_
  refine G_isub d_Md_through_30 ?_
  refine pm_Md_nest d_Md_through_31 w_900 (fun s4 e => ?_)
  replace h := Ok_bnd h s4 e
  clear e
  refine G_aload_n d_Md_through_34 rfl 0 rfl ?_
  refine G_bipush d_Md_through_35 lt_bipush_19 ?_
  refine G_iconst d_Md_through_37 lt_iconst_0 ?_
  refine G_callVv (st := []) (As := [.int (19 : Int32), .int (0 : Int32)]) (b := ad 0) d_Md_through_38 mi_Md_emit w_1281 0 rfl rfl mv_Md_emit rfl (Nat.le_of_ble_eq_true rfl) (by decide) (c_Md_emit (19 : Int32) (0 : Int32) s4 (Ok_bind h)) (fun s5 h => ?_)
  refine G_aload_n d_Md_through_41 rfl 0 rfl ?_
  refine G_iconst d_Md_through_42 lt_iconst_1 ?_
  refine G_callVv (st := []) (As := [.int (1 : Int32)]) (b := ad 0) d_Md_through_43 mi_Md_reduce w_1304 0 rfl rfl mv_Md_reduce rfl (Nat.le_of_ble_eq_true rfl) (by decide) (c_Md_reduce (1 : Int32) s5 (Ok_bind h)) (fun s6 h => ?_)
  refine G_goto (tgt := 5) d_Md_through_46 (by decide) ?_
  replace h := Ok_some h
  exact hL5 s6 h
noncomputable def f_Md_through (s : MS) : Option (Int32 × MS) :=
  (f_Md_reduce (1 : Int32) s).bind fun s1 => loop (fun z => Md_through_l5 z) s1
theorem f_Md_through_w {l : Launch} {D : va_G} {cI cZ cJ : ClassId} {ad : Nat → Nat} (s : MS) {Q : Int32 → MS → Prop} {Post : (Int32 × MS) → Prop} (hR : ∀ (r9 : Int32) (s9 : MS), Post ((r9, s9)) → Q r9 s9) (h : Ok (f_Md_through s) Post) : G (XM l D cI cZ cJ ad) "SmallHarbourModel" b_Md_through 1 (some .int) 2 0 [(0, .ref (ad 0))] [] s Q := by
  unfold f_Md_through at h
  refine G_aload_n d_Md_through_0 rfl 0 rfl ?_
  refine G_iconst d_Md_through_1 lt_iconst_1 ?_
  refine G_callVv (st := []) (As := [.int (1 : Int32)]) (b := ad 0) d_Md_through_2 mi_Md_reduce w_1304 0 rfl rfl mv_Md_reduce rfl (Nat.le_of_ble_eq_true rfl) (by decide) (c_Md_reduce (1 : Int32) s (Ok_bind h)) (fun s1 h => ?_)
  refine G_loop (J := (fun z => G (XM l D cI cZ cJ ad) "SmallHarbourModel" b_Md_through 1 (some .int) 2 5 [(0, .ref (ad 0))] [] z Q)) (fun z h => ?_) s1 h
  refine Md_through_l5_w z ?_ ?_ h
  · exact hR
  · exact (fun s9 h => h)
theorem c_Md_through {l : Launch} {D : va_G} {cI cZ cJ : ClassId} {ad : Nat → Nat} (s : MS) {P : Int32 → MS → Prop} (h : Ok2 (f_Md_through  s) P) : Ct (XM l D cI cZ cJ ad) y_Md_through b_Md_through 1 (some .int) 2 [.ref (ad 0)] s (P) :=
  Ct.of mi_Md_through (Nat.le_of_ble_eq_true rfl) (f_Md_through_w  s (Post := fun q => P q.1 q.2) (fun _ _ h => h) (Ok2_ok h))
-- Md_behind
noncomputable def Md_behind_j142 (x1 t0 : Int32) (s : MS) : Option (Int32 × MS) :=
  if x1 = t0 then ((f_Md_isMany s).bind fun v1 => if v1 = 0 then (if (s.1 22) = (9 : Int32) then (bnd (pf s 28 ((s.1 28) - (1 : Int32))) fun s4 => bnd (pf s4 29 ((s4.1 29) - (1 : Int32))) fun s5 => (f_Md_partIsThrough s5).bind fun s6 => some ((0 : Int32), s6)) else (chk (inb ((s.1 28) - (1 : Int32)) 130) (bnd (pa s 34 ((s.1 28) - (1 : Int32)).toNatClampNeg (s.1 22)) fun s2 => bnd (pf s2 31 (1 : Int32)) fun s3 => some ((0 : Int32), s3)))) else (some ((3 : Int32), s))) else (some ((1 : Int32), s))
theorem Md_behind_j142_w {l : Launch} {D : va_G} {cI cZ cJ : ClassId} {ad : Nat → Nat} (x1 t0 : Int32) (s : MS) {Q : Int32 → MS → Prop} {Post : (Int32 × MS) → Prop} (hR : ∀ (r9 : Int32) (s9 : MS), Post ((r9, s9)) → Q r9 s9) (h : Ok (Md_behind_j142 x1 t0 s) Post) : G (XM l D cI cZ cJ ad) "SmallHarbourModel" b_Md_behind 3 (some .int) 3 142 [(0, .ref (ad 0)), (1, .int x1)] [.int t0] s Q := by
  unfold Md_behind_j142 at h
  refine G_istore_n d_Md_behind_142 rfl (Nat.le_of_ble_eq_true rfl) (fun x => [(2, .int x), (0, .ref (ad 0)), (1, .int x1)]) (fun _ => rfl) (fun x e => ?_)
  subst e
  refine G_iload_n d_Md_behind_143 rfl 2 rfl ?_
  refine G_iload_n d_Md_behind_144 rfl 0 rfl ?_
  refine G_icmp_eq (tgt := 150) d_Md_behind_145 (by decide) (fun c => ?_) (fun c => ?_)
  · replace h := Ok_t c h
    refine G_aload_n d_Md_behind_150 rfl 1 rfl ?_
    refine G_callVp (st := []) (As := []) (b := ad 0) d_Md_behind_151 mi_Md_isMany w_1277 0 rfl rfl mv_Md_isMany rfl (Nat.le_of_ble_eq_true rfl) (by decide) (c_Md_isMany  s (Ok_bind h)) (fun v1 h hnv1 => ?_)
    refine G_if_eq (tgt := 159) d_Md_behind_154 (by decide) (fun c => ?_) (fun c => ?_)
    · replace h := Ok_t c h
      refine G_aload_n d_Md_behind_159 rfl 1 rfl ?_
      refine gm_Md_kind d_Md_behind_160 w_888 ?_
      refine G_bipush d_Md_behind_163 lt_bipush_9 ?_
      refine G_icmp_ne (tgt := 195) d_Md_behind_165 (by decide) (fun c => ?_) (fun c => ?_)
      · replace h := Ok_f c h
        refine G_aload_n d_Md_behind_195 rfl 1 rfl ?_
        refine gm_Md_open d_Md_behind_196 w_898 ?_
        refine G_aload_n d_Md_behind_199 rfl 1 rfl ?_
        refine gm_Md_opens d_Md_behind_200 w_899 ?_
        refine G_iconst d_Md_behind_203 lt_iconst_1 ?_
        refine G_isub d_Md_behind_204 ?_
        refine G_aload_n d_Md_behind_205 rfl 1 rfl ?_
        refine gm_Md_kind d_Md_behind_206 w_888 ?_
        refine sm_34 d_Md_behind_209 (Ok_ld h).1 (fun s2 e => ?_)
        replace h := (Ok_ld h).2 s2 e
        clear e
        refine G_aload_n d_Md_behind_210 rfl 1 rfl ?_
        refine G_iconst d_Md_behind_211 lt_iconst_1 ?_
        refine pm_Md_wantsPart d_Md_behind_212 w_902 rfl rfl (fun s3 e => ?_)
        replace h := Ok_bnd h s3 e
        clear e
        refine G_iconst d_Md_behind_215 lt_iconst_0 ?_
        replace h := Ok_some h
        exact G_iret rfl (vp_nar_int _) d_Md_behind_216 (hR _ _ h)
      replace h := Ok_t c h
      refine G_aload_n d_Md_behind_168 rfl 1 rfl ?_
      refine G_dup d_Md_behind_169 rfl ?_
      refine gm_Md_opens d_Md_behind_170 w_899 ?_
      refine G_iconst d_Md_behind_173 lt_iconst_1 ?_
      refine G_isub d_Md_behind_174 ?_
      refine pm_Md_opens d_Md_behind_175 w_899 (fun s4 e => ?_)
      replace h := Ok_bnd h s4 e
      clear e
      refine G_aload_n d_Md_behind_178 rfl 1 rfl ?_
      refine G_dup d_Md_behind_179 rfl ?_
      refine gm_Md_nest d_Md_behind_180 w_900 ?_
      refine G_iconst d_Md_behind_183 lt_iconst_1 ?_
      refine G_isub d_Md_behind_184 ?_
      refine pm_Md_nest d_Md_behind_185 w_900 (fun s5 e => ?_)
      replace h := Ok_bnd h s5 e
      clear e
      refine G_aload_n d_Md_behind_188 rfl 1 rfl ?_
      refine G_callVv (st := []) (As := []) (b := ad 0) d_Md_behind_189 mi_Md_partIsThrough w_1285 0 rfl rfl mv_Md_partIsThrough rfl (Nat.le_of_ble_eq_true rfl) (by decide) (c_Md_partIsThrough  s5 (Ok_bind h)) (fun s6 h => ?_)
      refine G_goto (tgt := 215) d_Md_behind_192 (by decide) ?_
      refine G_iconst d_Md_behind_215 lt_iconst_0 ?_
      replace h := Ok_some h
      exact G_iret rfl (vp_nar_int _) d_Md_behind_216 (hR _ _ h)
    replace h := Ok_f c h
    refine G_iconst d_Md_behind_157 lt_iconst_3 ?_
    replace h := Ok_some h
    exact G_iret rfl (vp_nar_int _) d_Md_behind_158 (hR _ _ h)
  replace h := Ok_f c h
  refine G_iconst d_Md_behind_148 lt_iconst_1 ?_
  replace h := Ok_some h
  exact G_iret rfl (vp_nar_int _) d_Md_behind_149 (hR _ _ h)
noncomputable def Md_behind_j117 (s : MS) : Option (Int32 × MS) :=
  bd2 (f_Md_through s) fun v1 s2 => if (s2.1 22) = (9 : Int32) then (Md_behind_j142 v1 (8 : Int32) s2) else (Md_behind_j142 v1 ((s2.1 22) - (1 : Int32)) s2)
theorem Md_behind_j117_w {l : Launch} {D : va_G} {cI cZ cJ : ClassId} {ad : Nat → Nat} (s : MS) {Q : Int32 → MS → Prop} {Post : (Int32 × MS) → Prop} (hR : ∀ (r9 : Int32) (s9 : MS), Post ((r9, s9)) → Q r9 s9) (h : Ok (Md_behind_j117 s) Post) : G (XM l D cI cZ cJ ad) "SmallHarbourModel" b_Md_behind 3 (some .int) 3 117 [(0, .ref (ad 0))] [] s Q := by
  unfold Md_behind_j117 at h
  refine G_aload_n d_Md_behind_117 rfl 0 rfl ?_
  refine G_callVi (st := []) (As := []) (b := ad 0) d_Md_behind_118 mi_Md_through w_1308 0 rfl rfl mv_Md_through rfl (Nat.le_of_ble_eq_true rfl) (by decide) (c_Md_through  s (Ok_bd2 h)) (fun v1 s2 h hnv1 => ?_)
  refine G_istore_n d_Md_behind_121 rfl (Nat.le_of_ble_eq_true rfl) (fun x => [(1, .int x), (0, .ref (ad 0))]) (fun _ => rfl) (fun x e => ?_)
  subst e
  refine G_aload_n d_Md_behind_122 rfl 1 rfl ?_
  refine gm_Md_kind d_Md_behind_123 w_888 ?_
  refine G_bipush d_Md_behind_126 lt_bipush_9 ?_
  refine G_icmp_ne (tgt := 136) d_Md_behind_128 (by decide) (fun c => ?_) (fun c => ?_)
  · replace h := Ok_f c h
    refine G_aload_n d_Md_behind_136 rfl 1 rfl ?_
    refine gm_Md_kind d_Md_behind_137 w_888 ?_
    refine G_iconst d_Md_behind_140 lt_iconst_1 ?_
    refine G_isub d_Md_behind_141 ?_
    refine G_lv [1, 0] rfl ?_
    refine Md_behind_j142_w v1 ((s2.1 22) - (1 : Int32)) s2 ?_ h
    · exact hR
  replace h := Ok_t c h
  refine G_bipush d_Md_behind_131 lt_bipush_8 ?_
  refine G_goto (tgt := 142) d_Md_behind_133 (by decide) ?_
  refine G_lv [1, 0] rfl ?_
  refine Md_behind_j142_w v1 (8 : Int32) s2 ?_ h
  · exact hR
noncomputable def Md_behind_j64 (s : MS) : Option (Int32 × MS) :=
  (f_Md_isMany s).bind fun v1 => if v1 = 0 then ((f_Md_push (s.1 22) s).bind fun s2 => bnd (pf s2 31 (1 : Int32)) fun s3 => some ((0 : Int32), s3)) else (some ((3 : Int32), s))
theorem Md_behind_j64_w {l : Launch} {D : va_G} {cI cZ cJ : ClassId} {ad : Nat → Nat} (s : MS) {Q : Int32 → MS → Prop} {Post : (Int32 × MS) → Prop} (hR : ∀ (r9 : Int32) (s9 : MS), Post ((r9, s9)) → Q r9 s9) (h : Ok (Md_behind_j64 s) Post) : G (XM l D cI cZ cJ ad) "SmallHarbourModel" b_Md_behind 3 (some .int) 3 64 [(0, .ref (ad 0))] [] s Q := by
  unfold Md_behind_j64 at h
  refine G_aload_n d_Md_behind_64 rfl 0 rfl ?_
  refine G_callVp (st := []) (As := []) (b := ad 0) d_Md_behind_65 mi_Md_isMany w_1277 0 rfl rfl mv_Md_isMany rfl (Nat.le_of_ble_eq_true rfl) (by decide) (c_Md_isMany  s (Ok_bind h)) (fun v1 h hnv1 => ?_)
  refine G_if_eq (tgt := 73) d_Md_behind_68 (by decide) (fun c => ?_) (fun c => ?_)
  · replace h := Ok_t c h
    refine G_aload_n d_Md_behind_73 rfl 0 rfl ?_
    refine G_aload_n d_Md_behind_74 rfl 0 rfl ?_
    refine gm_Md_kind d_Md_behind_75 w_888 ?_
    refine G_callVv (st := []) (As := [.int (s.1 22)]) (b := ad 0) d_Md_behind_78 mi_Md_push w_1296 0 rfl rfl mv_Md_push rfl (Nat.le_of_ble_eq_true rfl) (by decide) (c_Md_push (s.1 22) s (Ok_bind h)) (fun s2 h => ?_)
    refine G_aload_n d_Md_behind_81 rfl 0 rfl ?_
    refine G_iconst d_Md_behind_82 lt_iconst_1 ?_
    refine pm_Md_wantsPart d_Md_behind_83 w_902 rfl rfl (fun s3 e => ?_)
    replace h := Ok_bnd h s3 e
    clear e
    refine G_iconst d_Md_behind_86 lt_iconst_0 ?_
    replace h := Ok_some h
    exact G_iret rfl (vp_nar_int _) d_Md_behind_87 (hR _ _ h)
  replace h := Ok_f c h
  refine G_iconst d_Md_behind_71 lt_iconst_3 ?_
  replace h := Ok_some h
  exact G_iret rfl (vp_nar_int _) d_Md_behind_72 (hR _ _ h)
noncomputable def Md_behind_j37 (t0 : Int32) (s : MS) : Option (Int32 × MS) :=
  (f_Md_reduce t0 s).bind fun s1 => (f_Md_rankOf (s1.1 22)).bind fun v2 => if v2 = (1 : Int32) then ((f_Md_top s1).bind fun v3 => (f_Md_rankOf v3).bind fun v4 => if v4 = (1 : Int32) then (some ((1 : Int32), s1)) else (Md_behind_j64 s1)) else (Md_behind_j64 s1)
theorem Md_behind_j37_w {l : Launch} {D : va_G} {cI cZ cJ : ClassId} {ad : Nat → Nat} (t0 : Int32) (s : MS) {Q : Int32 → MS → Prop} {Post : (Int32 × MS) → Prop} (hR : ∀ (r9 : Int32) (s9 : MS), Post ((r9, s9)) → Q r9 s9) (h : Ok (Md_behind_j37 t0 s) Post) : G (XM l D cI cZ cJ ad) "SmallHarbourModel" b_Md_behind 3 (some .int) 3 37 [(0, .ref (ad 0))] [.int t0, .ref (ad 0)] s Q := by
  unfold Md_behind_j37 at h
  refine G_callVv (st := []) (As := [.int t0]) (b := ad 0) d_Md_behind_37 mi_Md_reduce w_1304 0 rfl rfl mv_Md_reduce rfl (Nat.le_of_ble_eq_true rfl) (by decide) (c_Md_reduce t0 s (Ok_bind h)) (fun s1 h => ?_)
  refine G_aload_n d_Md_behind_40 rfl 0 rfl ?_
  refine gm_Md_kind d_Md_behind_41 w_888 ?_
  refine G_callSp (st := []) (As := [.int (s1.1 22)]) d_Md_behind_44 mi_Md_rankOf w_1293 w_1294 rfl (Nat.le_of_ble_eq_true rfl) (by decide) (c_Md_rankOf (s1.1 22) s1 (Ok_bind h)) (fun v2 h hnv2 => ?_)
  refine G_iconst d_Md_behind_47 lt_iconst_1 ?_
  refine G_icmp_ne (tgt := 64) d_Md_behind_48 (by decide) (fun c => ?_) (fun c => ?_)
  · replace h := Ok_f c h
    refine Md_behind_j64_w s1 ?_ h
    · exact hR
  replace h := Ok_t c h
  refine G_aload_n d_Md_behind_51 rfl 0 rfl ?_
  refine G_callVp (st := []) (As := []) (b := ad 0) d_Md_behind_52 mi_Md_top w_1289 0 rfl rfl mv_Md_top rfl (Nat.le_of_ble_eq_true rfl) (by decide) (c_Md_top  s1 (Ok_bind h)) (fun v3 h hnv3 => ?_)
  refine G_callSp (st := []) (As := [.int v3]) d_Md_behind_55 mi_Md_rankOf w_1293 w_1294 rfl (Nat.le_of_ble_eq_true rfl) (by decide) (c_Md_rankOf v3 s1 (Ok_bind h)) (fun v4 h hnv4 => ?_)
  refine G_iconst d_Md_behind_58 lt_iconst_1 ?_
  refine G_icmp_ne (tgt := 64) d_Md_behind_59 (by decide) (fun c => ?_) (fun c => ?_)
  · replace h := Ok_f c h
    refine Md_behind_j64_w s1 ?_ h
    · exact hR
  replace h := Ok_t c h
  refine G_iconst d_Md_behind_62 lt_iconst_1 ?_
  replace h := Ok_some h
  exact G_iret rfl (vp_nar_int _) d_Md_behind_63 (hR _ _ h)
noncomputable def f_Md_behind (s : MS) : Option (Int32 × MS) :=
  (f_Md_isIn (s.1 22) (10 : Int32) (16 : Int32)).bind fun v1 => if v1 = 0 then (if (s.1 22) = (9 : Int32) then (Md_behind_j117 s) else (if (s.1 22) = (6 : Int32) then (Md_behind_j117 s) else (if (s.1 22) = (7 : Int32) then (Md_behind_j117 s) else (some ((1 : Int32), s))))) else ((f_Md_rankOf (s.1 22)).bind fun v2 => if v2 = (1 : Int32) then (Md_behind_j37 (2 : Int32) s) else ((f_Md_rankOf (s.1 22)).bind fun v3 => Md_behind_j37 v3 s))
theorem f_Md_behind_w {l : Launch} {D : va_G} {cI cZ cJ : ClassId} {ad : Nat → Nat} (s : MS) {Q : Int32 → MS → Prop} {Post : (Int32 × MS) → Prop} (hR : ∀ (r9 : Int32) (s9 : MS), Post ((r9, s9)) → Q r9 s9) (h : Ok (f_Md_behind s) Post) : G (XM l D cI cZ cJ ad) "SmallHarbourModel" b_Md_behind 3 (some .int) 3 0 [(0, .ref (ad 0))] [] s Q := by
  unfold f_Md_behind at h
  refine G_aload_n d_Md_behind_0 rfl 0 rfl ?_
  refine gm_Md_kind d_Md_behind_1 w_888 ?_
  refine G_bipush d_Md_behind_4 lt_bipush_10 ?_
  refine G_bipush d_Md_behind_6 lt_bipush_16 ?_
  refine G_callSp (st := []) (As := [.int (s.1 22), .int (10 : Int32), .int (16 : Int32)]) d_Md_behind_8 mi_Md_isIn w_1045 w_1046 rfl (Nat.le_of_ble_eq_true rfl) (by decide) (c_Md_isIn (s.1 22) (10 : Int32) (16 : Int32) s (Ok_bind h)) (fun v1 h hnv1 => ?_)
  refine G_if_eq (tgt := 88) d_Md_behind_11 (by decide) (fun c => ?_) (fun c => ?_)
  · replace h := Ok_t c h
    refine G_aload_n d_Md_behind_88 rfl 0 rfl ?_
    refine gm_Md_kind d_Md_behind_89 w_888 ?_
    refine G_bipush d_Md_behind_92 lt_bipush_9 ?_
    refine G_icmp_eq (tgt := 117) d_Md_behind_94 (by decide) (fun c => ?_) (fun c => ?_)
    · replace h := Ok_t c h
      refine Md_behind_j117_w s ?_ h
      · exact hR
    replace h := Ok_f c h
    refine G_aload_n d_Md_behind_97 rfl 0 rfl ?_
    refine gm_Md_kind d_Md_behind_98 w_888 ?_
    refine G_bipush d_Md_behind_101 lt_bipush_6 ?_
    refine G_icmp_eq (tgt := 117) d_Md_behind_103 (by decide) (fun c => ?_) (fun c => ?_)
    · replace h := Ok_t c h
      refine Md_behind_j117_w s ?_ h
      · exact hR
    replace h := Ok_f c h
    refine G_aload_n d_Md_behind_106 rfl 0 rfl ?_
    refine gm_Md_kind d_Md_behind_107 w_888 ?_
    refine G_bipush d_Md_behind_110 lt_bipush_7 ?_
    refine G_icmp_eq (tgt := 117) d_Md_behind_112 (by decide) (fun c => ?_) (fun c => ?_)
    · replace h := Ok_t c h
      refine Md_behind_j117_w s ?_ h
      · exact hR
    replace h := Ok_f c h
    refine G_iconst d_Md_behind_115 lt_iconst_1 ?_
    replace h := Ok_some h
    exact G_iret rfl (vp_nar_int _) d_Md_behind_116 (hR _ _ h)
  replace h := Ok_f c h
  refine G_aload_n d_Md_behind_14 rfl 0 rfl ?_
  refine G_aload_n d_Md_behind_15 rfl 0 rfl ?_
  refine gm_Md_kind d_Md_behind_16 w_888 ?_
  refine G_callSp (st := [.ref (ad 0)]) (As := [.int (s.1 22)]) d_Md_behind_19 mi_Md_rankOf w_1293 w_1294 rfl (Nat.le_of_ble_eq_true rfl) (by decide) (c_Md_rankOf (s.1 22) s (Ok_bind h)) (fun v2 h hnv2 => ?_)
  refine G_iconst d_Md_behind_22 lt_iconst_1 ?_
  refine G_icmp_ne (tgt := 30) d_Md_behind_23 (by decide) (fun c => ?_) (fun c => ?_)
  · replace h := Ok_f c h
    refine G_aload_n d_Md_behind_30 rfl 0 rfl ?_
    refine gm_Md_kind d_Md_behind_31 w_888 ?_
    refine G_callSp (st := [.ref (ad 0)]) (As := [.int (s.1 22)]) d_Md_behind_34 mi_Md_rankOf w_1293 w_1294 rfl (Nat.le_of_ble_eq_true rfl) (by decide) (c_Md_rankOf (s.1 22) s (Ok_bind h)) (fun v3 h hnv3 => ?_)
    refine Md_behind_j37_w v3 s ?_ h
    · exact hR
  replace h := Ok_t c h
  refine G_iconst d_Md_behind_26 lt_iconst_2 ?_
  refine G_goto (tgt := 37) d_Md_behind_27 (by decide) ?_
  refine Md_behind_j37_w (2 : Int32) s ?_ h
  · exact hR
theorem c_Md_behind {l : Launch} {D : va_G} {cI cZ cJ : ClassId} {ad : Nat → Nat} (s : MS) {P : Int32 → MS → Prop} (h : Ok2 (f_Md_behind  s) P) : Ct (XM l D cI cZ cJ ad) y_Md_behind b_Md_behind 3 (some .int) 3 [.ref (ad 0)] s (P) :=
  Ct.of mi_Md_behind (Nat.le_of_ble_eq_true rfl) (f_Md_behind_w  s (Post := fun q => P q.1 q.2) (fun _ _ h => h) (Ok2_ok h))
-- Md_berth
noncomputable def f_Md_berth (a1 a2 : Int32) (s : MS) : Option (Int32 × MS) :=
  (f_Md_isIn a1 (10 : Int32) (400 : Int32)).bind fun v1 => if v1 = 0 then (some ((-1 : Int32), s)) else ((f_Md_isIn a2 (0 : Int32) (60 : Int32)).bind fun v2 => if v2 = 0 then (some ((-1 : Int32), s)) else (if (s.1 1) = (10 : Int32) then (some ((-1 : Int32), s)) else (chk (inb (s.1 1) 10) (bnd (pa s 1 (s.1 1).toNatClampNeg a1) fun s3 => chk (inb (s3.1 1) 10) (bnd (pa s3 2 (s3.1 1).toNatClampNeg a2) fun s4 => bnd (pf s4 1 ((s4.1 1) + (1 : Int32))) fun s5 => some (((s5.1 1) - (1 : Int32)), s5))))))
theorem f_Md_berth_w {l : Launch} {D : va_G} {cI cZ cJ : ClassId} {ad : Nat → Nat} (a1 a2 : Int32) (s : MS) {Q : Int32 → MS → Prop} {Post : (Int32 × MS) → Prop} (hR : ∀ (r9 : Int32) (s9 : MS), Post ((r9, s9)) → Q r9 s9) (h : Ok (f_Md_berth a1 a2 s) Post) : G (XM l D cI cZ cJ ad) "SmallHarbourModel" b_Md_berth 3 (some .int) 1 0 [(0, .ref (ad 0)), (1, .int a1), (2, .int a2)] [] s Q := by
  unfold f_Md_berth at h
  refine G_iload_n d_Md_berth_0 rfl 1 rfl ?_
  refine G_bipush d_Md_berth_1 lt_bipush_10 ?_
  refine G_sipush d_Md_berth_3 lt_sipush_400 ?_
  refine G_callSp (st := []) (As := [.int a1, .int (10 : Int32), .int (400 : Int32)]) d_Md_berth_6 mi_Md_isIn w_1045 w_1046 rfl (Nat.le_of_ble_eq_true rfl) (by decide) (c_Md_isIn a1 (10 : Int32) (400 : Int32) s (Ok_bind h)) (fun v1 h hnv1 => ?_)
  refine G_if_eq (tgt := 31) d_Md_berth_9 (by decide) (fun c => ?_) (fun c => ?_)
  · replace h := Ok_t c h
    refine G_iconst d_Md_berth_31 lt_iconst_m1 ?_
    replace h := Ok_some h
    exact G_iret rfl (vp_nar_int _) d_Md_berth_32 (hR _ _ h)
  replace h := Ok_f c h
  refine G_iload_n d_Md_berth_12 rfl 2 rfl ?_
  refine G_iconst d_Md_berth_13 lt_iconst_0 ?_
  refine G_bipush d_Md_berth_14 lt_bipush_60 ?_
  refine G_callSp (st := []) (As := [.int a2, .int (0 : Int32), .int (60 : Int32)]) d_Md_berth_16 mi_Md_isIn w_1045 w_1046 rfl (Nat.le_of_ble_eq_true rfl) (by decide) (c_Md_isIn a2 (0 : Int32) (60 : Int32) s (Ok_bind h)) (fun v2 h hnv2 => ?_)
  refine G_if_eq (tgt := 31) d_Md_berth_19 (by decide) (fun c => ?_) (fun c => ?_)
  · replace h := Ok_t c h
    refine G_iconst d_Md_berth_31 lt_iconst_m1 ?_
    replace h := Ok_some h
    exact G_iret rfl (vp_nar_int _) d_Md_berth_32 (hR _ _ h)
  replace h := Ok_f c h
  refine G_aload_n d_Md_berth_22 rfl 0 rfl ?_
  refine gm_Md_berths d_Md_berth_23 w_838 ?_
  refine G_bipush d_Md_berth_26 lt_bipush_10 ?_
  refine G_icmp_ne (tgt := 33) d_Md_berth_28 (by decide) (fun c => ?_) (fun c => ?_)
  · replace h := Ok_f c h
    refine G_aload_n d_Md_berth_33 rfl 0 rfl ?_
    refine gm_Md_berthLength d_Md_berth_34 w_839 ?_
    refine G_aload_n d_Md_berth_37 rfl 0 rfl ?_
    refine gm_Md_berths d_Md_berth_38 w_838 ?_
    refine G_iload_n d_Md_berth_41 rfl 1 rfl ?_
    refine sm_1 d_Md_berth_42 (Ok_ld h).1 (fun s3 e => ?_)
    replace h := (Ok_ld h).2 s3 e
    clear e
    refine G_aload_n d_Md_berth_43 rfl 0 rfl ?_
    refine gm_Md_berthDepth d_Md_berth_44 w_840 ?_
    refine G_aload_n d_Md_berth_47 rfl 0 rfl ?_
    refine gm_Md_berths d_Md_berth_48 w_838 ?_
    refine G_iload_n d_Md_berth_51 rfl 2 rfl ?_
    refine sm_2 d_Md_berth_52 (Ok_ld h).1 (fun s4 e => ?_)
    replace h := (Ok_ld h).2 s4 e
    clear e
    refine G_aload_n d_Md_berth_53 rfl 0 rfl ?_
    refine G_dup d_Md_berth_54 rfl ?_
    refine gm_Md_berths d_Md_berth_55 w_838 ?_
    refine G_iconst d_Md_berth_58 lt_iconst_1 ?_
    refine G_iadd d_Md_berth_59 ?_
    refine pm_Md_berths d_Md_berth_60 w_838 (fun s5 e => ?_)
    replace h := Ok_bnd h s5 e
    clear e
    refine G_aload_n d_Md_berth_63 rfl 0 rfl ?_
    refine gm_Md_berths d_Md_berth_64 w_838 ?_
    refine G_iconst d_Md_berth_67 lt_iconst_1 ?_
    refine G_isub d_Md_berth_68 ?_
    replace h := Ok_some h
    exact G_iret rfl (vp_nar_int _) d_Md_berth_69 (hR _ _ h)
  replace h := Ok_t c h
  refine G_iconst d_Md_berth_31 lt_iconst_m1 ?_
  replace h := Ok_some h
  exact G_iret rfl (vp_nar_int _) d_Md_berth_32 (hR _ _ h)
theorem c_Md_berth {l : Launch} {D : va_G} {cI cZ cJ : ClassId} {ad : Nat → Nat} (a1 a2 : Int32) (s : MS) {P : Int32 → MS → Prop} (h : Ok2 (f_Md_berth a1 a2 s) P) : Ct (XM l D cI cZ cJ ad) y_Md_berth b_Md_berth 3 (some .int) 1 [.ref (ad 0), .int a1, .int a2] s (P) :=
  Ct.of mi_Md_berth (Nat.le_of_ble_eq_true rfl) (f_Md_berth_w a1 a2 s (Post := fun q => P q.1 q.2) (fun _ _ h => h) (Ok2_ok h))
-- Md_two
noncomputable def f_Md_two (a1 a2 a3 : Int32) : Option Int32 :=
  bnd a1 fun v1 => if v1 = (10 : Int32) then (some (a2 + a3)) else (if v1 = (11 : Int32) then (some (a2 - a3)) else (if v1 = (12 : Int32) then (some (a2 * a3)) else (if v1 = (13 : Int32) then (if a3 = 0 then (some (0 : Int32)) else (chk (decide (¬ a3 = 0)) (some (a2 / a3)))) else (if v1 = (14 : Int32) then (if a3 = 0 then (some (0 : Int32)) else (chk (decide (¬ a3 = 0)) (some (a2 - a2 / a3 * a3)))) else (if v1 = (15 : Int32) then (if a3 ≤ a2 then (some (0 : Int32)) else (some (1 : Int32))) else (if a2 = a3 then (some (1 : Int32)) else (some (0 : Int32))))))))
theorem f_Md_two_w {l : Launch} {D : va_G} {cI cZ cJ : ClassId} {ad : Nat → Nat} (a1 a2 a3 : Int32) (s : MS) {Q : Int32 → MS → Prop} {Post : Int32 → Prop} (hR : ∀ (r9 : Int32), Post (r9) → Q r9 s) (h : Ok (f_Md_two a1 a2 a3) Post) : G (XM l D cI cZ cJ ad) "SmallHarbourModel" b_Md_two 3 (some .int) 0 0 [(0, .int a1), (1, .int a2), (2, .int a3)] [] s Q := by
  unfold f_Md_two at h
  refine G_iload_n d_Md_two_0 rfl 0 rfl ?_
  refine G_topi (fun v1 e => ?_)
  replace h := Ok_bnd h v1 e
  clear e
  by_cases c0 : v1 = (10 : Int32)
  · replace h := Ok_t c0 h
    refine G_tableIn (tgt := 40) d_Md_two_1 (by rw [c0]; decide) (by rw [c0]; decide) (by rw [c0]; rfl) (by decide) ?_
    refine G_iload_n d_Md_two_40 rfl 1 rfl ?_
    refine G_iload_n d_Md_two_41 rfl 2 rfl ?_
    refine G_iadd d_Md_two_42 ?_
    replace h := Ok_some h
    exact G_iret rfl (vp_nar_int _) d_Md_two_43 (hR _ h)
  replace h := Ok_f c0 h
  have n0 := ne_ti (z := 10) (by decide) c0
  by_cases c1 : v1 = (11 : Int32)
  · replace h := Ok_t c1 h
    refine G_tableIn (tgt := 44) d_Md_two_1 (by rw [c1]; decide) (by rw [c1]; decide) (by rw [c1]; rfl) (by decide) ?_
    refine G_iload_n d_Md_two_44 rfl 1 rfl ?_
    refine G_iload_n d_Md_two_45 rfl 2 rfl ?_
    refine G_isub d_Md_two_46 ?_
    replace h := Ok_some h
    exact G_iret rfl (vp_nar_int _) d_Md_two_47 (hR _ h)
  replace h := Ok_f c1 h
  have n1 := ne_ti (z := 11) (by decide) c1
  by_cases c2 : v1 = (12 : Int32)
  · replace h := Ok_t c2 h
    refine G_tableIn (tgt := 48) d_Md_two_1 (by rw [c2]; decide) (by rw [c2]; decide) (by rw [c2]; rfl) (by decide) ?_
    refine G_iload_n d_Md_two_48 rfl 1 rfl ?_
    refine G_iload_n d_Md_two_49 rfl 2 rfl ?_
    refine G_imul d_Md_two_50 ?_
    replace h := Ok_some h
    exact G_iret rfl (vp_nar_int _) d_Md_two_51 (hR _ h)
  replace h := Ok_f c2 h
  have n2 := ne_ti (z := 12) (by decide) c2
  by_cases c3 : v1 = (13 : Int32)
  · replace h := Ok_t c3 h
    refine G_tableIn (tgt := 52) d_Md_two_1 (by rw [c3]; decide) (by rw [c3]; decide) (by rw [c3]; rfl) (by decide) ?_
    refine G_iload_n d_Md_two_52 rfl 2 rfl ?_
    refine G_if_ne (tgt := 60) d_Md_two_53 (by decide) (fun c => ?_) (fun c => ?_)
    · replace h := Ok_f c h
      refine G_iload_n d_Md_two_60 rfl 1 rfl ?_
      refine G_iload_n d_Md_two_61 rfl 2 rfl ?_
      refine G_idiv d_Md_two_62 (of_decide_eq_true (Ok_chk h).1) ?_
      replace h := (Ok_chk h).2
      replace h := Ok_some h
      exact G_iret rfl (vp_nar_int _) d_Md_two_63 (hR _ h)
    replace h := Ok_t c h
    refine G_iconst d_Md_two_56 lt_iconst_0 ?_
    refine G_goto (tgt := 63) d_Md_two_57 (by decide) ?_
    replace h := Ok_some h
    exact G_iret rfl (vp_nar_int _) d_Md_two_63 (hR _ h)
  replace h := Ok_f c3 h
  have n3 := ne_ti (z := 13) (by decide) c3
  by_cases c4 : v1 = (14 : Int32)
  · replace h := Ok_t c4 h
    refine G_tableIn (tgt := 64) d_Md_two_1 (by rw [c4]; decide) (by rw [c4]; decide) (by rw [c4]; rfl) (by decide) ?_
    refine G_iload_n d_Md_two_64 rfl 2 rfl ?_
    refine G_if_ne (tgt := 72) d_Md_two_65 (by decide) (fun c => ?_) (fun c => ?_)
    · replace h := Ok_f c h
      refine G_iload_n d_Md_two_72 rfl 1 rfl ?_
      refine G_iload_n d_Md_two_73 rfl 2 rfl ?_
      refine G_irem d_Md_two_74 (of_decide_eq_true (Ok_chk h).1) ?_
      replace h := (Ok_chk h).2
      replace h := Ok_some h
      exact G_iret rfl (vp_nar_int _) d_Md_two_75 (hR _ h)
    replace h := Ok_t c h
    refine G_iconst d_Md_two_68 lt_iconst_0 ?_
    refine G_goto (tgt := 75) d_Md_two_69 (by decide) ?_
    replace h := Ok_some h
    exact G_iret rfl (vp_nar_int _) d_Md_two_75 (hR _ h)
  replace h := Ok_f c4 h
  have n4 := ne_ti (z := 14) (by decide) c4
  by_cases c5 : v1 = (15 : Int32)
  · replace h := Ok_t c5 h
    refine G_tableIn (tgt := 76) d_Md_two_1 (by rw [c5]; decide) (by rw [c5]; decide) (by rw [c5]; rfl) (by decide) ?_
    refine G_iload_n d_Md_two_76 rfl 1 rfl ?_
    refine G_iload_n d_Md_two_77 rfl 2 rfl ?_
    refine G_icmp_ge (tgt := 85) d_Md_two_78 (by decide) (fun c => ?_) (fun c => ?_)
    · replace h := Ok_t c h
      refine G_iconst d_Md_two_85 lt_iconst_0 ?_
      replace h := Ok_some h
      exact G_iret rfl (vp_nar_int _) d_Md_two_86 (hR _ h)
    replace h := Ok_f c h
    refine G_iconst d_Md_two_81 lt_iconst_1 ?_
    refine G_goto (tgt := 86) d_Md_two_82 (by decide) ?_
    replace h := Ok_some h
    exact G_iret rfl (vp_nar_int _) d_Md_two_86 (hR _ h)
  replace h := Ok_f c5 h
  have n5 := ne_ti (z := 15) (by decide) c5
  refine G_tableOut (tgt := 87) d_Md_two_1 (by omega) (by decide) ?_
  refine G_iload_n d_Md_two_87 rfl 1 rfl ?_
  refine G_iload_n d_Md_two_88 rfl 2 rfl ?_
  refine G_icmp_ne (tgt := 96) d_Md_two_89 (by decide) (fun c => ?_) (fun c => ?_)
  · replace h := Ok_f c h
    refine G_iconst d_Md_two_96 lt_iconst_0 ?_
    replace h := Ok_some h
    exact G_iret rfl (vp_nar_int _) d_Md_two_97 (hR _ h)
  replace h := Ok_t c h
  refine G_iconst d_Md_two_92 lt_iconst_1 ?_
  refine G_goto (tgt := 97) d_Md_two_93 (by decide) ?_
  replace h := Ok_some h
  exact G_iret rfl (vp_nar_int _) d_Md_two_97 (hR _ h)
theorem c_Md_two {l : Launch} {D : va_G} {cI cZ cJ : ClassId} {ad : Nat → Nat} (a1 a2 a3 : Int32) (s : MS) {P : Int32 → Prop} (h : Ok (f_Md_two a1 a2 a3) P) : Ct (XM l D cI cZ cJ ad) y_Md_two b_Md_two 3 (some .int) 0 [.int a1, .int a2, .int a3] s (fun r9 s9 => s9 = s ∧ P r9) :=
  Ct.of mi_Md_two (Nat.le_of_ble_eq_true rfl) (f_Md_two_w a1 a2 a3 s (fun _ h => ⟨rfl, h⟩) h)
-- Md_work
noncomputable def Md_work_l11 (x1 x2 x3 x4 : Int32) (x5 x6 : Int32) (s : MS) : Option ((Int32 × Int32 × MS) ⊕ (Int32 × MS)) :=
  chk (inb (x1 + (1 : Int32)) 9) (bnd (s.2 31 (x1 + (1 : Int32)).toNatClampNeg) fun v1 => if v1 ≤ x6 then (xit (chk (inb (0 : Int32) 130) (bnd (s.2 35 (0 : Int32).toNatClampNeg) fun v2 => some (v2, s)))) else (chk (inb x6 1000) (bnd (s.2 32 x6.toNatClampNeg) fun v3 => if (5 : Int32) ≤ v3 then (if v3 = (18 : Int32) then (chk (inb (x5 - (1 : Int32)) 130) (bnd (s.2 35 (x5 - (1 : Int32)).toNatClampNeg) fun v18 => chk (inb (x5 - (1 : Int32)) 130) (bnd (pa s 35 (x5 - (1 : Int32)).toNatClampNeg (-v18)) fun s19 => bnd (x6 + (1 : Int32)) fun v20 => some (.inl (x5, v20, s19))))) else (if v3 = (19 : Int32) then (bnd (x5 + (-2 : Int32)) fun v10 => chk (inb (v10 - (1 : Int32)) 130) (bnd (s.2 35 (v10 - (1 : Int32)).toNatClampNeg) fun v11 => if v11 = 0 then (chk (inb (v10 + (1 : Int32)) 130) (bnd (s.2 35 (v10 + (1 : Int32)).toNatClampNeg) fun v12 => chk (inb (v10 - (1 : Int32)) 130) (bnd (pa s 35 (v10 - (1 : Int32)).toNatClampNeg v12) fun s13 => bnd (x6 + (1 : Int32)) fun v14 => some (.inl (v10, v14, s13))))) else (chk (inb v10 130) (bnd (s.2 35 v10.toNatClampNeg) fun v15 => chk (inb (v10 - (1 : Int32)) 130) (bnd (pa s 35 (v10 - (1 : Int32)).toNatClampNeg v15) fun s16 => bnd (x6 + (1 : Int32)) fun v17 => some (.inl (v10, v17, s16))))))) else (bnd (x5 + (-1 : Int32)) fun v4 => chk (inb (v4 - (1 : Int32)) 130) (bnd (s.2 35 (v4 - (1 : Int32)).toNatClampNeg) fun v5 => chk (inb v4 130) (bnd (s.2 35 v4.toNatClampNeg) fun v6 => (f_Md_two v3 v5 v6).bind fun v7 => chk (inb (v4 - (1 : Int32)) 130) (bnd (pa s 35 (v4 - (1 : Int32)).toNatClampNeg v7) fun s8 => bnd (x6 + (1 : Int32)) fun v9 => some (.inl (v4, v9, s8)))))))) else (if v3 = (1 : Int32) then (chk (inb x5 130) (bnd (pa s 35 x5.toNatClampNeg x2) fun s31 => bnd (x5 + (1 : Int32)) fun v32 => bnd (x6 + (1 : Int32)) fun v33 => some (.inl (v32, v33, s31)))) else (if v3 = (2 : Int32) then (chk (inb x5 130) (bnd (pa s 35 x5.toNatClampNeg x3) fun s28 => bnd (x5 + (1 : Int32)) fun v29 => bnd (x6 + (1 : Int32)) fun v30 => some (.inl (v29, v30, s28)))) else (if v3 = (3 : Int32) then (chk (inb x5 130) (bnd (pa s 35 x5.toNatClampNeg x4) fun s25 => bnd (x5 + (1 : Int32)) fun v26 => bnd (x6 + (1 : Int32)) fun v27 => some (.inl (v26, v27, s25)))) else (chk (inb x6 1000) (bnd (s.2 33 x6.toNatClampNeg) fun v21 => chk (inb x5 130) (bnd (pa s 35 x5.toNatClampNeg v21) fun s22 => bnd (x5 + (1 : Int32)) fun v23 => bnd (x6 + (1 : Int32)) fun v24 => some (.inl (v23, v24, s22)))))))))))
theorem Md_work_l11_w {l : Launch} {D : va_G} {cI cZ cJ : ClassId} {ad : Nat → Nat} (x1 x2 x3 x4 x5 x6 : Int32) (s : MS) {Q : Int32 → MS → Prop} {Post : ((Int32 × Int32 × MS) ⊕ (Int32 × MS)) → Prop} (hR : ∀ (r9 : Int32) (s9 : MS), Post (.inr ((r9, s9))) → Q r9 s9) (hL11 : ∀ (z5 z6 : Int32) (s9 : MS), Post (.inl (z5, z6, s9)) → G (XM l D cI cZ cJ ad) "SmallHarbourModel" b_Md_work 8 (some .int) 1 11 [(0, .ref (ad 0)), (1, .int x1), (2, .int x2), (3, .int x3), (4, .int x4), (5, .int z5), (6, .int z6)] [] s9 Q) (h : Ok (Md_work_l11 x1 x2 x3 x4 x5 x6 s) Post) : G (XM l D cI cZ cJ ad) "SmallHarbourModel" b_Md_work 8 (some .int) 1 11 [(0, .ref (ad 0)), (1, .int x1), (2, .int x2), (3, .int x3), (4, .int x4), (5, .int x5), (6, .int x6)] [] s Q := by
  unfold Md_work_l11 at h
  refine G_iload d_Md_work_11 6 rfl ?_
  refine G_aload_n d_Md_work_13 rfl 0 rfl ?_
  refine gm_Md_ruleFrom d_Md_work_14 w_892 ?_
  refine G_iload_n d_Md_work_17 rfl 1 rfl ?_
  refine G_iconst d_Md_work_18 lt_iconst_1 ?_
  refine G_iadd d_Md_work_19 ?_
  refine lm_31 d_Md_work_20 (Ok_ld h).1 (fun v1 e => ?_)
  replace h := (Ok_ld h).2 v1 e
  clear e
  refine G_icmp_ge (tgt := 211) d_Md_work_21 (by decide) (fun c => ?_) (fun c => ?_)
  · replace h := Ok_t c h
    replace h := Ok_xit h
    refine G_aload_n d_Md_work_211 rfl 0 rfl ?_
    refine gm_Md_row d_Md_work_212 w_903 ?_
    refine G_iconst d_Md_work_215 lt_iconst_0 ?_
    refine lm_35 d_Md_work_216 (Ok_ld h).1 (fun v2 e => ?_)
    replace h := (Ok_ld h).2 v2 e
    clear e
    replace h := Ok_some h
    exact G_iret rfl (vp_nar_int _) d_Md_work_217 (hR _ _ h)
  replace h := Ok_f c h
  refine G_aload_n d_Md_work_24 rfl 0 rfl ?_
  refine gm_Md_sign d_Md_work_25 w_893 ?_
  refine G_iload d_Md_work_28 6 rfl ?_
  refine lm_32 d_Md_work_30 (Ok_ld h).1 (fun v3 e => ?_)
  replace h := (Ok_ld h).2 v3 e
  clear e
  refine G_istore d_Md_work_31 (Nat.le_of_ble_eq_true rfl) (fun x => [(7, .int x), (0, .ref (ad 0)), (1, .int x1), (2, .int x2), (3, .int x3), (4, .int x4), (5, .int x5), (6, .int x6)]) (fun _ => rfl) (fun x e => ?_)
  subst e
  refine G_iload d_Md_work_33 0 rfl ?_
  refine G_iconst d_Md_work_35 lt_iconst_5 ?_
  refine G_icmp_ge (tgt := 90) d_Md_work_36 (by decide) (fun c => ?_) (fun c => ?_)
  · replace h := Ok_t c h
    refine G_iload d_Md_work_90 0 rfl ?_
    refine G_bipush d_Md_work_92 lt_bipush_18 ?_
    refine G_icmp_ne (tgt := 119) d_Md_work_94 (by decide) (fun c => ?_) (fun c => ?_)
    · replace h := Ok_f c h
      refine G_iload d_Md_work_119 0 rfl ?_
      refine G_bipush d_Md_work_121 lt_bipush_19 ?_
      refine G_icmp_ne (tgt := 172) d_Md_work_123 (by decide) (fun c => ?_) (fun c => ?_)
      · replace h := Ok_f c h
        refine G_iinc d_Md_work_172 6 rfl lt_iconst_m1 rfl (Nat.le_of_ble_eq_true rfl) (fun x => [(5, .int x), (7, .int v3), (0, .ref (ad 0)), (1, .int x1), (2, .int x2), (3, .int x3), (4, .int x4), (6, .int x6)]) (fun _ => rfl) (fun v4 e => ?_)
        replace h := Ok_bnd h v4 e
        clear e
        refine G_aload_n d_Md_work_175 rfl 2 rfl ?_
        refine gm_Md_row d_Md_work_176 w_903 ?_
        refine G_iload d_Md_work_179 0 rfl ?_
        refine G_iconst d_Md_work_181 lt_iconst_1 ?_
        refine G_isub d_Md_work_182 ?_
        refine G_iload d_Md_work_183 1 rfl ?_
        refine G_aload_n d_Md_work_185 rfl 2 rfl ?_
        refine gm_Md_row d_Md_work_186 w_903 ?_
        refine G_iload d_Md_work_189 0 rfl ?_
        refine G_iconst d_Md_work_191 lt_iconst_1 ?_
        refine G_isub d_Md_work_192 ?_
        refine lm_35 d_Md_work_193 (Ok_ld h).1 (fun v5 e => ?_)
        replace h := (Ok_ld h).2 v5 e
        clear e
        refine G_aload_n d_Md_work_194 rfl 2 rfl ?_
        refine gm_Md_row d_Md_work_195 w_903 ?_
        refine G_iload d_Md_work_198 0 rfl ?_
        refine lm_35 d_Md_work_200 (Ok_ld h).1 (fun v6 e => ?_)
        replace h := (Ok_ld h).2 v6 e
        clear e
        refine G_callSp (st := [.int (v4 - (1 : Int32)), .ref (ad 36)]) (As := [.int v3, .int v5, .int v6]) d_Md_work_201 mi_Md_two w_1169 w_1170 rfl (Nat.le_of_ble_eq_true rfl) (by decide) (c_Md_two v3 v5 v6 s (Ok_bind h)) (fun v7 h hnv7 => ?_)
        refine sm_35 d_Md_work_204 (Ok_ld h).1 (fun s8 e => ?_)
        replace h := (Ok_ld h).2 s8 e
        clear e
        refine G_iinc d_Md_work_205 7 rfl lt_iconst_1 rfl (Nat.le_of_ble_eq_true rfl) (fun x => [(6, .int x), (5, .int v4), (7, .int v3), (0, .ref (ad 0)), (1, .int x1), (2, .int x2), (3, .int x3), (4, .int x4)]) (fun _ => rfl) (fun v9 e => ?_)
        replace h := Ok_bnd h v9 e
        clear e
        refine G_goto (tgt := 11) d_Md_work_208 (by decide) ?_
        refine G_lv [3, 4, 5, 6, 7, 1, 0] rfl ?_
        replace h := Ok_some h
        exact hL11 v4 v9 s8 h
      replace h := Ok_t c h
      refine G_iinc d_Md_work_126 6 rfl lt_iconst_m2 rfl (Nat.le_of_ble_eq_true rfl) (fun x => [(5, .int x), (7, .int v3), (0, .ref (ad 0)), (1, .int x1), (2, .int x2), (3, .int x3), (4, .int x4), (6, .int x6)]) (fun _ => rfl) (fun v10 e => ?_)
      replace h := Ok_bnd h v10 e
      clear e
      refine G_aload_n d_Md_work_129 rfl 2 rfl ?_
      refine gm_Md_row d_Md_work_130 w_903 ?_
      refine G_iload d_Md_work_133 0 rfl ?_
      refine G_iconst d_Md_work_135 lt_iconst_1 ?_
      refine G_isub d_Md_work_136 ?_
      refine G_aload_n d_Md_work_137 rfl 2 rfl ?_
      refine gm_Md_row d_Md_work_138 w_903 ?_
      refine G_iload d_Md_work_141 0 rfl ?_
      refine G_iconst d_Md_work_143 lt_iconst_1 ?_
      refine G_isub d_Md_work_144 ?_
      refine lm_35 d_Md_work_145 (Ok_ld h).1 (fun v11 e => ?_)
      replace h := (Ok_ld h).2 v11 e
      clear e
      refine G_if_eq (tgt := 159) d_Md_work_146 (by decide) (fun c => ?_) (fun c => ?_)
      · replace h := Ok_t c h
        refine G_aload_n d_Md_work_159 rfl 2 rfl ?_
        refine gm_Md_row d_Md_work_160 w_903 ?_
        refine G_iload d_Md_work_163 0 rfl ?_
        refine G_iconst d_Md_work_165 lt_iconst_1 ?_
        refine G_iadd d_Md_work_166 ?_
        refine lm_35 d_Md_work_167 (Ok_ld h).1 (fun v12 e => ?_)
        replace h := (Ok_ld h).2 v12 e
        clear e
        refine sm_35 d_Md_work_168 (Ok_ld h).1 (fun s13 e => ?_)
        replace h := (Ok_ld h).2 s13 e
        clear e
        refine G_goto (tgt := 205) d_Md_work_169 (by decide) ?_
        refine G_iinc d_Md_work_205 7 rfl lt_iconst_1 rfl (Nat.le_of_ble_eq_true rfl) (fun x => [(6, .int x), (5, .int v10), (7, .int v3), (0, .ref (ad 0)), (1, .int x1), (2, .int x2), (3, .int x3), (4, .int x4)]) (fun _ => rfl) (fun v14 e => ?_)
        replace h := Ok_bnd h v14 e
        clear e
        refine G_goto (tgt := 11) d_Md_work_208 (by decide) ?_
        refine G_lv [3, 4, 5, 6, 7, 1, 0] rfl ?_
        replace h := Ok_some h
        exact hL11 v10 v14 s13 h
      replace h := Ok_f c h
      refine G_aload_n d_Md_work_149 rfl 2 rfl ?_
      refine gm_Md_row d_Md_work_150 w_903 ?_
      refine G_iload d_Md_work_153 0 rfl ?_
      refine lm_35 d_Md_work_155 (Ok_ld h).1 (fun v15 e => ?_)
      replace h := (Ok_ld h).2 v15 e
      clear e
      refine G_goto (tgt := 168) d_Md_work_156 (by decide) ?_
      refine sm_35 d_Md_work_168 (Ok_ld h).1 (fun s16 e => ?_)
      replace h := (Ok_ld h).2 s16 e
      clear e
      refine G_goto (tgt := 205) d_Md_work_169 (by decide) ?_
      refine G_iinc d_Md_work_205 7 rfl lt_iconst_1 rfl (Nat.le_of_ble_eq_true rfl) (fun x => [(6, .int x), (5, .int v10), (7, .int v3), (0, .ref (ad 0)), (1, .int x1), (2, .int x2), (3, .int x3), (4, .int x4)]) (fun _ => rfl) (fun v17 e => ?_)
      replace h := Ok_bnd h v17 e
      clear e
      refine G_goto (tgt := 11) d_Md_work_208 (by decide) ?_
      refine G_lv [3, 4, 5, 6, 7, 1, 0] rfl ?_
      replace h := Ok_some h
      exact hL11 v10 v17 s16 h
    replace h := Ok_t c h
    refine G_aload_n d_Md_work_97 rfl 1 rfl ?_
    refine gm_Md_row d_Md_work_98 w_903 ?_
    refine G_iload d_Md_work_101 6 rfl ?_
    refine G_iconst d_Md_work_103 lt_iconst_1 ?_
    refine G_isub d_Md_work_104 ?_
    refine G_aload_n d_Md_work_105 rfl 1 rfl ?_
    refine gm_Md_row d_Md_work_106 w_903 ?_
    refine G_iload d_Md_work_109 6 rfl ?_
    refine G_iconst d_Md_work_111 lt_iconst_1 ?_
    refine G_isub d_Md_work_112 ?_
    refine lm_35 d_Md_work_113 (Ok_ld h).1 (fun v18 e => ?_)
    replace h := (Ok_ld h).2 v18 e
    clear e
    refine G_ineg d_Md_work_114 ?_
    refine sm_35 d_Md_work_115 (Ok_ld h).1 (fun s19 e => ?_)
    replace h := (Ok_ld h).2 s19 e
    clear e
    refine G_goto (tgt := 205) d_Md_work_116 (by decide) ?_
    refine G_iinc d_Md_work_205 7 rfl lt_iconst_1 rfl (Nat.le_of_ble_eq_true rfl) (fun x => [(6, .int x), (7, .int v3), (0, .ref (ad 0)), (1, .int x1), (2, .int x2), (3, .int x3), (4, .int x4), (5, .int x5)]) (fun _ => rfl) (fun v20 e => ?_)
    replace h := Ok_bnd h v20 e
    clear e
    refine G_goto (tgt := 11) d_Md_work_208 (by decide) ?_
    refine G_lv [2, 3, 4, 5, 6, 7, 0] rfl ?_
    replace h := Ok_some h
    exact hL11 x5 v20 s19 h
  replace h := Ok_f c h
  refine G_aload_n d_Md_work_39 rfl 1 rfl ?_
  refine gm_Md_row d_Md_work_40 w_903 ?_
  refine G_iload d_Md_work_43 6 rfl ?_
  refine G_iload d_Md_work_45 0 rfl ?_
  refine G_iconst d_Md_work_47 lt_iconst_1 ?_
  refine G_icmp_ne (tgt := 55) d_Md_work_48 (by decide) (fun c => ?_) (fun c => ?_)
  · replace h := Ok_f c h
    refine G_iload d_Md_work_55 0 rfl ?_
    refine G_iconst d_Md_work_57 lt_iconst_2 ?_
    refine G_icmp_ne (tgt := 65) d_Md_work_58 (by decide) (fun c => ?_) (fun c => ?_)
    · replace h := Ok_f c h
      refine G_iload d_Md_work_65 0 rfl ?_
      refine G_iconst d_Md_work_67 lt_iconst_3 ?_
      refine G_icmp_ne (tgt := 76) d_Md_work_68 (by decide) (fun c => ?_) (fun c => ?_)
      · replace h := Ok_f c h
        refine G_aload_n d_Md_work_76 rfl 1 rfl ?_
        refine gm_Md_value d_Md_work_77 w_894 ?_
        refine G_iload d_Md_work_80 7 rfl ?_
        refine lm_33 d_Md_work_82 (Ok_ld h).1 (fun v21 e => ?_)
        replace h := (Ok_ld h).2 v21 e
        clear e
        refine sm_35 d_Md_work_83 (Ok_ld h).1 (fun s22 e => ?_)
        replace h := (Ok_ld h).2 s22 e
        clear e
        refine G_iinc d_Md_work_84 6 rfl lt_iconst_1 rfl (Nat.le_of_ble_eq_true rfl) (fun x => [(5, .int x), (7, .int v3), (0, .ref (ad 0)), (1, .int x1), (2, .int x2), (3, .int x3), (4, .int x4), (6, .int x6)]) (fun _ => rfl) (fun v23 e => ?_)
        replace h := Ok_bnd h v23 e
        clear e
        refine G_goto (tgt := 205) d_Md_work_87 (by decide) ?_
        refine G_iinc d_Md_work_205 7 rfl lt_iconst_1 rfl (Nat.le_of_ble_eq_true rfl) (fun x => [(6, .int x), (5, .int v23), (7, .int v3), (0, .ref (ad 0)), (1, .int x1), (2, .int x2), (3, .int x3), (4, .int x4)]) (fun _ => rfl) (fun v24 e => ?_)
        replace h := Ok_bnd h v24 e
        clear e
        refine G_goto (tgt := 11) d_Md_work_208 (by decide) ?_
        refine G_lv [3, 4, 5, 6, 7, 1, 0] rfl ?_
        replace h := Ok_some h
        exact hL11 v23 v24 s22 h
      replace h := Ok_t c h
      refine G_iload d_Md_work_71 5 rfl ?_
      refine G_goto (tgt := 83) d_Md_work_73 (by decide) ?_
      refine sm_35 d_Md_work_83 (Ok_ld h).1 (fun s25 e => ?_)
      replace h := (Ok_ld h).2 s25 e
      clear e
      refine G_iinc d_Md_work_84 6 rfl lt_iconst_1 rfl (Nat.le_of_ble_eq_true rfl) (fun x => [(5, .int x), (7, .int v3), (0, .ref (ad 0)), (1, .int x1), (2, .int x2), (3, .int x3), (4, .int x4), (6, .int x6)]) (fun _ => rfl) (fun v26 e => ?_)
      replace h := Ok_bnd h v26 e
      clear e
      refine G_goto (tgt := 205) d_Md_work_87 (by decide) ?_
      refine G_iinc d_Md_work_205 7 rfl lt_iconst_1 rfl (Nat.le_of_ble_eq_true rfl) (fun x => [(6, .int x), (5, .int v26), (7, .int v3), (0, .ref (ad 0)), (1, .int x1), (2, .int x2), (3, .int x3), (4, .int x4)]) (fun _ => rfl) (fun v27 e => ?_)
      replace h := Ok_bnd h v27 e
      clear e
      refine G_goto (tgt := 11) d_Md_work_208 (by decide) ?_
      refine G_lv [3, 4, 5, 6, 7, 1, 0] rfl ?_
      replace h := Ok_some h
      exact hL11 v26 v27 s25 h
    replace h := Ok_t c h
    refine G_iload_n d_Md_work_61 rfl 4 rfl ?_
    refine G_goto (tgt := 83) d_Md_work_62 (by decide) ?_
    refine sm_35 d_Md_work_83 (Ok_ld h).1 (fun s28 e => ?_)
    replace h := (Ok_ld h).2 s28 e
    clear e
    refine G_iinc d_Md_work_84 6 rfl lt_iconst_1 rfl (Nat.le_of_ble_eq_true rfl) (fun x => [(5, .int x), (7, .int v3), (0, .ref (ad 0)), (1, .int x1), (2, .int x2), (3, .int x3), (4, .int x4), (6, .int x6)]) (fun _ => rfl) (fun v29 e => ?_)
    replace h := Ok_bnd h v29 e
    clear e
    refine G_goto (tgt := 205) d_Md_work_87 (by decide) ?_
    refine G_iinc d_Md_work_205 7 rfl lt_iconst_1 rfl (Nat.le_of_ble_eq_true rfl) (fun x => [(6, .int x), (5, .int v29), (7, .int v3), (0, .ref (ad 0)), (1, .int x1), (2, .int x2), (3, .int x3), (4, .int x4)]) (fun _ => rfl) (fun v30 e => ?_)
    replace h := Ok_bnd h v30 e
    clear e
    refine G_goto (tgt := 11) d_Md_work_208 (by decide) ?_
    refine G_lv [3, 4, 5, 6, 7, 1, 0] rfl ?_
    replace h := Ok_some h
    exact hL11 v29 v30 s28 h
  replace h := Ok_t c h
  refine G_iload_n d_Md_work_51 rfl 3 rfl ?_
  refine G_goto (tgt := 83) d_Md_work_52 (by decide) ?_
  refine sm_35 d_Md_work_83 (Ok_ld h).1 (fun s31 e => ?_)
  replace h := (Ok_ld h).2 s31 e
  clear e
  refine G_iinc d_Md_work_84 6 rfl lt_iconst_1 rfl (Nat.le_of_ble_eq_true rfl) (fun x => [(5, .int x), (7, .int v3), (0, .ref (ad 0)), (1, .int x1), (2, .int x2), (3, .int x3), (4, .int x4), (6, .int x6)]) (fun _ => rfl) (fun v32 e => ?_)
  replace h := Ok_bnd h v32 e
  clear e
  refine G_goto (tgt := 205) d_Md_work_87 (by decide) ?_
  refine G_iinc d_Md_work_205 7 rfl lt_iconst_1 rfl (Nat.le_of_ble_eq_true rfl) (fun x => [(6, .int x), (5, .int v32), (7, .int v3), (0, .ref (ad 0)), (1, .int x1), (2, .int x2), (3, .int x3), (4, .int x4)]) (fun _ => rfl) (fun v33 e => ?_)
  replace h := Ok_bnd h v33 e
  clear e
  refine G_goto (tgt := 11) d_Md_work_208 (by decide) ?_
  refine G_lv [3, 4, 5, 6, 7, 1, 0] rfl ?_
  replace h := Ok_some h
  exact hL11 v32 v33 s31 h
noncomputable def f_Md_work (a1 a2 a3 a4 : Int32) (s : MS) : Option (Int32 × MS) :=
  chk (inb a1 9) (bnd (s.2 31 a1.toNatClampNeg) fun v1 => loop (fun z => Md_work_l11 a1 a2 a3 a4 z.1 z.2.1 z.2.2) ((0 : Int32), v1, s))
theorem f_Md_work_w {l : Launch} {D : va_G} {cI cZ cJ : ClassId} {ad : Nat → Nat} (a1 a2 a3 a4 : Int32) (s : MS) {Q : Int32 → MS → Prop} {Post : (Int32 × MS) → Prop} (hR : ∀ (r9 : Int32) (s9 : MS), Post ((r9, s9)) → Q r9 s9) (h : Ok (f_Md_work a1 a2 a3 a4 s) Post) : G (XM l D cI cZ cJ ad) "SmallHarbourModel" b_Md_work 8 (some .int) 1 0 [(0, .ref (ad 0)), (1, .int a1), (2, .int a2), (3, .int a3), (4, .int a4)] [] s Q := by
  unfold f_Md_work at h
  refine G_iconst d_Md_work_0 lt_iconst_0 ?_
  refine G_istore d_Md_work_1 (Nat.le_of_ble_eq_true rfl) (fun x => [(5, .int x), (0, .ref (ad 0)), (1, .int a1), (2, .int a2), (3, .int a3), (4, .int a4)]) (fun _ => rfl) (fun x e => ?_)
  subst e
  refine G_aload_n d_Md_work_3 rfl 1 rfl ?_
  refine gm_Md_ruleFrom d_Md_work_4 w_892 ?_
  refine G_iload_n d_Md_work_7 rfl 2 rfl ?_
  refine lm_31 d_Md_work_8 (Ok_ld h).1 (fun v1 e => ?_)
  replace h := (Ok_ld h).2 v1 e
  clear e
  refine G_istore d_Md_work_9 (Nat.le_of_ble_eq_true rfl) (fun x => [(6, .int x), (5, .int (0 : Int32)), (0, .ref (ad 0)), (1, .int a1), (2, .int a2), (3, .int a3), (4, .int a4)]) (fun _ => rfl) (fun x e => ?_)
  subst e
  refine G_lv [2, 3, 4, 5, 6, 1, 0] rfl ?_
  refine G_loop (J := (fun z => G (XM l D cI cZ cJ ad) "SmallHarbourModel" b_Md_work 8 (some .int) 1 11 [(0, .ref (ad 0)), (1, .int a1), (2, .int a2), (3, .int a3), (4, .int a4), (5, .int (z.1)), (6, .int (z.2.1))] [] z.2.2 Q)) (fun z h => ?_) ((0 : Int32), v1, s) h
  refine Md_work_l11_w a1 a2 a3 a4 z.1 z.2.1 z.2.2 ?_ ?_ h
  · exact hR
  · exact (fun z5 z6 s9 h => h)
theorem c_Md_work {l : Launch} {D : va_G} {cI cZ cJ : ClassId} {ad : Nat → Nat} (a1 a2 a3 a4 : Int32) (s : MS) {P : Int32 → MS → Prop} (h : Ok2 (f_Md_work a1 a2 a3 a4 s) P) : Ct (XM l D cI cZ cJ ad) y_Md_work b_Md_work 8 (some .int) 1 [.ref (ad 0), .int a1, .int a2, .int a3, .int a4] s (P) :=
  Ct.of mi_Md_work (Nat.le_of_ble_eq_true rfl) (f_Md_work_w a1 a2 a3 a4 s (Post := fun q => P q.1 q.2) (fun _ _ h => h) (Ok2_ok h))
