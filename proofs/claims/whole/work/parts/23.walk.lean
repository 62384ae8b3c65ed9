-- Md_lifted
noncomputable def Md_lifted_j143 (x1 x2 x3 t0 t1 : Int32) (s : MS) : Option ((Int32 × Int32 × MS) ⊕ (Int32 × MS)) :=
  chk (inb t1 40) (bnd (pa s 24 t1.toNatClampNeg t0) fun s1 => chk (inb x3 40) (bnd (s1.2 24 x3.toNatClampNeg) fun v2 => if v2 < 0 then (bnd (x3 + (1 : Int32)) fun v3 => some (.inl (x2, v3, s1))) else (chk (inb x3 40) (bnd (s1.2 24 x3.toNatClampNeg) fun v4 => bnd (x3 + (1 : Int32)) fun v5 => some (.inl (v4, v5, s1))))))
theorem Md_lifted_j143_w {l : Launch} {D : va_G} {cI cZ cJ : ClassId} {ad : Nat → Nat} (x1 x2 x3 t0 t1 : Int32) (s : MS) {Q : Int32 → MS → Prop} {Post : ((Int32 × Int32 × MS) ⊕ (Int32 × MS)) → Prop} (hR : ∀ (r9 : Int32) (s9 : MS), Post (.inr ((r9, s9))) → Q r9 s9) (hL20 : ∀ (z2 z3 : Int32) (s9 : MS), Post (.inl (z2, z3, s9)) → G (XM l D cI cZ cJ ad) "SmallHarbourModel" b_Md_lifted 5 (some .int) 1 20 [(0, .ref (ad 0)), (1, .int x1), (2, .int z2), (3, .int z3)] [] s9 Q) (h : Ok (Md_lifted_j143 x1 x2 x3 t0 t1 s) Post) : G (XM l D cI cZ cJ ad) "SmallHarbourModel" b_Md_lifted 5 (some .int) 1 143 [(0, .ref (ad 0)), (1, .int x1), (2, .int x2), (3, .int x3)] [.int t0, .int t1, .ref (ad 25)] s Q := by
  unfold Md_lifted_j143 at h
  refine sm_24 d_Md_lifted_143 (Ok_ld h).1 (fun s1 e => ?_)
  replace h := (Ok_ld h).2 s1 e
  clear e
  refine G_aload_n d_Md_lifted_144 rfl 0 rfl ?_
  refine gm_Md_liftDay d_Md_lifted_145 w_876 ?_
  refine G_iload_n d_Md_lifted_148 rfl 3 rfl ?_
  refine lm_24 d_Md_lifted_149 (Ok_ld h).1 (fun v2 e => ?_)
  replace h := (Ok_ld h).2 v2 e
  clear e
  refine G_if_lt (tgt := 160) d_Md_lifted_150 (by decide) (fun c => ?_) (fun c => ?_)
  · replace h := Ok_t c h
    refine G_iinc d_Md_lifted_160 3 rfl lt_iconst_1 rfl (Nat.le_of_ble_eq_true rfl) (fun x => [(3, .int x), (0, .ref (ad 0)), (1, .int x1), (2, .int x2)]) (fun _ => rfl) (fun v3 e => ?_)
    replace h := Ok_bnd h v3 e
    clear e
    refine G_goto (tgt := 20) d_Md_lifted_163 (by decide) ?_
    refine G_lv [1, 2, 3, 0] rfl ?_
    exact hL20 x2 v3 s1 (Ok_some h)
  replace h := Ok_f c h
  refine G_aload_n d_Md_lifted_153 rfl 0 rfl ?_
  refine gm_Md_liftDay d_Md_lifted_154 w_876 ?_
  refine G_iload_n d_Md_lifted_157 rfl 3 rfl ?_
  refine lm_24 d_Md_lifted_158 (Ok_ld h).1 (fun v4 e => ?_)
  replace h := (Ok_ld h).2 v4 e
  clear e
  refine G_istore_n d_Md_lifted_159 rfl (Nat.le_of_ble_eq_true rfl) (fun x => [(2, .int x), (0, .ref (ad 0)), (1, .int x1), (3, .int x3)]) (fun _ => rfl) (fun x e => ?_)
  subst e
  refine G_iinc d_Md_lifted_160 3 rfl lt_iconst_1 rfl (Nat.le_of_ble_eq_true rfl) (fun x => [(3, .int x), (2, .int v4), (0, .ref (ad 0)), (1, .int x1)]) (fun _ => rfl) (fun v5 e => ?_)
  replace h := Ok_bnd h v5 e
  clear e
  refine G_goto (tgt := 20) d_Md_lifted_163 (by decide) ?_
  refine G_lv [2, 3, 1, 0] rfl ?_
  exact hL20 v4 v5 s1 (Ok_some h)
noncomputable def Md_lifted_j142 (x1 x2 x3 t0 : Int32) (s : MS) : Option ((Int32 × Int32 × MS) ⊕ (Int32 × MS)) :=
  Md_lifted_j143 x1 x2 x3 (-1 : Int32) t0 s
theorem Md_lifted_j142_w {l : Launch} {D : va_G} {cI cZ cJ : ClassId} {ad : Nat → Nat} (x1 x2 x3 t0 : Int32) (s : MS) {Q : Int32 → MS → Prop} {Post : ((Int32 × Int32 × MS) ⊕ (Int32 × MS)) → Prop} (hR : ∀ (r9 : Int32) (s9 : MS), Post (.inr ((r9, s9))) → Q r9 s9) (hL20 : ∀ (z2 z3 : Int32) (s9 : MS), Post (.inl (z2, z3, s9)) → G (XM l D cI cZ cJ ad) "SmallHarbourModel" b_Md_lifted 5 (some .int) 1 20 [(0, .ref (ad 0)), (1, .int x1), (2, .int z2), (3, .int z3)] [] s9 Q) (h : Ok (Md_lifted_j142 x1 x2 x3 t0 s) Post) : G (XM l D cI cZ cJ ad) "SmallHarbourModel" b_Md_lifted 5 (some .int) 1 142 [(0, .ref (ad 0)), (1, .int x1), (2, .int x2), (3, .int x3)] [.int t0, .ref (ad 25)] s Q := by
  unfold Md_lifted_j142 at h
  refine G_iconst d_Md_lifted_142 lt_iconst_m1 ?_
  exact Md_lifted_j143_w x1 x2 x3 (-1 : Int32) t0 s hR hL20 h
noncomputable def Md_lifted_j106 (x1 x2 x3 x4 : Int32) (s : MS) : Option ((Int32 × Int32 × MS) ⊕ (Int32 × MS)) :=
  if (400 : Int32) ≤ x4 then (Md_lifted_j142 x1 x2 x3 x3 s) else (chk (inb x3 40) (bnd (s.2 21 x3.toNatClampNeg) fun v1 => chk (inb v1 30) (bnd (s.2 5 v1.toNatClampNeg) fun v2 => if (s.1 13) < v2 then (Md_lifted_j142 x1 x2 x3 x3 s) else (Md_lifted_j143 x1 x2 x3 x4 x3 s))))
theorem Md_lifted_j106_w {l : Launch} {D : va_G} {cI cZ cJ : ClassId} {ad : Nat → Nat} (x1 x2 x3 x4 : Int32) (s : MS) {Q : Int32 → MS → Prop} {Post : ((Int32 × Int32 × MS) ⊕ (Int32 × MS)) → Prop} (hR : ∀ (r9 : Int32) (s9 : MS), Post (.inr ((r9, s9))) → Q r9 s9) (hL20 : ∀ (z2 z3 : Int32) (s9 : MS), Post (.inl (z2, z3, s9)) → G (XM l D cI cZ cJ ad) "SmallHarbourModel" b_Md_lifted 5 (some .int) 1 20 [(0, .ref (ad 0)), (1, .int x1), (2, .int z2), (3, .int z3)] [] s9 Q) (h : Ok (Md_lifted_j106 x1 x2 x3 x4 s) Post) : G (XM l D cI cZ cJ ad) "SmallHarbourModel" b_Md_lifted 5 (some .int) 1 106 [(0, .ref (ad 0)), (1, .int x1), (2, .int x2), (3, .int x3), (4, .int x4)] [] s Q := by
  unfold Md_lifted_j106 at h
  refine G_aload_n d_Md_lifted_106 rfl 0 rfl ?_
  refine gm_Md_liftDay d_Md_lifted_107 w_876 ?_
  refine G_iload_n d_Md_lifted_110 rfl 3 rfl ?_
  refine G_iload d_Md_lifted_111 4 rfl ?_
  refine G_sipush d_Md_lifted_113 lt_sipush_400 ?_
  refine G_icmp_ge (tgt := 142) d_Md_lifted_116 (by decide) (fun c => ?_) (fun c => ?_)
  · replace h := Ok_t c h
    refine G_lv [0, 1, 2, 3] rfl ?_
    exact Md_lifted_j142_w x1 x2 x3 x3 s hR hL20 h
  replace h := Ok_f c h
  refine G_aload_n d_Md_lifted_119 rfl 0 rfl ?_
  refine gm_Md_weight d_Md_lifted_120 w_844 ?_
  refine G_aload_n d_Md_lifted_123 rfl 0 rfl ?_
  refine gm_Md_liftBoat d_Md_lifted_124 w_873 ?_
  refine G_iload_n d_Md_lifted_127 rfl 3 rfl ?_
  refine lm_21 d_Md_lifted_128 (Ok_ld h).1 (fun v1 e => ?_)
  replace h := (Ok_ld h).2 v1 e
  clear e
  refine lm_5 d_Md_lifted_129 (Ok_ld h).1 (fun v2 e => ?_)
  replace h := (Ok_ld h).2 v2 e
  clear e
  refine G_aload_n d_Md_lifted_130 rfl 0 rfl ?_
  refine gm_Md_mostWeight d_Md_lifted_131 w_869 ?_
  refine G_icmp_gt (tgt := 142) d_Md_lifted_134 (by decide) (fun c => ?_) (fun c => ?_)
  · replace h := Ok_t c h
    refine G_lv [0, 1, 2, 3] rfl ?_
    exact Md_lifted_j142_w x1 x2 x3 x3 s hR hL20 h
  replace h := Ok_f c h
  refine G_iload d_Md_lifted_137 4 rfl ?_
  refine G_goto (tgt := 143) d_Md_lifted_139 (by decide) ?_
  refine G_lv [0, 1, 2, 3] rfl ?_
  exact Md_lifted_j143_w x1 x2 x3 x4 x3 s hR hL20 h
noncomputable def Md_lifted_l47 (x1 x2 x3 : Int32) (s : MS) (x4 : Int32) : Option ((Int32) ⊕ ((Int32 × Int32 × MS) ⊕ (Int32 × MS))) :=
  if (400 : Int32) ≤ x4 then (xit (Md_lifted_j106 x1 x2 x3 x4 s)) else (chk (inb x4 400) (bnd (s.2 20 x4.toNatClampNeg) fun v1 => if v1 = 0 then (chk (decide (¬ (s.1 0) = 0)) (chk (inb (x4 - x4 / (s.1 0) * (s.1 0)) 30) (bnd (s.2 0 (x4 - x4 / (s.1 0) * (s.1 0)).toNatClampNeg) fun v3 => if v3 < (s.1 12) then (bnd (x4 + (1 : Int32)) fun v4 => some (.inl v4)) else ((f_Md_left x4 x3 s).bind fun v5 => chk (inb x3 40) (bnd (s.2 23 x3.toNatClampNeg) fun v6 => if v6 ≤ v5 then (xit (Md_lifted_j106 x1 x2 x3 x4 s)) else (bnd (x4 + (1 : Int32)) fun v7 => some (.inl v7))))))) else (bnd (x4 + (1 : Int32)) fun v2 => some (.inl v2))))
theorem Md_lifted_l47_w {l : Launch} {D : va_G} {cI cZ cJ : ClassId} {ad : Nat → Nat} (x1 x2 x3 x4 : Int32) (s : MS) {Q : Int32 → MS → Prop} {Post : ((Int32) ⊕ ((Int32 × Int32 × MS) ⊕ (Int32 × MS))) → Prop} (hR : ∀ (r9 : Int32) (s9 : MS), Post (.inr (.inr ((r9, s9)))) → Q r9 s9) (hL20 : ∀ (z2 z3 : Int32) (s9 : MS), Post (.inr (.inl (z2, z3, s9))) → G (XM l D cI cZ cJ ad) "SmallHarbourModel" b_Md_lifted 5 (some .int) 1 20 [(0, .ref (ad 0)), (1, .int x1), (2, .int z2), (3, .int z3)] [] s9 Q) (hL47 : ∀ (z4 : Int32) , Post (.inl z4) → G (XM l D cI cZ cJ ad) "SmallHarbourModel" b_Md_lifted 5 (some .int) 1 47 [(0, .ref (ad 0)), (1, .int x1), (2, .int x2), (3, .int x3), (4, .int z4)] [] s Q) (h : Ok (Md_lifted_l47 x1 x2 x3 s x4) Post) : G (XM l D cI cZ cJ ad) "SmallHarbourModel" b_Md_lifted 5 (some .int) 1 47 [(0, .ref (ad 0)), (1, .int x1), (2, .int x2), (3, .int x3), (4, .int x4)] [] s Q := by
  unfold Md_lifted_l47 at h
  refine G_iload d_Md_lifted_47 4 rfl ?_
  refine G_sipush d_Md_lifted_49 lt_sipush_400 ?_
  refine G_icmp_ge (tgt := 106) d_Md_lifted_52 (by decide) (fun c => ?_) (fun c => ?_)
  · replace h := Ok_t c h
    replace h := Ok_xit h
    exact Md_lifted_j106_w x1 x2 x3 x4 s hR hL20 h
  replace h := Ok_f c h
  refine G_aload_n d_Md_lifted_55 rfl 0 rfl ?_
  refine gm_Md_broken d_Md_lifted_56 w_871 ?_
  refine G_iload d_Md_lifted_59 4 rfl ?_
  refine lm_20 d_Md_lifted_61 (Ok_ld h).1 (fun v1 e => ?_)
  replace h := (Ok_ld h).2 v1 e
  clear e
  refine G_if_ne (tgt := 100) d_Md_lifted_62 (by decide) (fun c => ?_) (fun c => ?_)
  · replace h := Ok_f c h
    refine G_iinc d_Md_lifted_100 4 rfl lt_iconst_1 rfl (Nat.le_of_ble_eq_true rfl) (fun x => [(4, .int x), (0, .ref (ad 0)), (1, .int x1), (2, .int x2), (3, .int x3)]) (fun _ => rfl) (fun v2 e => ?_)
    replace h := Ok_bnd h v2 e
    clear e
    refine G_goto (tgt := 47) d_Md_lifted_103 (by decide) ?_
    refine G_lv [1, 2, 3, 4, 0] rfl ?_
    exact hL47 v2 (Ok_some h)
  replace h := Ok_t c h
  refine G_aload_n d_Md_lifted_65 rfl 0 rfl ?_
  refine gm_Md_level d_Md_lifted_66 w_837 ?_
  refine G_iload d_Md_lifted_69 4 rfl ?_
  refine G_aload_n d_Md_lifted_71 rfl 0 rfl ?_
  refine gm_Md_levels d_Md_lifted_72 w_836 ?_
  refine G_irem d_Md_lifted_75 (of_decide_eq_true (Ok_chk h).1) ?_
  replace h := (Ok_chk h).2
  refine lm_0 d_Md_lifted_76 (Ok_ld h).1 (fun v3 e => ?_)
  replace h := (Ok_ld h).2 v3 e
  clear e
  refine G_aload_n d_Md_lifted_77 rfl 0 rfl ?_
  refine gm_Md_leastLevel d_Md_lifted_78 w_868 ?_
  refine G_icmp_lt (tgt := 100) d_Md_lifted_81 (by decide) (fun c => ?_) (fun c => ?_)
  · replace h := Ok_t c h
    refine G_iinc d_Md_lifted_100 4 rfl lt_iconst_1 rfl (Nat.le_of_ble_eq_true rfl) (fun x => [(4, .int x), (0, .ref (ad 0)), (1, .int x1), (2, .int x2), (3, .int x3)]) (fun _ => rfl) (fun v4 e => ?_)
    replace h := Ok_bnd h v4 e
    clear e
    refine G_goto (tgt := 47) d_Md_lifted_103 (by decide) ?_
    refine G_lv [1, 2, 3, 4, 0] rfl ?_
    exact hL47 v4 (Ok_some h)
  replace h := Ok_f c h
  refine G_aload_n d_Md_lifted_84 rfl 0 rfl ?_
  refine G_iload d_Md_lifted_85 4 rfl ?_
  refine G_iload_n d_Md_lifted_87 rfl 3 rfl ?_
  refine G_callVp (st := []) (As := [.int x4, .int x3]) (b := ad 0) d_Md_lifted_88 mi_Md_left w_1200 0 rfl rfl mv_Md_left rfl (Nat.le_of_ble_eq_true rfl) (by decide) (c_Md_left x4 x3 s (Ok_bind h)) (fun v5 h hnv5 => ?_)
  refine G_aload_n d_Md_lifted_91 rfl 0 rfl ?_
  refine gm_Md_liftMinutes d_Md_lifted_92 w_875 ?_
  refine G_iload_n d_Md_lifted_95 rfl 3 rfl ?_
  refine lm_23 d_Md_lifted_96 (Ok_ld h).1 (fun v6 e => ?_)
  replace h := (Ok_ld h).2 v6 e
  clear e
  refine G_icmp_ge (tgt := 106) d_Md_lifted_97 (by decide) (fun c => ?_) (fun c => ?_)
  · replace h := Ok_t c h
    replace h := Ok_xit h
    exact Md_lifted_j106_w x1 x2 x3 x4 s hR hL20 h
  replace h := Ok_f c h
  refine G_iinc d_Md_lifted_100 4 rfl lt_iconst_1 rfl (Nat.le_of_ble_eq_true rfl) (fun x => [(4, .int x), (0, .ref (ad 0)), (1, .int x1), (2, .int x2), (3, .int x3)]) (fun _ => rfl) (fun v7 e => ?_)
  replace h := Ok_bnd h v7 e
  clear e
  refine G_goto (tgt := 47) d_Md_lifted_103 (by decide) ?_
  refine G_lv [1, 2, 3, 4, 0] rfl ?_
  exact hL47 v7 (Ok_some h)
noncomputable def Md_lifted_l20 (x1 : Int32) (x2 x3 : Int32) (s : MS) : Option ((Int32 × Int32 × MS) ⊕ (Int32 × MS)) :=
  if x1 < x3 then (xit (chk (inb x1 40) (bnd (s.2 24 x1.toNatClampNeg) fun v1 => some (v1, s)))) else (chk (inb x3 40) (bnd (s.2 22 x3.toNatClampNeg) fun v2 => if x2 ≤ v2 then (chk (inb x3 40) (bnd (s.2 22 x3.toNatClampNeg) fun v3 => loop (fun z => Md_lifted_l47 x1 x2 x3 s z) v3)) else (loop (fun z => Md_lifted_l47 x1 x2 x3 s z) x2)))
theorem Md_lifted_l20_w {l : Launch} {D : va_G} {cI cZ cJ : ClassId} {ad : Nat → Nat} (x1 x2 x3 : Int32) (s : MS) {Q : Int32 → MS → Prop} {Post : ((Int32 × Int32 × MS) ⊕ (Int32 × MS)) → Prop} (hR : ∀ (r9 : Int32) (s9 : MS), Post (.inr ((r9, s9))) → Q r9 s9) (hL20 : ∀ (z2 z3 : Int32) (s9 : MS), Post (.inl (z2, z3, s9)) → G (XM l D cI cZ cJ ad) "SmallHarbourModel" b_Md_lifted 5 (some .int) 1 20 [(0, .ref (ad 0)), (1, .int x1), (2, .int z2), (3, .int z3)] [] s9 Q) (h : Ok (Md_lifted_l20 x1 x2 x3 s) Post) : G (XM l D cI cZ cJ ad) "SmallHarbourModel" b_Md_lifted 5 (some .int) 1 20 [(0, .ref (ad 0)), (1, .int x1), (2, .int x2), (3, .int x3)] [] s Q := by
  unfold Md_lifted_l20 at h
  refine G_iload_n d_Md_lifted_20 rfl 3 rfl ?_
  refine G_iload_n d_Md_lifted_21 rfl 1 rfl ?_
  refine G_icmp_gt (tgt := 166) d_Md_lifted_22 (by decide) (fun c => ?_) (fun c => ?_)
  · replace h := Ok_t c h
    replace h := Ok_xit h
    refine G_aload_n d_Md_lifted_166 rfl 0 rfl ?_
    refine gm_Md_liftDay d_Md_lifted_167 w_876 ?_
    refine G_iload_n d_Md_lifted_170 rfl 1 rfl ?_
    refine lm_24 d_Md_lifted_171 (Ok_ld h).1 (fun v1 e => ?_)
    replace h := (Ok_ld h).2 v1 e
    clear e
    exact G_iret rfl (vp_nar_int _) d_Md_lifted_172 (hR _ _ (Ok_some h))
  replace h := Ok_f c h
  refine G_aload_n d_Md_lifted_25 rfl 0 rfl ?_
  refine gm_Md_liftFrom d_Md_lifted_26 w_874 ?_
  refine G_iload_n d_Md_lifted_29 rfl 3 rfl ?_
  refine lm_22 d_Md_lifted_30 (Ok_ld h).1 (fun v2 e => ?_)
  replace h := (Ok_ld h).2 v2 e
  clear e
  refine G_iload_n d_Md_lifted_31 rfl 2 rfl ?_
  refine G_icmp_ge (tgt := 39) d_Md_lifted_32 (by decide) (fun c => ?_) (fun c => ?_)
  · replace h := Ok_t c h
    refine G_aload_n d_Md_lifted_39 rfl 0 rfl ?_
    refine gm_Md_liftFrom d_Md_lifted_40 w_874 ?_
    refine G_iload_n d_Md_lifted_43 rfl 3 rfl ?_
    refine lm_22 d_Md_lifted_44 (Ok_ld h).1 (fun v3 e => ?_)
    replace h := (Ok_ld h).2 v3 e
    clear e
    refine G_istore d_Md_lifted_45 (Nat.le_of_ble_eq_true rfl) (fun x => [(4, .int x), (0, .ref (ad 0)), (1, .int x1), (2, .int x2), (3, .int x3)]) (fun _ => rfl) (fun x e => ?_)
    subst e
    refine G_lv [1, 2, 3, 4, 0] rfl ?_
    exact G_loop (J := (fun z => G (XM l D cI cZ cJ ad) "SmallHarbourModel" b_Md_lifted 5 (some .int) 1 47 [(0, .ref (ad 0)), (1, .int x1), (2, .int x2), (3, .int x3), (4, .int z)] [] s Q)) (fun z h => Md_lifted_l47_w x1 x2 x3 z s (Post := Sum.elim (fun z => G (XM l D cI cZ cJ ad) "SmallHarbourModel" b_Md_lifted 5 (some .int) 1 47 [(0, .ref (ad 0)), (1, .int x1), (2, .int x2), (3, .int x3), (4, .int z)] [] s Q) _) hR hL20 (fun z4 h => h) h) v3 h
  replace h := Ok_f c h
  refine G_iload_n d_Md_lifted_35 rfl 2 rfl ?_
  refine G_goto (tgt := 45) d_Md_lifted_36 (by decide) ?_
  refine G_istore d_Md_lifted_45 (Nat.le_of_ble_eq_true rfl) (fun x => [(4, .int x), (0, .ref (ad 0)), (1, .int x1), (2, .int x2), (3, .int x3)]) (fun _ => rfl) (fun x e => ?_)
  subst e
  refine G_lv [1, 2, 3, 4, 0] rfl ?_
  exact G_loop (J := (fun z => G (XM l D cI cZ cJ ad) "SmallHarbourModel" b_Md_lifted 5 (some .int) 1 47 [(0, .ref (ad 0)), (1, .int x1), (2, .int x2), (3, .int x3), (4, .int z)] [] s Q)) (fun z h => Md_lifted_l47_w x1 x2 x3 z s (Post := Sum.elim (fun z => G (XM l D cI cZ cJ ad) "SmallHarbourModel" b_Md_lifted 5 (some .int) 1 47 [(0, .ref (ad 0)), (1, .int x1), (2, .int x2), (3, .int x3), (4, .int z)] [] s Q) _) hR hL20 (fun z4 h => h) h) x2 h
noncomputable def f_Md_lifted (a1 : Int32) (s : MS) : Option (Int32 × MS) :=
  (f_Md_isIn a1 (0 : Int32) ((s.1 15) - (1 : Int32))).bind fun v1 => if v1 = 0 then (some ((-1 : Int32), s)) else (loop (fun z => Md_lifted_l20 a1 z.1 z.2.1 z.2.2) ((0 : Int32), (0 : Int32), s))
theorem f_Md_lifted_w {l : Launch} {D : va_G} {cI cZ cJ : ClassId} {ad : Nat → Nat} (a1 : Int32) (s : MS) {Q : Int32 → MS → Prop} {Post : (Int32 × MS) → Prop} (hR : ∀ (r9 : Int32) (s9 : MS), Post ((r9, s9)) → Q r9 s9) (h : Ok (f_Md_lifted a1 s) Post) : G (XM l D cI cZ cJ ad) "SmallHarbourModel" b_Md_lifted 5 (some .int) 1 0 [(0, .ref (ad 0)), (1, .int a1)] [] s Q := by
  unfold f_Md_lifted at h
  refine G_iload_n d_Md_lifted_0 rfl 1 rfl ?_
  refine G_iconst d_Md_lifted_1 lt_iconst_0 ?_
  refine G_aload_n d_Md_lifted_2 rfl 0 rfl ?_
  refine gm_Md_lifts d_Md_lifted_3 w_872 ?_
  refine G_iconst d_Md_lifted_6 lt_iconst_1 ?_
  refine G_isub d_Md_lifted_7 ?_
  refine G_callSp (st := []) (As := [.int a1, .int (0 : Int32), .int ((s.1 15) - (1 : Int32))]) d_Md_lifted_8 mi_Md_isIn w_1045 w_1046 rfl (Nat.le_of_ble_eq_true rfl) (by decide) (c_Md_isIn a1 (0 : Int32) ((s.1 15) - (1 : Int32)) s (Ok_bind h)) (fun v1 h hnv1 => ?_)
  refine G_if_ne (tgt := 16) d_Md_lifted_11 (by decide) (fun c => ?_) (fun c => ?_)
  · replace h := Ok_f c h
    refine G_iconst d_Md_lifted_16 lt_iconst_0 ?_
    refine G_istore_n d_Md_lifted_17 rfl (Nat.le_of_ble_eq_true rfl) (fun x => [(2, .int x), (0, .ref (ad 0)), (1, .int a1)]) (fun _ => rfl) (fun x e => ?_)
    subst e
    refine G_iconst d_Md_lifted_18 lt_iconst_0 ?_
    refine G_istore_n d_Md_lifted_19 rfl (Nat.le_of_ble_eq_true rfl) (fun x => [(3, .int x), (2, .int (0 : Int32)), (0, .ref (ad 0)), (1, .int a1)]) (fun _ => rfl) (fun x e => ?_)
    subst e
    refine G_lv [2, 3, 1, 0] rfl ?_
    exact G_loop (J := (fun z => G (XM l D cI cZ cJ ad) "SmallHarbourModel" b_Md_lifted 5 (some .int) 1 20 [(0, .ref (ad 0)), (1, .int a1), (2, .int (z.1)), (3, .int (z.2.1))] [] z.2.2 Q)) (fun z h => Md_lifted_l20_w a1 z.1 z.2.1 z.2.2 (Post := Sum.elim (fun z => G (XM l D cI cZ cJ ad) "SmallHarbourModel" b_Md_lifted 5 (some .int) 1 20 [(0, .ref (ad 0)), (1, .int a1), (2, .int (z.1)), (3, .int (z.2.1))] [] z.2.2 Q) _) hR (fun z2 z3 s9 h => h) h) ((0 : Int32), (0 : Int32), s) h
  replace h := Ok_t c h
  refine G_iconst d_Md_lifted_14 lt_iconst_m1 ?_
  exact G_iret rfl (vp_nar_int _) d_Md_lifted_15 (hR _ _ (Ok_some h))
theorem c_Md_lifted {l : Launch} {D : va_G} {cI cZ cJ : ClassId} {ad : Nat → Nat} (a1 : Int32) (s : MS) {P : Int32 → MS → Prop} (h : Ok2 (f_Md_lifted a1 s) P) : Ct (XM l D cI cZ cJ ad) y_Md_lifted b_Md_lifted 5 (some .int) 1 [.ref (ad 0), .int a1] s (P) :=
  Ct.of mi_Md_lifted (Nat.le_of_ble_eq_true rfl) (f_Md_lifted_w a1 s (Post := fun q => P q.1 q.2) (fun _ _ h => h) (Ok2_ok h))
-- Md_moved
noncomputable def f_Md_moved (a1 a2 : Int32) (s : MS) : Option Int32 :=
  (f_Md_isIn a1 (0 : Int32) ((s.1 11) - (1 : Int32))).bind fun v1 => if v1 = 0 then (some (-1 : Int32)) else (if a2 = 0 then (chk (inb a1 12) (bnd (s.2 17 a1.toNatClampNeg) fun v4 => some v4)) else (if a2 = (1 : Int32) then (chk (inb a1 12) (bnd (s.2 18 a1.toNatClampNeg) fun v3 => some v3)) else (if a2 = (2 : Int32) then (chk (inb a1 12) (bnd (s.2 19 a1.toNatClampNeg) fun v2 => some v2)) else (some (-1 : Int32)))))
theorem f_Md_moved_w {l : Launch} {D : va_G} {cI cZ cJ : ClassId} {ad : Nat → Nat} (a1 a2 : Int32) (s : MS) {Q : Int32 → MS → Prop} {Post : Int32 → Prop} (hR : ∀ (r9 : Int32), Post (r9) → Q r9 s) (h : Ok (f_Md_moved a1 a2 s) Post) : G (XM l D cI cZ cJ ad) "SmallHarbourModel" b_Md_moved 3 (some .int) 1 0 [(0, .ref (ad 0)), (1, .int a1), (2, .int a2)] [] s Q := by
  unfold f_Md_moved at h
  refine G_iload_n d_Md_moved_0 rfl 1 rfl ?_
  refine G_iconst d_Md_moved_1 lt_iconst_0 ?_
  refine G_aload_n d_Md_moved_2 rfl 0 rfl ?_
  refine gm_Md_moves d_Md_moved_3 w_864 ?_
  refine G_iconst d_Md_moved_6 lt_iconst_1 ?_
  refine G_isub d_Md_moved_7 ?_
  refine G_callSp (st := []) (As := [.int a1, .int (0 : Int32), .int ((s.1 11) - (1 : Int32))]) d_Md_moved_8 mi_Md_isIn w_1045 w_1046 rfl (Nat.le_of_ble_eq_true rfl) (by decide) (c_Md_isIn a1 (0 : Int32) ((s.1 11) - (1 : Int32)) s (Ok_bind h)) (fun v1 h hnv1 => ?_)
  refine G_if_ne (tgt := 16) d_Md_moved_11 (by decide) (fun c => ?_) (fun c => ?_)
  · replace h := Ok_f c h
    refine G_iload_n d_Md_moved_16 rfl 2 rfl ?_
    refine G_if_ne (tgt := 29) d_Md_moved_17 (by decide) (fun c => ?_) (fun c => ?_)
    · replace h := Ok_f c h
      refine G_iload_n d_Md_moved_29 rfl 2 rfl ?_
      refine G_iconst d_Md_moved_30 lt_iconst_1 ?_
      refine G_icmp_ne (tgt := 43) d_Md_moved_31 (by decide) (fun c => ?_) (fun c => ?_)
      · replace h := Ok_f c h
        refine G_iload_n d_Md_moved_43 rfl 2 rfl ?_
        refine G_iconst d_Md_moved_44 lt_iconst_2 ?_
        refine G_icmp_ne (tgt := 57) d_Md_moved_45 (by decide) (fun c => ?_) (fun c => ?_)
        · replace h := Ok_f c h
          refine G_iconst d_Md_moved_57 lt_iconst_m1 ?_
          exact G_iret rfl (vp_nar_int _) d_Md_moved_58 (hR _ (Ok_some h))
        replace h := Ok_t c h
        refine G_aload_n d_Md_moved_48 rfl 0 rfl ?_
        refine gm_Md_movedNow d_Md_moved_49 w_867 ?_
        refine G_iload_n d_Md_moved_52 rfl 1 rfl ?_
        refine lm_19 d_Md_moved_53 (Ok_ld h).1 (fun v2 e => ?_)
        replace h := (Ok_ld h).2 v2 e
        clear e
        refine G_goto (tgt := 58) d_Md_moved_54 (by decide) ?_
        exact G_iret rfl (vp_nar_int _) d_Md_moved_58 (hR _ (Ok_some h))
      replace h := Ok_t c h
      refine G_aload_n d_Md_moved_34 rfl 0 rfl ?_
      refine gm_Md_movedBerth d_Md_moved_35 w_866 ?_
      refine G_iload_n d_Md_moved_38 rfl 1 rfl ?_
      refine lm_18 d_Md_moved_39 (Ok_ld h).1 (fun v3 e => ?_)
      replace h := (Ok_ld h).2 v3 e
      clear e
      refine G_goto (tgt := 58) d_Md_moved_40 (by decide) ?_
      exact G_iret rfl (vp_nar_int _) d_Md_moved_58 (hR _ (Ok_some h))
    replace h := Ok_t c h
    refine G_aload_n d_Md_moved_20 rfl 0 rfl ?_
    refine gm_Md_movedStay d_Md_moved_21 w_865 ?_
    refine G_iload_n d_Md_moved_24 rfl 1 rfl ?_
    refine lm_17 d_Md_moved_25 (Ok_ld h).1 (fun v4 e => ?_)
    replace h := (Ok_ld h).2 v4 e
    clear e
    refine G_goto (tgt := 58) d_Md_moved_26 (by decide) ?_
    exact G_iret rfl (vp_nar_int _) d_Md_moved_58 (hR _ (Ok_some h))
  replace h := Ok_t c h
  refine G_iconst d_Md_moved_14 lt_iconst_m1 ?_
  exact G_iret rfl (vp_nar_int _) d_Md_moved_15 (hR _ (Ok_some h))
theorem c_Md_moved {l : Launch} {D : va_G} {cI cZ cJ : ClassId} {ad : Nat → Nat} (a1 a2 : Int32) (s : MS) {P : Int32 → Prop} (h : Ok (f_Md_moved a1 a2 s) P) : Ct (XM l D cI cZ cJ ad) y_Md_moved b_Md_moved 3 (some .int) 1 [.ref (ad 0), .int a1, .int a2] s (fun r9 s9 => s9 = s ∧ P r9) :=
  Ct.of mi_Md_moved (Nat.le_of_ble_eq_true rfl) (f_Md_moved_w a1 a2 s (fun _ h => ⟨rfl, h⟩) h)
-- Md_moves
noncomputable def f_Md_moves (s : MS) : Option (Int32 × MS) :=
  bd2 (f_Md_fewest s) fun v1 s2 => some (v1, s2)
theorem f_Md_moves_w {l : Launch} {D : va_G} {cI cZ cJ : ClassId} {ad : Nat → Nat} (s : MS) {Q : Int32 → MS → Prop} {Post : (Int32 × MS) → Prop} (hR : ∀ (r9 : Int32) (s9 : MS), Post ((r9, s9)) → Q r9 s9) (h : Ok (f_Md_moves s) Post) : G (XM l D cI cZ cJ ad) "SmallHarbourModel" b_Md_moves 1 (some .int) 2 0 [(0, .ref (ad 0))] [] s Q := by
  unfold f_Md_moves at h
  refine G_aload_n d_Md_moves_0 rfl 0 rfl ?_
  refine G_callVi (st := []) (As := []) (b := ad 0) d_Md_moves_1 mi_Md_fewest w_1216 0 rfl rfl mv_Md_fewest rfl (Nat.le_of_ble_eq_true rfl) (by decide) (c_Md_fewest  s (Ok_bd2 h)) (fun v1 s2 h hnv1 => ?_)
  exact G_iret rfl (vp_nar_int _) d_Md_moves_4 (hR _ _ (Ok_some h))
theorem c_Md_moves {l : Launch} {D : va_G} {cI cZ cJ : ClassId} {ad : Nat → Nat} (s : MS) {P : Int32 → MS → Prop} (h : Ok2 (f_Md_moves  s) P) : Ct (XM l D cI cZ cJ ad) y_Md_moves b_Md_moves 1 (some .int) 2 [.ref (ad 0)] s (P) :=
  Ct.of mi_Md_moves (Nat.le_of_ble_eq_true rfl) (f_Md_moves_w  s (Post := fun q => P q.1 q.2) (fun _ _ h => h) (Ok2_ok h))
-- Md_see
noncomputable def f_Md_see (a1 : Int32) (s : MS) : Option Int32 :=
  if (s.1 19) ≤ a1 then (some (-1 : Int32)) else (chk (inb a1 200) (bnd (s.2 29 a1.toNatClampNeg) fun v1 => some v1))
theorem f_Md_see_w {l : Launch} {D : va_G} {cI cZ cJ : ClassId} {ad : Nat → Nat} (a1 : Int32) (s : MS) {Q : Int32 → MS → Prop} {Post : Int32 → Prop} (hR : ∀ (r9 : Int32), Post (r9) → Q r9 s) (h : Ok (f_Md_see a1 s) Post) : G (XM l D cI cZ cJ ad) "SmallHarbourModel" b_Md_see 2 (some .int) 0 0 [(0, .ref (ad 0)), (1, .int a1)] [] s Q := by
  unfold f_Md_see at h
  refine G_iload_n d_Md_see_0 rfl 1 rfl ?_
  refine G_aload_n d_Md_see_1 rfl 0 rfl ?_
  refine gm_Md_taped d_Md_see_2 w_885 ?_
  refine G_icmp_ge (tgt := 17) d_Md_see_5 (by decide) (fun c => ?_) (fun c => ?_)
  · replace h := Ok_t c h
    refine G_iconst d_Md_see_17 lt_iconst_m1 ?_
    exact G_iret rfl (vp_nar_int _) d_Md_see_18 (hR _ (Ok_some h))
  replace h := Ok_f c h
  refine G_aload_n d_Md_see_8 rfl 0 rfl ?_
  refine gm_Md_tape d_Md_see_9 w_884 ?_
  refine G_iload_n d_Md_see_12 rfl 1 rfl ?_
  refine lm_29 d_Md_see_13 (Ok_ld h).1 (fun v1 e => ?_)
  replace h := (Ok_ld h).2 v1 e
  clear e
  refine G_goto (tgt := 18) d_Md_see_14 (by decide) ?_
  exact G_iret rfl (vp_nar_int _) d_Md_see_18 (hR _ (Ok_some h))
theorem c_Md_see {l : Launch} {D : va_G} {cI cZ cJ : ClassId} {ad : Nat → Nat} (a1 : Int32) (s : MS) {P : Int32 → Prop} (h : Ok (f_Md_see a1 s) P) : Ct (XM l D cI cZ cJ ad) y_Md_see b_Md_see 2 (some .int) 0 [.ref (ad 0), .int a1] s (fun r9 s9 => s9 = s ∧ P r9) :=
  Ct.of mi_Md_see (Nat.le_of_ble_eq_true rfl) (f_Md_see_w a1 s (fun _ h => ⟨rfl, h⟩) h)
-- Md_signOf
noncomputable def f_Md_signOf (a1 : Int32) : Option Int32 :=
  bnd a1 fun v1 => if v1 = (37 : Int32) then (some (14 : Int32)) else (if v1 = (38 : Int32) then (some (17 : Int32)) else (if v1 = (39 : Int32) then (some (17 : Int32)) else (if v1 = (40 : Int32) then (some (8 : Int32)) else (if v1 = (41 : Int32) then (some (9 : Int32)) else (if v1 = (42 : Int32) then (some (12 : Int32)) else (if v1 = (43 : Int32) then (some (10 : Int32)) else (if v1 = (44 : Int32) then (some (17 : Int32)) else (if v1 = (45 : Int32) then (some (11 : Int32)) else (if v1 = (46 : Int32) then (some (17 : Int32)) else (if v1 = (47 : Int32) then (some (13 : Int32)) else (if v1 = (48 : Int32) then (some (17 : Int32)) else (if v1 = (49 : Int32) then (some (17 : Int32)) else (if v1 = (50 : Int32) then (some (17 : Int32)) else (if v1 = (51 : Int32) then (some (17 : Int32)) else (if v1 = (52 : Int32) then (some (17 : Int32)) else (if v1 = (53 : Int32) then (some (17 : Int32)) else (if v1 = (54 : Int32) then (some (17 : Int32)) else (if v1 = (55 : Int32) then (some (17 : Int32)) else (if v1 = (56 : Int32) then (some (17 : Int32)) else (if v1 = (57 : Int32) then (some (17 : Int32)) else (if v1 = (58 : Int32) then (some (17 : Int32)) else (if v1 = (59 : Int32) then (some (17 : Int32)) else (if v1 = (60 : Int32) then (some (15 : Int32)) else (if v1 = (61 : Int32) then (some (16 : Int32)) else (some (17 : Int32))))))))))))))))))))))))))
theorem f_Md_signOf_w {l : Launch} {D : va_G} {cI cZ cJ : ClassId} {ad : Nat → Nat} (a1 : Int32) (s : MS) {Q : Int32 → MS → Prop} {Post : Int32 → Prop} (hR : ∀ (r9 : Int32), Post (r9) → Q r9 s) (h : Ok (f_Md_signOf a1) Post) : G (XM l D cI cZ cJ ad) "SmallHarbourModel" b_Md_signOf 1 (some .int) 0 0 [(0, .int a1)] [] s Q := by
  unfold f_Md_signOf at h
  refine G_iload_n d_Md_signOf_0 rfl 0 rfl ?_
  refine G_topi (fun v1 e => ?_)
  replace h := Ok_bnd h v1 e
  clear e
  by_cases c0 : v1 = (37 : Int32)
  · replace h := Ok_t c0 h
    refine G_tableIn (tgt := 134) d_Md_signOf_1 (by rw [c0]; decide) (by rw [c0]; decide) (by rw [c0]; rfl) (by decide) ?_
    refine G_bipush d_Md_signOf_134 lt_bipush_14 ?_
    exact G_iret rfl (vp_nar_int _) d_Md_signOf_136 (hR _ (Ok_some h))
  replace h := Ok_f c0 h
  have n0 := ne_ti (z := 37) (by decide) c0
  by_cases c1 : v1 = (38 : Int32)
  · replace h := Ok_t c1 h
    refine G_tableIn (tgt := 143) d_Md_signOf_1 (by rw [c1]; decide) (by rw [c1]; decide) (by rw [c1]; rfl) (by decide) ?_
    refine G_bipush d_Md_signOf_143 lt_bipush_17 ?_
    exact G_iret rfl (vp_nar_int _) d_Md_signOf_145 (hR _ (Ok_some h))
  replace h := Ok_f c1 h
  have n1 := ne_ti (z := 38) (by decide) c1
  by_cases c2 : v1 = (39 : Int32)
  · replace h := Ok_t c2 h
    refine G_tableIn (tgt := 143) d_Md_signOf_1 (by rw [c2]; decide) (by rw [c2]; decide) (by rw [c2]; rfl) (by decide) ?_
    refine G_bipush d_Md_signOf_143 lt_bipush_17 ?_
    exact G_iret rfl (vp_nar_int _) d_Md_signOf_145 (hR _ (Ok_some h))
  replace h := Ok_f c2 h
  have n2 := ne_ti (z := 39) (by decide) c2
  by_cases c3 : v1 = (40 : Int32)
  · replace h := Ok_t c3 h
    refine G_tableIn (tgt := 116) d_Md_signOf_1 (by rw [c3]; decide) (by rw [c3]; decide) (by rw [c3]; rfl) (by decide) ?_
    refine G_bipush d_Md_signOf_116 lt_bipush_8 ?_
    exact G_iret rfl (vp_nar_int _) d_Md_signOf_118 (hR _ (Ok_some h))
  replace h := Ok_f c3 h
  have n3 := ne_ti (z := 40) (by decide) c3
  by_cases c4 : v1 = (41 : Int32)
  · replace h := Ok_t c4 h
    refine G_tableIn (tgt := 119) d_Md_signOf_1 (by rw [c4]; decide) (by rw [c4]; decide) (by rw [c4]; rfl) (by decide) ?_
    refine G_bipush d_Md_signOf_119 lt_bipush_9 ?_
    exact G_iret rfl (vp_nar_int _) d_Md_signOf_121 (hR _ (Ok_some h))
  replace h := Ok_f c4 h
  have n4 := ne_ti (z := 41) (by decide) c4
  by_cases c5 : v1 = (42 : Int32)
  · replace h := Ok_t c5 h
    refine G_tableIn (tgt := 128) d_Md_signOf_1 (by rw [c5]; decide) (by rw [c5]; decide) (by rw [c5]; rfl) (by decide) ?_
    refine G_bipush d_Md_signOf_128 lt_bipush_12 ?_
    exact G_iret rfl (vp_nar_int _) d_Md_signOf_130 (hR _ (Ok_some h))
  replace h := Ok_f c5 h
  have n5 := ne_ti (z := 42) (by decide) c5
  by_cases c6 : v1 = (43 : Int32)
  · replace h := Ok_t c6 h
    refine G_tableIn (tgt := 122) d_Md_signOf_1 (by rw [c6]; decide) (by rw [c6]; decide) (by rw [c6]; rfl) (by decide) ?_
    refine G_bipush d_Md_signOf_122 lt_bipush_10 ?_
    exact G_iret rfl (vp_nar_int _) d_Md_signOf_124 (hR _ (Ok_some h))
  replace h := Ok_f c6 h
  have n6 := ne_ti (z := 43) (by decide) c6
  by_cases c7 : v1 = (44 : Int32)
  · replace h := Ok_t c7 h
    refine G_tableIn (tgt := 143) d_Md_signOf_1 (by rw [c7]; decide) (by rw [c7]; decide) (by rw [c7]; rfl) (by decide) ?_
    refine G_bipush d_Md_signOf_143 lt_bipush_17 ?_
    exact G_iret rfl (vp_nar_int _) d_Md_signOf_145 (hR _ (Ok_some h))
  replace h := Ok_f c7 h
  have n7 := ne_ti (z := 44) (by decide) c7
  by_cases c8 : v1 = (45 : Int32)
  · replace h := Ok_t c8 h
    refine G_tableIn (tgt := 125) d_Md_signOf_1 (by rw [c8]; decide) (by rw [c8]; decide) (by rw [c8]; rfl) (by decide) ?_
    refine G_bipush d_Md_signOf_125 lt_bipush_11 ?_
    exact G_iret rfl (vp_nar_int _) d_Md_signOf_127 (hR _ (Ok_some h))
  replace h := Ok_f c8 h
  have n8 := ne_ti (z := 45) (by decide) c8
  by_cases c9 : v1 = (46 : Int32)
  · replace h := Ok_t c9 h
    refine G_tableIn (tgt := 143) d_Md_signOf_1 (by rw [c9]; decide) (by rw [c9]; decide) (by rw [c9]; rfl) (by decide) ?_
    refine G_bipush d_Md_signOf_143 lt_bipush_17 ?_
    exact G_iret rfl (vp_nar_int _) d_Md_signOf_145 (hR _ (Ok_some h))
  replace h := Ok_f c9 h
  have n9 := ne_ti (z := 46) (by decide) c9
  by_cases c10 : v1 = (47 : Int32)
  · replace h := Ok_t c10 h
    refine G_tableIn (tgt := 131) d_Md_signOf_1 (by rw [c10]; decide) (by rw [c10]; decide) (by rw [c10]; rfl) (by decide) ?_
    refine G_bipush d_Md_signOf_131 lt_bipush_13 ?_
    exact G_iret rfl (vp_nar_int _) d_Md_signOf_133 (hR _ (Ok_some h))
  replace h := Ok_f c10 h
  have n10 := ne_ti (z := 47) (by decide) c10
  by_cases c11 : v1 = (48 : Int32)
  · replace h := Ok_t c11 h
    refine G_tableIn (tgt := 143) d_Md_signOf_1 (by rw [c11]; decide) (by rw [c11]; decide) (by rw [c11]; rfl) (by decide) ?_
    refine G_bipush d_Md_signOf_143 lt_bipush_17 ?_
    exact G_iret rfl (vp_nar_int _) d_Md_signOf_145 (hR _ (Ok_some h))
  replace h := Ok_f c11 h
  have n11 := ne_ti (z := 48) (by decide) c11
  by_cases c12 : v1 = (49 : Int32)
  · replace h := Ok_t c12 h
    refine G_tableIn (tgt := 143) d_Md_signOf_1 (by rw [c12]; decide) (by rw [c12]; decide) (by rw [c12]; rfl) (by decide) ?_
    refine G_bipush d_Md_signOf_143 lt_bipush_17 ?_
    exact G_iret rfl (vp_nar_int _) d_Md_signOf_145 (hR _ (Ok_some h))
  replace h := Ok_f c12 h
  have n12 := ne_ti (z := 49) (by decide) c12
  by_cases c13 : v1 = (50 : Int32)
  · replace h := Ok_t c13 h
    refine G_tableIn (tgt := 143) d_Md_signOf_1 (by rw [c13]; decide) (by rw [c13]; decide) (by rw [c13]; rfl) (by decide) ?_
    refine G_bipush d_Md_signOf_143 lt_bipush_17 ?_
    exact G_iret rfl (vp_nar_int _) d_Md_signOf_145 (hR _ (Ok_some h))
  replace h := Ok_f c13 h
  have n13 := ne_ti (z := 50) (by decide) c13
  by_cases c14 : v1 = (51 : Int32)
  · replace h := Ok_t c14 h
    refine G_tableIn (tgt := 143) d_Md_signOf_1 (by rw [c14]; decide) (by rw [c14]; decide) (by rw [c14]; rfl) (by decide) ?_
    refine G_bipush d_Md_signOf_143 lt_bipush_17 ?_
    exact G_iret rfl (vp_nar_int _) d_Md_signOf_145 (hR _ (Ok_some h))
  replace h := Ok_f c14 h
  have n14 := ne_ti (z := 51) (by decide) c14
  by_cases c15 : v1 = (52 : Int32)
  · replace h := Ok_t c15 h
    refine G_tableIn (tgt := 143) d_Md_signOf_1 (by rw [c15]; decide) (by rw [c15]; decide) (by rw [c15]; rfl) (by decide) ?_
    refine G_bipush d_Md_signOf_143 lt_bipush_17 ?_
    exact G_iret rfl (vp_nar_int _) d_Md_signOf_145 (hR _ (Ok_some h))
  replace h := Ok_f c15 h
  have n15 := ne_ti (z := 52) (by decide) c15
  by_cases c16 : v1 = (53 : Int32)
  · replace h := Ok_t c16 h
    refine G_tableIn (tgt := 143) d_Md_signOf_1 (by rw [c16]; decide) (by rw [c16]; decide) (by rw [c16]; rfl) (by decide) ?_
    refine G_bipush d_Md_signOf_143 lt_bipush_17 ?_
    exact G_iret rfl (vp_nar_int _) d_Md_signOf_145 (hR _ (Ok_some h))
  replace h := Ok_f c16 h
  have n16 := ne_ti (z := 53) (by decide) c16
  by_cases c17 : v1 = (54 : Int32)
  · replace h := Ok_t c17 h
    refine G_tableIn (tgt := 143) d_Md_signOf_1 (by rw [c17]; decide) (by rw [c17]; decide) (by rw [c17]; rfl) (by decide) ?_
    refine G_bipush d_Md_signOf_143 lt_bipush_17 ?_
    exact G_iret rfl (vp_nar_int _) d_Md_signOf_145 (hR _ (Ok_some h))
  replace h := Ok_f c17 h
  have n17 := ne_ti (z := 54) (by decide) c17
  by_cases c18 : v1 = (55 : Int32)
  · replace h := Ok_t c18 h
    refine G_tableIn (tgt := 143) d_Md_signOf_1 (by rw [c18]; decide) (by rw [c18]; decide) (by rw [c18]; rfl) (by decide) ?_
    refine G_bipush d_Md_signOf_143 lt_bipush_17 ?_
    exact G_iret rfl (vp_nar_int _) d_Md_signOf_145 (hR _ (Ok_some h))
  replace h := Ok_f c18 h
  have n18 := ne_ti (z := 55) (by decide) c18
  by_cases c19 : v1 = (56 : Int32)
  · replace h := Ok_t c19 h
    refine G_tableIn (tgt := 143) d_Md_signOf_1 (by rw [c19]; decide) (by rw [c19]; decide) (by rw [c19]; rfl) (by decide) ?_
    refine G_bipush d_Md_signOf_143 lt_bipush_17 ?_
    exact G_iret rfl (vp_nar_int _) d_Md_signOf_145 (hR _ (Ok_some h))
  replace h := Ok_f c19 h
  have n19 := ne_ti (z := 56) (by decide) c19
  by_cases c20 : v1 = (57 : Int32)
  · replace h := Ok_t c20 h
    refine G_tableIn (tgt := 143) d_Md_signOf_1 (by rw [c20]; decide) (by rw [c20]; decide) (by rw [c20]; rfl) (by decide) ?_
    refine G_bipush d_Md_signOf_143 lt_bipush_17 ?_
    exact G_iret rfl (vp_nar_int _) d_Md_signOf_145 (hR _ (Ok_some h))
  replace h := Ok_f c20 h
  have n20 := ne_ti (z := 57) (by decide) c20
  by_cases c21 : v1 = (58 : Int32)
  · replace h := Ok_t c21 h
    refine G_tableIn (tgt := 143) d_Md_signOf_1 (by rw [c21]; decide) (by rw [c21]; decide) (by rw [c21]; rfl) (by decide) ?_
    refine G_bipush d_Md_signOf_143 lt_bipush_17 ?_
    exact G_iret rfl (vp_nar_int _) d_Md_signOf_145 (hR _ (Ok_some h))
  replace h := Ok_f c21 h
  have n21 := ne_ti (z := 58) (by decide) c21
  by_cases c22 : v1 = (59 : Int32)
  · replace h := Ok_t c22 h
    refine G_tableIn (tgt := 143) d_Md_signOf_1 (by rw [c22]; decide) (by rw [c22]; decide) (by rw [c22]; rfl) (by decide) ?_
    refine G_bipush d_Md_signOf_143 lt_bipush_17 ?_
    exact G_iret rfl (vp_nar_int _) d_Md_signOf_145 (hR _ (Ok_some h))
  replace h := Ok_f c22 h
  have n22 := ne_ti (z := 59) (by decide) c22
  by_cases c23 : v1 = (60 : Int32)
  · replace h := Ok_t c23 h
    refine G_tableIn (tgt := 137) d_Md_signOf_1 (by rw [c23]; decide) (by rw [c23]; decide) (by rw [c23]; rfl) (by decide) ?_
    refine G_bipush d_Md_signOf_137 lt_bipush_15 ?_
    exact G_iret rfl (vp_nar_int _) d_Md_signOf_139 (hR _ (Ok_some h))
  replace h := Ok_f c23 h
  have n23 := ne_ti (z := 60) (by decide) c23
  by_cases c24 : v1 = (61 : Int32)
  · replace h := Ok_t c24 h
    refine G_tableIn (tgt := 140) d_Md_signOf_1 (by rw [c24]; decide) (by rw [c24]; decide) (by rw [c24]; rfl) (by decide) ?_
    refine G_bipush d_Md_signOf_140 lt_bipush_16 ?_
    exact G_iret rfl (vp_nar_int _) d_Md_signOf_142 (hR _ (Ok_some h))
  replace h := Ok_f c24 h
  have n24 := ne_ti (z := 61) (by decide) c24
  refine G_tableOut (tgt := 143) d_Md_signOf_1 (by omega) (by decide) ?_
  refine G_bipush d_Md_signOf_143 lt_bipush_17 ?_
  exact G_iret rfl (vp_nar_int _) d_Md_signOf_145 (hR _ (Ok_some h))
theorem c_Md_signOf {l : Launch} {D : va_G} {cI cZ cJ : ClassId} {ad : Nat → Nat} (a1 : Int32) (s : MS) {P : Int32 → Prop} (h : Ok (f_Md_signOf a1) P) : Ct (XM l D cI cZ cJ ad) y_Md_signOf b_Md_signOf 1 (some .int) 0 [.int a1] s (fun r9 s9 => s9 = s ∧ P r9) :=
  Ct.of mi_Md_signOf (Nat.le_of_ble_eq_true rfl) (f_Md_signOf_w a1 s (fun _ h => ⟨rfl, h⟩) h)
-- Md_wordOf
noncomputable def f_Md_wordOf (a1 : Int32) : Option Int32 :=
  if a1 = (102 : Int32) then (some (1 : Int32)) else (if a1 = (110 : Int32) then (some (2 : Int32)) else (if a1 = (100 : Int32) then (some (3 : Int32)) else (if a1 = (26982 : Int32) then (some (5 : Int32)) else (if a1 = (1952998766 : Int32) then (some (6 : Int32)) else (if a1 = (1701606245 : Int32) then (some (7 : Int32)) else (some (17 : Int32)))))))
theorem f_Md_wordOf_w {l : Launch} {D : va_G} {cI cZ cJ : ClassId} {ad : Nat → Nat} (a1 : Int32) (s : MS) {Q : Int32 → MS → Prop} {Post : Int32 → Prop} (hR : ∀ (r9 : Int32), Post (r9) → Q r9 s) (h : Ok (f_Md_wordOf a1) Post) : G (XM l D cI cZ cJ ad) "SmallHarbourModel" b_Md_wordOf 1 (some .int) 0 0 [(0, .int a1)] [] s Q := by
  unfold f_Md_wordOf at h
  refine G_iload_n d_Md_wordOf_0 rfl 0 rfl ?_
  refine G_bipush d_Md_wordOf_1 lt_bipush_102 ?_
  refine G_icmp_ne (tgt := 8) d_Md_wordOf_3 (by decide) (fun c => ?_) (fun c => ?_)
  · replace h := Ok_f c h
    refine G_iload_n d_Md_wordOf_8 rfl 0 rfl ?_
    refine G_bipush d_Md_wordOf_9 lt_bipush_110 ?_
    refine G_icmp_ne (tgt := 16) d_Md_wordOf_11 (by decide) (fun c => ?_) (fun c => ?_)
    · replace h := Ok_f c h
      refine G_iload_n d_Md_wordOf_16 rfl 0 rfl ?_
      refine G_bipush d_Md_wordOf_17 lt_bipush_100 ?_
      refine G_icmp_ne (tgt := 24) d_Md_wordOf_19 (by decide) (fun c => ?_) (fun c => ?_)
      · replace h := Ok_f c h
        refine G_iload_n d_Md_wordOf_24 rfl 0 rfl ?_
        refine G_sipush d_Md_wordOf_25 lt_sipush_26982 ?_
        refine G_icmp_ne (tgt := 33) d_Md_wordOf_28 (by decide) (fun c => ?_) (fun c => ?_)
        · replace h := Ok_f c h
          refine G_iload_n d_Md_wordOf_33 rfl 0 rfl ?_
          refine G_ldc_w d_Md_wordOf_34 w_1267 ?_
          refine G_icmp_ne (tgt := 43) d_Md_wordOf_37 (by decide) (fun c => ?_) (fun c => ?_)
          · replace h := Ok_f c h
            refine G_iload_n d_Md_wordOf_43 rfl 0 rfl ?_
            refine G_ldc_w d_Md_wordOf_44 w_1268 ?_
            refine G_icmp_ne (tgt := 55) d_Md_wordOf_47 (by decide) (fun c => ?_) (fun c => ?_)
            · replace h := Ok_f c h
              refine G_bipush d_Md_wordOf_55 lt_bipush_17 ?_
              exact G_iret rfl (vp_nar_int _) d_Md_wordOf_57 (hR _ (Ok_some h))
            replace h := Ok_t c h
            refine G_bipush d_Md_wordOf_50 lt_bipush_7 ?_
            refine G_goto (tgt := 57) d_Md_wordOf_52 (by decide) ?_
            exact G_iret rfl (vp_nar_int _) d_Md_wordOf_57 (hR _ (Ok_some h))
          replace h := Ok_t c h
          refine G_bipush d_Md_wordOf_40 lt_bipush_6 ?_
          exact G_iret rfl (vp_nar_int _) d_Md_wordOf_42 (hR _ (Ok_some h))
        replace h := Ok_t c h
        refine G_iconst d_Md_wordOf_31 lt_iconst_5 ?_
        exact G_iret rfl (vp_nar_int _) d_Md_wordOf_32 (hR _ (Ok_some h))
      replace h := Ok_t c h
      refine G_iconst d_Md_wordOf_22 lt_iconst_3 ?_
      exact G_iret rfl (vp_nar_int _) d_Md_wordOf_23 (hR _ (Ok_some h))
    replace h := Ok_t c h
    refine G_iconst d_Md_wordOf_14 lt_iconst_2 ?_
    exact G_iret rfl (vp_nar_int _) d_Md_wordOf_15 (hR _ (Ok_some h))
  replace h := Ok_t c h
  refine G_iconst d_Md_wordOf_6 lt_iconst_1 ?_
  exact G_iret rfl (vp_nar_int _) d_Md_wordOf_7 (hR _ (Ok_some h))
theorem c_Md_wordOf {l : Launch} {D : va_G} {cI cZ cJ : ClassId} {ad : Nat → Nat} (a1 : Int32) (s : MS) {P : Int32 → Prop} (h : Ok (f_Md_wordOf a1) P) : Ct (XM l D cI cZ cJ ad) y_Md_wordOf b_Md_wordOf 1 (some .int) 0 [.int a1] s (fun r9 s9 => s9 = s ∧ P r9) :=
  Ct.of mi_Md_wordOf (Nat.le_of_ble_eq_true rfl) (f_Md_wordOf_w a1 s (fun _ h => ⟨rfl, h⟩) h)
-- Md_nextToken
noncomputable def Md_nextToken_j187 (t0 : Int32) (s : MS) : Option ((Int32 × MS) ⊕ MS) :=
  bnd (pf s 20 ((s.1 20) + (1 : Int32))) fun s1 => some (.inl (t0, s1))
theorem Md_nextToken_j187_w {l : Launch} {D : va_G} {cI cZ cJ : ClassId} {ad : Nat → Nat} (t0 : Int32) (s : MS) {Q : Int32 → MS → Prop} {Post : ((Int32 × MS) ⊕ MS) → Prop} (hR : ∀ (s9 : MS), Post (.inr (s9)) → Q 0 s9) (hL141 : ∀ (z2 : Int32) (s9 : MS), Post (.inl (z2, s9)) → G (XM l D cI cZ cJ ad) "SmallHarbourModel" b_Md_nextToken 3 none 2 141 [(0, .ref (ad 0)), (2, .int z2)] [] s9 Q) (h : Ok (Md_nextToken_j187 t0 s) Post) : G (XM l D cI cZ cJ ad) "SmallHarbourModel" b_Md_nextToken 3 none 2 187 [(0, .ref (ad 0))] [.int t0] s Q := by
  unfold Md_nextToken_j187 at h
  refine G_istore_n d_Md_nextToken_187 rfl (Nat.le_of_ble_eq_true rfl) (fun x => [(2, .int x), (0, .ref (ad 0))]) (fun _ => rfl) (fun x e => ?_)
  subst e
  refine G_aload_n d_Md_nextToken_188 rfl 1 rfl ?_
  refine G_dup d_Md_nextToken_189 rfl ?_
  refine gm_Md_at d_Md_nextToken_190 w_886 ?_
  refine G_iconst d_Md_nextToken_193 lt_iconst_1 ?_
  refine G_iadd d_Md_nextToken_194 ?_
  refine pm_Md_at d_Md_nextToken_195 w_886 (fun s1 e => ?_)
  replace h := Ok_bnd h s1 e
  clear e
  refine G_goto (tgt := 141) d_Md_nextToken_198 (by decide) ?_
  refine G_lv [1, 0] rfl ?_
  exact hL141 t0 s1 (Ok_some h)
noncomputable def Md_nextToken_l141 (x2 : Int32) (s : MS) : Option ((Int32 × MS) ⊕ MS) :=
  (f_Md_see (s.1 20) s).bind fun v1 => (f_Md_isLetter v1).bind fun v2 => if v2 = 0 then (xit ((f_Md_wordOf x2).bind fun v3 => bnd (pf s 22 v3) fun s4 => some s4)) else (if x2 < (16777216 : Int32) then (if 0 ≤ x2 then ((f_Md_see (s.1 20) s).bind fun v5 => Md_nextToken_j187 ((x2 <<< ((8 : Int32) &&& 31)) ||| v5) s) else (Md_nextToken_j187 x2 s)) else (Md_nextToken_j187 (-1 : Int32) s))
theorem Md_nextToken_l141_w {l : Launch} {D : va_G} {cI cZ cJ : ClassId} {ad : Nat → Nat} (x2 : Int32) (s : MS) {Q : Int32 → MS → Prop} {Post : ((Int32 × MS) ⊕ MS) → Prop} (hR : ∀ (s9 : MS), Post (.inr (s9)) → Q 0 s9) (hL141 : ∀ (z2 : Int32) (s9 : MS), Post (.inl (z2, s9)) → G (XM l D cI cZ cJ ad) "SmallHarbourModel" b_Md_nextToken 3 none 2 141 [(0, .ref (ad 0)), (2, .int z2)] [] s9 Q) (h : Ok (Md_nextToken_l141 x2 s) Post) : G (XM l D cI cZ cJ ad) "SmallHarbourModel" b_Md_nextToken 3 none 2 141 [(0, .ref (ad 0)), (2, .int x2)] [] s Q := by
  unfold Md_nextToken_l141 at h
  refine G_aload_n d_Md_nextToken_141 rfl 0 rfl ?_
  refine G_aload_n d_Md_nextToken_142 rfl 0 rfl ?_
  refine gm_Md_at d_Md_nextToken_143 w_886 ?_
  refine G_callVp (st := []) (As := [.int (s.1 20)]) (b := ad 0) d_Md_nextToken_146 mi_Md_see w_1252 0 rfl rfl mv_Md_see rfl (Nat.le_of_ble_eq_true rfl) (by decide) (c_Md_see (s.1 20) s (Ok_bind h)) (fun v1 h hnv1 => ?_)
  refine G_callSp (st := []) (As := [.int v1]) d_Md_nextToken_149 mi_Md_isLetter w_1260 w_1261 rfl (Nat.le_of_ble_eq_true rfl) (by decide) (c_Md_isLetter v1 s (Ok_bind h)) (fun v2 h hnv2 => ?_)
  refine G_if_eq (tgt := 201) d_Md_nextToken_152 (by decide) (fun c => ?_) (fun c => ?_)
  · replace h := Ok_t c h
    replace h := Ok_xit h
    refine G_aload_n d_Md_nextToken_201 rfl 0 rfl ?_
    refine G_iload_n d_Md_nextToken_202 rfl 1 rfl ?_
    refine G_callSp (st := [.ref (ad 0)]) (As := [.int x2]) d_Md_nextToken_203 mi_Md_wordOf w_1264 w_1265 rfl (Nat.le_of_ble_eq_true rfl) (by decide) (c_Md_wordOf x2 s (Ok_bind h)) (fun v3 h hnv3 => ?_)
    refine pm_Md_kind d_Md_nextToken_206 w_888 (fun s4 e => ?_)
    replace h := Ok_bnd h s4 e
    clear e
    refine G_goto (tgt := 230) d_Md_nextToken_209 (by decide) ?_
    exact G_vret rfl d_Md_nextToken_230 (hR _ (Ok_some h))
  replace h := Ok_f c h
  refine G_iload_n d_Md_nextToken_155 rfl 1 rfl ?_
  refine G_ldc_w d_Md_nextToken_156 w_1263 ?_
  refine G_icmp_lt (tgt := 166) d_Md_nextToken_159 (by decide) (fun c => ?_) (fun c => ?_)
  · replace h := Ok_t c h
    refine G_iload_n d_Md_nextToken_166 rfl 1 rfl ?_
    refine G_if_ge (tgt := 174) d_Md_nextToken_167 (by decide) (fun c => ?_) (fun c => ?_)
    · replace h := Ok_t c h
      refine G_iload_n d_Md_nextToken_174 rfl 1 rfl ?_
      refine G_bipush d_Md_nextToken_175 lt_bipush_8 ?_
      refine G_ishl d_Md_nextToken_177 ?_
      refine G_aload_n d_Md_nextToken_178 rfl 0 rfl ?_
      refine G_aload_n d_Md_nextToken_179 rfl 0 rfl ?_
      refine gm_Md_at d_Md_nextToken_180 w_886 ?_
      refine G_callVp (st := [.int (x2 <<< ((8 : Int32) &&& 31))]) (As := [.int (s.1 20)]) (b := ad 0) d_Md_nextToken_183 mi_Md_see w_1252 0 rfl rfl mv_Md_see rfl (Nat.le_of_ble_eq_true rfl) (by decide) (c_Md_see (s.1 20) s (Ok_bind h)) (fun v5 h hnv5 => ?_)
      refine G_ior d_Md_nextToken_186 ?_
      refine G_lv [0] rfl ?_
      exact Md_nextToken_j187_w ((x2 <<< ((8 : Int32) &&& 31)) ||| v5) s hR hL141 h
    replace h := Ok_f c h
    refine G_iload_n d_Md_nextToken_170 rfl 1 rfl ?_
    refine G_goto (tgt := 187) d_Md_nextToken_171 (by decide) ?_
    refine G_lv [0] rfl ?_
    exact Md_nextToken_j187_w x2 s hR hL141 h
  replace h := Ok_f c h
  refine G_iconst d_Md_nextToken_162 lt_iconst_m1 ?_
  refine G_goto (tgt := 187) d_Md_nextToken_163 (by decide) ?_
  refine G_lv [0] rfl ?_
  exact Md_nextToken_j187_w (-1 : Int32) s hR hL141 h
noncomputable def Md_nextToken_l72 (s : MS) : Option ((MS) ⊕ MS) :=
  (f_Md_see (s.1 20) s).bind fun v1 => (f_Md_isDigit v1).bind fun v2 => if v2 = 0 then (xit (some s)) else (if (100000 : Int32) ≤ (s.1 23) then (bnd (pf s 20 ((s.1 20) + (1 : Int32))) fun s3 => some (.inl s3)) else ((f_Md_see (s.1 20) s).bind fun v4 => bnd (pf s 23 ((((10 : Int32) * (s.1 23)) + v4) - (48 : Int32))) fun s5 => bnd (pf s5 20 ((s5.1 20) + (1 : Int32))) fun s6 => some (.inl s6)))
theorem Md_nextToken_l72_w {l : Launch} {D : va_G} {cI cZ cJ : ClassId} {ad : Nat → Nat} (s : MS) {Q : Int32 → MS → Prop} {Post : ((MS) ⊕ MS) → Prop} (hR : ∀ (s9 : MS), Post (.inr (s9)) → Q 0 s9) (hL72 : ∀ (s9 : MS), Post (.inl s9) → G (XM l D cI cZ cJ ad) "SmallHarbourModel" b_Md_nextToken 3 none 2 72 [(0, .ref (ad 0))] [] s9 Q) (h : Ok (Md_nextToken_l72 s) Post) : G (XM l D cI cZ cJ ad) "SmallHarbourModel" b_Md_nextToken 3 none 2 72 [(0, .ref (ad 0))] [] s Q := by
  unfold Md_nextToken_l72 at h
  refine G_aload_n d_Md_nextToken_72 rfl 0 rfl ?_
  refine G_aload_n d_Md_nextToken_73 rfl 0 rfl ?_
  refine gm_Md_at d_Md_nextToken_74 w_886 ?_
  refine G_callVp (st := []) (As := [.int (s.1 20)]) (b := ad 0) d_Md_nextToken_77 mi_Md_see w_1252 0 rfl rfl mv_Md_see rfl (Nat.le_of_ble_eq_true rfl) (by decide) (c_Md_see (s.1 20) s (Ok_bind h)) (fun v1 h hnv1 => ?_)
  refine G_callSp (st := []) (As := [.int v1]) d_Md_nextToken_80 mi_Md_isDigit w_1256 w_1257 rfl (Nat.le_of_ble_eq_true rfl) (by decide) (c_Md_isDigit v1 s (Ok_bind h)) (fun v2 h hnv2 => ?_)
  refine G_if_eq (tgt := 230) d_Md_nextToken_83 (by decide) (fun c => ?_) (fun c => ?_)
  · replace h := Ok_t c h
    replace h := Ok_xit h
    exact G_vret rfl d_Md_nextToken_230 (hR _ (Ok_some h))
  replace h := Ok_f c h
  refine G_aload_n d_Md_nextToken_86 rfl 0 rfl ?_
  refine gm_Md_number d_Md_nextToken_87 w_889 ?_
  refine G_ldc_w d_Md_nextToken_90 w_1259 ?_
  refine G_icmp_ge (tgt := 119) d_Md_nextToken_93 (by decide) (fun c => ?_) (fun c => ?_)
  · replace h := Ok_t c h
    refine G_aload_n d_Md_nextToken_119 rfl 0 rfl ?_
    refine G_dup d_Md_nextToken_120 rfl ?_
    refine gm_Md_at d_Md_nextToken_121 w_886 ?_
    refine G_iconst d_Md_nextToken_124 lt_iconst_1 ?_
    refine G_iadd d_Md_nextToken_125 ?_
    refine pm_Md_at d_Md_nextToken_126 w_886 (fun s3 e => ?_)
    replace h := Ok_bnd h s3 e
    clear e
    refine G_goto (tgt := 72) d_Md_nextToken_129 (by decide) ?_
    exact hL72 s3 (Ok_some h)
  replace h := Ok_f c h
  refine G_aload_n d_Md_nextToken_96 rfl 0 rfl ?_
  refine G_bipush d_Md_nextToken_97 lt_bipush_10 ?_
  refine G_aload_n d_Md_nextToken_99 rfl 0 rfl ?_
  refine gm_Md_number d_Md_nextToken_100 w_889 ?_
  refine G_imul d_Md_nextToken_103 ?_
  refine G_aload_n d_Md_nextToken_104 rfl 0 rfl ?_
  refine G_aload_n d_Md_nextToken_105 rfl 0 rfl ?_
  refine gm_Md_at d_Md_nextToken_106 w_886 ?_
  refine G_callVp (st := [.int ((10 : Int32) * (s.1 23)), .ref (ad 0)]) (As := [.int (s.1 20)]) (b := ad 0) d_Md_nextToken_109 mi_Md_see w_1252 0 rfl rfl mv_Md_see rfl (Nat.le_of_ble_eq_true rfl) (by decide) (c_Md_see (s.1 20) s (Ok_bind h)) (fun v4 h hnv4 => ?_)
  refine G_iadd d_Md_nextToken_112 ?_
  refine G_bipush d_Md_nextToken_113 lt_bipush_48 ?_
  refine G_isub d_Md_nextToken_115 ?_
  refine pm_Md_number d_Md_nextToken_116 w_889 (fun s5 e => ?_)
  replace h := Ok_bnd h s5 e
  clear e
  refine G_aload_n d_Md_nextToken_119 rfl 0 rfl ?_
  refine G_dup d_Md_nextToken_120 rfl ?_
  refine gm_Md_at d_Md_nextToken_121 w_886 ?_
  refine G_iconst d_Md_nextToken_124 lt_iconst_1 ?_
  refine G_iadd d_Md_nextToken_125 ?_
  refine pm_Md_at d_Md_nextToken_126 w_886 (fun s6 e => ?_)
  replace h := Ok_bnd h s6 e
  clear e
  refine G_goto (tgt := 72) d_Md_nextToken_129 (by decide) ?_
  exact hL72 s6 (Ok_some h)
noncomputable def Md_nextToken_l0 (s : MS) : Option ((MS) ⊕ MS) :=
  (f_Md_see (s.1 20) s).bind fun v1 => if v1 = (32 : Int32) then (bnd (pf s 20 ((s.1 20) + (1 : Int32))) fun s12 => some (.inl s12)) else (xit (bnd (pf s 21 (s.1 20)) fun s2 => (f_Md_see (s2.1 20) s2).bind fun v3 => if 0 ≤ v3 then ((f_Md_isDigit v3).bind fun v4 => if v4 = 0 then ((f_Md_isLetter v3).bind fun v5 => if v5 = 0 then ((f_Md_signOf v3).bind fun v6 => bnd (pf s2 22 v6) fun s7 => bnd (pf s7 20 ((s7.1 20) + (1 : Int32))) fun s8 => some s8) else (loop (fun z => Md_nextToken_l141 z.1 z.2) ((0 : Int32), s2))) else (bnd (pf s2 22 (4 : Int32)) fun s9 => bnd (pf s9 23 (0 : Int32)) fun s10 => loop (fun z => Md_nextToken_l72 z) s10)) else (bnd (pf s2 22 (0 : Int32)) fun s11 => some s11)))
theorem Md_nextToken_l0_w {l : Launch} {D : va_G} {cI cZ cJ : ClassId} {ad : Nat → Nat} (s : MS) {Q : Int32 → MS → Prop} {Post : ((MS) ⊕ MS) → Prop} (hR : ∀ (s9 : MS), Post (.inr (s9)) → Q 0 s9) (hL0 : ∀ (s9 : MS), Post (.inl s9) → G (XM l D cI cZ cJ ad) "SmallHarbourModel" b_Md_nextToken 3 none 2 0 [(0, .ref (ad 0))] [] s9 Q) (h : Ok (Md_nextToken_l0 s) Post) : G (XM l D cI cZ cJ ad) "SmallHarbourModel" b_Md_nextToken 3 none 2 0 [(0, .ref (ad 0))] [] s Q := by
  unfold Md_nextToken_l0 at h
  refine G_aload_n d_Md_nextToken_0 rfl 0 rfl ?_
  refine G_aload_n d_Md_nextToken_1 rfl 0 rfl ?_
  refine gm_Md_at d_Md_nextToken_2 w_886 ?_
  refine G_callVp (st := []) (As := [.int (s.1 20)]) (b := ad 0) d_Md_nextToken_5 mi_Md_see w_1252 0 rfl rfl mv_Md_see rfl (Nat.le_of_ble_eq_true rfl) (by decide) (c_Md_see (s.1 20) s (Ok_bind h)) (fun v1 h hnv1 => ?_)
  refine G_bipush d_Md_nextToken_8 lt_bipush_32 ?_
  refine G_icmp_ne (tgt := 26) d_Md_nextToken_10 (by decide) (fun c => ?_) (fun c => ?_)
  · replace h := Ok_f c h
    replace h := Ok_xit h
    refine G_aload_n d_Md_nextToken_26 rfl 0 rfl ?_
    refine G_aload_n d_Md_nextToken_27 rfl 0 rfl ?_
    refine gm_Md_at d_Md_nextToken_28 w_886 ?_
    refine pm_Md_place d_Md_nextToken_31 w_887 (fun s2 e => ?_)
    replace h := Ok_bnd h s2 e
    clear e
    refine G_aload_n d_Md_nextToken_34 rfl 0 rfl ?_
    refine G_aload_n d_Md_nextToken_35 rfl 0 rfl ?_
    refine gm_Md_at d_Md_nextToken_36 w_886 ?_
    refine G_callVp (st := []) (As := [.int (s2.1 20)]) (b := ad 0) d_Md_nextToken_39 mi_Md_see w_1252 0 rfl rfl mv_Md_see rfl (Nat.le_of_ble_eq_true rfl) (by decide) (c_Md_see (s2.1 20) s2 (Ok_bind h)) (fun v3 h hnv3 => ?_)
    refine G_istore_n d_Md_nextToken_42 rfl (Nat.le_of_ble_eq_true rfl) (fun x => [(1, .int x), (0, .ref (ad 0))]) (fun _ => rfl) (fun x e => ?_)
    subst e
    refine G_iload_n d_Md_nextToken_43 rfl 0 rfl ?_
    refine G_if_ge (tgt := 55) d_Md_nextToken_44 (by decide) (fun c => ?_) (fun c => ?_)
    · replace h := Ok_t c h
      refine G_iload_n d_Md_nextToken_55 rfl 0 rfl ?_
      refine G_callSp (st := []) (As := [.int v3]) d_Md_nextToken_56 mi_Md_isDigit w_1256 w_1257 rfl (Nat.le_of_ble_eq_true rfl) (by decide) (c_Md_isDigit v3 s2 (Ok_bind h)) (fun v4 h hnv4 => ?_)
      refine G_if_eq (tgt := 132) d_Md_nextToken_59 (by decide) (fun c => ?_) (fun c => ?_)
      · replace h := Ok_t c h
        refine G_iload_n d_Md_nextToken_132 rfl 0 rfl ?_
        refine G_callSp (st := []) (As := [.int v3]) d_Md_nextToken_133 mi_Md_isLetter w_1260 w_1261 rfl (Nat.le_of_ble_eq_true rfl) (by decide) (c_Md_isLetter v3 s2 (Ok_bind h)) (fun v5 h hnv5 => ?_)
        refine G_if_eq (tgt := 212) d_Md_nextToken_136 (by decide) (fun c => ?_) (fun c => ?_)
        · replace h := Ok_t c h
          refine G_aload_n d_Md_nextToken_212 rfl 1 rfl ?_
          refine G_iload_n d_Md_nextToken_213 rfl 0 rfl ?_
          refine G_callSp (st := [.ref (ad 0)]) (As := [.int v3]) d_Md_nextToken_214 mi_Md_signOf w_1269 w_1270 rfl (Nat.le_of_ble_eq_true rfl) (by decide) (c_Md_signOf v3 s2 (Ok_bind h)) (fun v6 h hnv6 => ?_)
          refine pm_Md_kind d_Md_nextToken_217 w_888 (fun s7 e => ?_)
          replace h := Ok_bnd h s7 e
          clear e
          refine G_aload_n d_Md_nextToken_220 rfl 1 rfl ?_
          refine G_dup d_Md_nextToken_221 rfl ?_
          refine gm_Md_at d_Md_nextToken_222 w_886 ?_
          refine G_iconst d_Md_nextToken_225 lt_iconst_1 ?_
          refine G_iadd d_Md_nextToken_226 ?_
          refine pm_Md_at d_Md_nextToken_227 w_886 (fun s8 e => ?_)
          replace h := Ok_bnd h s8 e
          clear e
          exact G_vret rfl d_Md_nextToken_230 (hR _ (Ok_some h))
        replace h := Ok_f c h
        refine G_iconst d_Md_nextToken_139 lt_iconst_0 ?_
        refine G_istore_n d_Md_nextToken_140 rfl (Nat.le_of_ble_eq_true rfl) (fun x => [(2, .int x), (1, .int v3), (0, .ref (ad 0))]) (fun _ => rfl) (fun x e => ?_)
        subst e
        refine G_lv [2, 0] rfl ?_
        exact G_loop (J := (fun z => G (XM l D cI cZ cJ ad) "SmallHarbourModel" b_Md_nextToken 3 none 2 141 [(0, .ref (ad 0)), (2, .int (z.1))] [] z.2 Q)) (fun z h => Md_nextToken_l141_w z.1 z.2 (Post := Sum.elim (fun z => G (XM l D cI cZ cJ ad) "SmallHarbourModel" b_Md_nextToken 3 none 2 141 [(0, .ref (ad 0)), (2, .int (z.1))] [] z.2 Q) _) hR (fun z2 s9 h => h) h) ((0 : Int32), s2) h
      replace h := Ok_f c h
      refine G_aload_n d_Md_nextToken_62 rfl 1 rfl ?_
      refine G_iconst d_Md_nextToken_63 lt_iconst_4 ?_
      refine pm_Md_kind d_Md_nextToken_64 w_888 (fun s9 e => ?_)
      replace h := Ok_bnd h s9 e
      clear e
      refine G_aload_n d_Md_nextToken_67 rfl 1 rfl ?_
      refine G_iconst d_Md_nextToken_68 lt_iconst_0 ?_
      refine pm_Md_number d_Md_nextToken_69 w_889 (fun s10 e => ?_)
      replace h := Ok_bnd h s10 e
      clear e
      refine G_lv [1] rfl ?_
      exact G_loop (J := (fun z => G (XM l D cI cZ cJ ad) "SmallHarbourModel" b_Md_nextToken 3 none 2 72 [(0, .ref (ad 0))] [] z Q)) (fun z h => Md_nextToken_l72_w z (Post := Sum.elim (fun z => G (XM l D cI cZ cJ ad) "SmallHarbourModel" b_Md_nextToken 3 none 2 72 [(0, .ref (ad 0))] [] z Q) _) hR (fun s9 h => h) h) s10 h
    replace h := Ok_f c h
    refine G_aload_n d_Md_nextToken_47 rfl 1 rfl ?_
    refine G_iconst d_Md_nextToken_48 lt_iconst_0 ?_
    refine pm_Md_kind d_Md_nextToken_49 w_888 (fun s11 e => ?_)
    replace h := Ok_bnd h s11 e
    clear e
    refine G_goto (tgt := 230) d_Md_nextToken_52 (by decide) ?_
    exact G_vret rfl d_Md_nextToken_230 (hR _ (Ok_some h))
  replace h := Ok_t c h
  refine G_aload_n d_Md_nextToken_13 rfl 0 rfl ?_
  refine G_dup d_Md_nextToken_14 rfl ?_
  refine gm_Md_at d_Md_nextToken_15 w_886 ?_
  refine G_iconst d_Md_nextToken_18 lt_iconst_1 ?_
  refine G_iadd d_Md_nextToken_19 ?_
  refine pm_Md_at d_Md_nextToken_20 w_886 (fun s12 e => ?_)
  replace h := Ok_bnd h s12 e
  clear e
  refine G_goto (tgt := 0) d_Md_nextToken_23 (by decide) ?_
  exact hL0 s12 (Ok_some h)
noncomputable def f_Md_nextToken (s : MS) : Option MS :=
  loop (fun z => Md_nextToken_l0 z) s
theorem f_Md_nextToken_w {l : Launch} {D : va_G} {cI cZ cJ : ClassId} {ad : Nat → Nat} (s : MS) {Q : Int32 → MS → Prop} {Post : MS → Prop} (hR : ∀ (s9 : MS), Post (s9) → Q 0 s9) (h : Ok (f_Md_nextToken s) Post) : G (XM l D cI cZ cJ ad) "SmallHarbourModel" b_Md_nextToken 3 none 2 0 [(0, .ref (ad 0))] [] s Q := by
  unfold f_Md_nextToken at h
  exact G_loop (J := (fun z => G (XM l D cI cZ cJ ad) "SmallHarbourModel" b_Md_nextToken 3 none 2 0 [(0, .ref (ad 0))] [] z Q)) (fun z h => Md_nextToken_l0_w z (Post := Sum.elim (fun z => G (XM l D cI cZ cJ ad) "SmallHarbourModel" b_Md_nextToken 3 none 2 0 [(0, .ref (ad 0))] [] z Q) _) hR (fun s9 h => h) h) s h
theorem c_Md_nextToken {l : Launch} {D : va_G} {cI cZ cJ : ClassId} {ad : Nat → Nat} (s : MS) {P : MS → Prop} (h : Ok (f_Md_nextToken  s) P) : Ct (XM l D cI cZ cJ ad) y_Md_nextToken b_Md_nextToken 3 none 2 [.ref (ad 0)] s (fun _ s9 => P s9) :=
  Ct.of mi_Md_nextToken (Nat.le_of_ble_eq_true rfl) (f_Md_nextToken_w  s (fun _ h => h) h)
-- Md_owes
noncomputable def Md_owes_l4 (x1 : Int32) (x2 x3 : Int32) (s : MS) : Option ((Int32 × Int32 × MS) ⊕ (Int32 × MS)) :=
  if (s.1 4) ≤ x3 then (xit (some (x2, s))) else ((f_Md_isBoat x1 s).bind fun v1 => if v1 = 0 then (bnd (x2 + (0 : Int32)) fun v2 => bnd (x3 + (1 : Int32)) fun v3 => some (.inl (v2, v3, s))) else (chk (inb x3 40) (bnd (s.2 10 x3.toNatClampNeg) fun v4 => if v4 = x1 then (bd2 (f_Md_bill x3 s) fun v7 s8 => bnd (x2 + v7) fun v9 => bnd (x3 + (1 : Int32)) fun v10 => some (.inl (v9, v10, s8))) else (bnd (x2 + (0 : Int32)) fun v5 => bnd (x3 + (1 : Int32)) fun v6 => some (.inl (v5, v6, s))))))
theorem Md_owes_l4_w {l : Launch} {D : va_G} {cI cZ cJ : ClassId} {ad : Nat → Nat} (x1 x2 x3 : Int32) (s : MS) {Q : Int32 → MS → Prop} {Post : ((Int32 × Int32 × MS) ⊕ (Int32 × MS)) → Prop} (hR : ∀ (r9 : Int32) (s9 : MS), Post (.inr ((r9, s9))) → Q r9 s9) (hL4 : ∀ (z2 z3 : Int32) (s9 : MS), Post (.inl (z2, z3, s9)) → G (XM l D cI cZ cJ ad) "SmallHarbourModel" b_Md_owes 4 (some .int) 3 4 [(0, .ref (ad 0)), (1, .int x1), (2, .int z2), (3, .int z3)] [] s9 Q) (h : Ok (Md_owes_l4 x1 x2 x3 s) Post) : G (XM l D cI cZ cJ ad) "SmallHarbourModel" b_Md_owes 4 (some .int) 3 4 [(0, .ref (ad 0)), (1, .int x1), (2, .int x2), (3, .int x3)] [] s Q := by
  unfold Md_owes_l4 at h
  refine G_iload_n d_Md_owes_4 rfl 3 rfl ?_
  refine G_aload_n d_Md_owes_5 rfl 0 rfl ?_
  refine gm_Md_stays d_Md_owes_6 w_850 ?_
  refine G_icmp_ge (tgt := 48) d_Md_owes_9 (by decide) (fun c => ?_) (fun c => ?_)
  · replace h := Ok_t c h
    replace h := Ok_xit h
    refine G_iload_n d_Md_owes_48 rfl 2 rfl ?_
    exact G_iret rfl (vp_nar_int _) d_Md_owes_49 (hR _ _ (Ok_some h))
  replace h := Ok_f c h
  refine G_iload_n d_Md_owes_12 rfl 2 rfl ?_
  refine G_aload_n d_Md_owes_13 rfl 0 rfl ?_
  refine G_iload_n d_Md_owes_14 rfl 1 rfl ?_
  refine G_callVp (st := [.int x2]) (As := [.int x1]) (b := ad 0) d_Md_owes_15 mi_Md_isBoat w_1076 0 rfl rfl mv_Md_isBoat rfl (Nat.le_of_ble_eq_true rfl) (by decide) (c_Md_isBoat x1 s (Ok_bind h)) (fun v1 h hnv1 => ?_)
  refine G_if_eq (tgt := 39) d_Md_owes_18 (by decide) (fun c => ?_) (fun c => ?_)
  · replace h := Ok_t c h
    refine G_iconst d_Md_owes_39 lt_iconst_0 ?_
    refine G_iadd d_Md_owes_40 ?_
    refine G_istore_n d_Md_owes_41 rfl (Nat.le_of_ble_eq_true rfl) (fun x => [(2, .int x), (0, .ref (ad 0)), (1, .int x1), (3, .int x3)]) (fun _ => rfl) (fun v2 e => ?_)
    replace h := Ok_bnd h v2 e
    clear e
    refine G_iinc d_Md_owes_42 3 rfl lt_iconst_1 rfl (Nat.le_of_ble_eq_true rfl) (fun x => [(3, .int x), (2, .int v2), (0, .ref (ad 0)), (1, .int x1)]) (fun _ => rfl) (fun v3 e => ?_)
    replace h := Ok_bnd h v3 e
    clear e
    refine G_goto (tgt := 4) d_Md_owes_45 (by decide) ?_
    refine G_lv [2, 3, 1, 0] rfl ?_
    exact hL4 v2 v3 s (Ok_some h)
  replace h := Ok_f c h
  refine G_aload_n d_Md_owes_21 rfl 0 rfl ?_
  refine gm_Md_stayBoat d_Md_owes_22 w_851 ?_
  refine G_iload_n d_Md_owes_25 rfl 3 rfl ?_
  refine lm_10 d_Md_owes_26 (Ok_ld h).1 (fun v4 e => ?_)
  replace h := (Ok_ld h).2 v4 e
  clear e
  refine G_iload_n d_Md_owes_27 rfl 1 rfl ?_
  refine G_icmp_ne (tgt := 39) d_Md_owes_28 (by decide) (fun c => ?_) (fun c => ?_)
  · replace h := Ok_f c h
    refine G_iconst d_Md_owes_39 lt_iconst_0 ?_
    refine G_iadd d_Md_owes_40 ?_
    refine G_istore_n d_Md_owes_41 rfl (Nat.le_of_ble_eq_true rfl) (fun x => [(2, .int x), (0, .ref (ad 0)), (1, .int x1), (3, .int x3)]) (fun _ => rfl) (fun v5 e => ?_)
    replace h := Ok_bnd h v5 e
    clear e
    refine G_iinc d_Md_owes_42 3 rfl lt_iconst_1 rfl (Nat.le_of_ble_eq_true rfl) (fun x => [(3, .int x), (2, .int v5), (0, .ref (ad 0)), (1, .int x1)]) (fun _ => rfl) (fun v6 e => ?_)
    replace h := Ok_bnd h v6 e
    clear e
    refine G_goto (tgt := 4) d_Md_owes_45 (by decide) ?_
    refine G_lv [2, 3, 1, 0] rfl ?_
    exact hL4 v5 v6 s (Ok_some h)
  replace h := Ok_t c h
  refine G_aload_n d_Md_owes_31 rfl 0 rfl ?_
  refine G_iload_n d_Md_owes_32 rfl 3 rfl ?_
  refine G_callVi (st := [.int x2]) (As := [.int x3]) (b := ad 0) d_Md_owes_33 mi_Md_bill w_1161 0 rfl rfl mv_Md_bill rfl (Nat.le_of_ble_eq_true rfl) (by decide) (c_Md_bill x3 s (Ok_bd2 h)) (fun v7 s8 h hnv7 => ?_)
  refine G_goto (tgt := 40) d_Md_owes_36 (by decide) ?_
  refine G_iadd d_Md_owes_40 ?_
  refine G_istore_n d_Md_owes_41 rfl (Nat.le_of_ble_eq_true rfl) (fun x => [(2, .int x), (0, .ref (ad 0)), (1, .int x1), (3, .int x3)]) (fun _ => rfl) (fun v9 e => ?_)
  replace h := Ok_bnd h v9 e
  clear e
  refine G_iinc d_Md_owes_42 3 rfl lt_iconst_1 rfl (Nat.le_of_ble_eq_true rfl) (fun x => [(3, .int x), (2, .int v9), (0, .ref (ad 0)), (1, .int x1)]) (fun _ => rfl) (fun v10 e => ?_)
  replace h := Ok_bnd h v10 e
  clear e
  refine G_goto (tgt := 4) d_Md_owes_45 (by decide) ?_
  refine G_lv [2, 3, 1, 0] rfl ?_
  exact hL4 v9 v10 s8 (Ok_some h)
noncomputable def f_Md_owes (a1 : Int32) (s : MS) : Option (Int32 × MS) :=
  loop (fun z => Md_owes_l4 a1 z.1 z.2.1 z.2.2) ((0 : Int32), (0 : Int32), s)
theorem f_Md_owes_w {l : Launch} {D : va_G} {cI cZ cJ : ClassId} {ad : Nat → Nat} (a1 : Int32) (s : MS) {Q : Int32 → MS → Prop} {Post : (Int32 × MS) → Prop} (hR : ∀ (r9 : Int32) (s9 : MS), Post ((r9, s9)) → Q r9 s9) (h : Ok (f_Md_owes a1 s) Post) : G (XM l D cI cZ cJ ad) "SmallHarbourModel" b_Md_owes 4 (some .int) 3 0 [(0, .ref (ad 0)), (1, .int a1)] [] s Q := by
  unfold f_Md_owes at h
  refine G_iconst d_Md_owes_0 lt_iconst_0 ?_
  refine G_istore_n d_Md_owes_1 rfl (Nat.le_of_ble_eq_true rfl) (fun x => [(2, .int x), (0, .ref (ad 0)), (1, .int a1)]) (fun _ => rfl) (fun x e => ?_)
  subst e
  refine G_iconst d_Md_owes_2 lt_iconst_0 ?_
  refine G_istore_n d_Md_owes_3 rfl (Nat.le_of_ble_eq_true rfl) (fun x => [(3, .int x), (2, .int (0 : Int32)), (0, .ref (ad 0)), (1, .int a1)]) (fun _ => rfl) (fun x e => ?_)
  subst e
  refine G_lv [2, 3, 1, 0] rfl ?_
  exact G_loop (J := (fun z => G (XM l D cI cZ cJ ad) "SmallHarbourModel" b_Md_owes 4 (some .int) 3 4 [(0, .ref (ad 0)), (1, .int a1), (2, .int (z.1)), (3, .int (z.2.1))] [] z.2.2 Q)) (fun z h => Md_owes_l4_w a1 z.1 z.2.1 z.2.2 (Post := Sum.elim (fun z => G (XM l D cI cZ cJ ad) "SmallHarbourModel" b_Md_owes 4 (some .int) 3 4 [(0, .ref (ad 0)), (1, .int a1), (2, .int (z.1)), (3, .int (z.2.1))] [] z.2.2 Q) _) hR (fun z2 z3 s9 h => h) h) ((0 : Int32), (0 : Int32), s) h
theorem c_Md_owes {l : Launch} {D : va_G} {cI cZ cJ : ClassId} {ad : Nat → Nat} (a1 : Int32) (s : MS) {P : Int32 → MS → Prop} (h : Ok2 (f_Md_owes a1 s) P) : Ct (XM l D cI cZ cJ ad) y_Md_owes b_Md_owes 4 (some .int) 3 [.ref (ad 0), .int a1] s (P) :=
  Ct.of mi_Md_owes (Nat.le_of_ble_eq_true rfl) (f_Md_owes_w a1 s (Post := fun q => P q.1 q.2) (fun _ _ h => h) (Ok2_ok h))
-- Md_part
noncomputable def Md_part_j116 (s : MS) : Option (Int32 × MS) :=
  (f_Md_isMany s).bind fun v1 => if v1 = 0 then (if (s.1 29) = (10 : Int32) then (some ((3 : Int32), s)) else (bnd (pf s 29 ((s.1 29) + (1 : Int32))) fun s2 => if (s2.1 22) = (11 : Int32) then ((f_Md_push (18 : Int32) s2).bind fun s4 => some ((0 : Int32), s4)) else ((f_Md_push (s2.1 22) s2).bind fun s3 => some ((0 : Int32), s3)))) else (some ((3 : Int32), s))
theorem Md_part_j116_w {l : Launch} {D : va_G} {cI cZ cJ : ClassId} {ad : Nat → Nat} (s : MS) {Q : Int32 → MS → Prop} {Post : (Int32 × MS) → Prop} (hR : ∀ (r9 : Int32) (s9 : MS), Post ((r9, s9)) → Q r9 s9) (h : Ok (Md_part_j116 s) Post) : G (XM l D cI cZ cJ ad) "SmallHarbourModel" b_Md_part 2 (some .int) 2 116 [(0, .ref (ad 0))] [] s Q := by
  unfold Md_part_j116 at h
  refine G_aload_n d_Md_part_116 rfl 0 rfl ?_
  refine G_callVp (st := []) (As := []) (b := ad 0) d_Md_part_117 mi_Md_isMany w_1277 0 rfl rfl mv_Md_isMany rfl (Nat.le_of_ble_eq_true rfl) (by decide) (c_Md_isMany  s (Ok_bind h)) (fun v1 h hnv1 => ?_)
  refine G_if_ne (tgt := 132) d_Md_part_120 (by decide) (fun c => ?_) (fun c => ?_)
  · replace h := Ok_f c h
    refine G_iconst d_Md_part_132 lt_iconst_3 ?_
    exact G_iret rfl (vp_nar_int _) d_Md_part_133 (hR _ _ (Ok_some h))
  replace h := Ok_t c h
  refine G_aload_n d_Md_part_123 rfl 0 rfl ?_
  refine gm_Md_nest d_Md_part_124 w_900 ?_
  refine G_bipush d_Md_part_127 lt_bipush_10 ?_
  refine G_icmp_ne (tgt := 134) d_Md_part_129 (by decide) (fun c => ?_) (fun c => ?_)
  · replace h := Ok_f c h
    refine G_aload_n d_Md_part_134 rfl 0 rfl ?_
    refine G_dup d_Md_part_135 rfl ?_
    refine gm_Md_nest d_Md_part_136 w_900 ?_
    refine G_iconst d_Md_part_139 lt_iconst_1 ?_
    refine G_iadd d_Md_part_140 ?_
    refine pm_Md_nest d_Md_part_141 w_900 (fun s2 e => ?_)
    replace h := Ok_bnd h s2 e
    clear e
    refine G_aload_n d_Md_part_144 rfl 0 rfl ?_
    refine G_aload_n d_Md_part_145 rfl 0 rfl ?_
    refine gm_Md_kind d_Md_part_146 w_888 ?_
    refine G_bipush d_Md_part_149 lt_bipush_11 ?_
    refine G_icmp_ne (tgt := 159) d_Md_part_151 (by decide) (fun c => ?_) (fun c => ?_)
    · replace h := Ok_f c h
      refine G_aload_n d_Md_part_159 rfl 0 rfl ?_
      refine gm_Md_kind d_Md_part_160 w_888 ?_
      refine G_callVv (st := []) (As := [.int (s2.1 22)]) (b := ad 0) d_Md_part_163 mi_Md_push w_1296 0 rfl rfl mv_Md_push rfl (Nat.le_of_ble_eq_true rfl) (by decide) (c_Md_push (s2.1 22) s2 (Ok_bind h)) (fun s3 h => ?_)
      refine G_iconst d_Md_part_166 lt_iconst_0 ?_
      exact G_iret rfl (vp_nar_int _) d_Md_part_167 (hR _ _ (Ok_some h))
    replace h := Ok_t c h
    refine G_bipush d_Md_part_154 lt_bipush_18 ?_
    refine G_goto (tgt := 163) d_Md_part_156 (by decide) ?_
    refine G_callVv (st := []) (As := [.int (18 : Int32)]) (b := ad 0) d_Md_part_163 mi_Md_push w_1296 0 rfl rfl mv_Md_push rfl (Nat.le_of_ble_eq_true rfl) (by decide) (c_Md_push (18 : Int32) s2 (Ok_bind h)) (fun s4 h => ?_)
    refine G_iconst d_Md_part_166 lt_iconst_0 ?_
    exact G_iret rfl (vp_nar_int _) d_Md_part_167 (hR _ _ (Ok_some h))
  replace h := Ok_t c h
  refine G_iconst d_Md_part_132 lt_iconst_3 ?_
  exact G_iret rfl (vp_nar_int _) d_Md_part_133 (hR _ _ (Ok_some h))
noncomputable def Md_part_j83 (t0 : Int32) (s : MS) : Option (Int32 × MS) :=
  if (s.1 22) = (8 : Int32) then (Md_part_j116 s) else (if (s.1 22) = (11 : Int32) then (Md_part_j116 s) else (if (s.1 22) = (5 : Int32) then (if t0 = 0 then (some ((1 : Int32), s)) else (Md_part_j116 s)) else (some ((1 : Int32), s))))
theorem Md_part_j83_w {l : Launch} {D : va_G} {cI cZ cJ : ClassId} {ad : Nat → Nat} (t0 : Int32) (s : MS) {Q : Int32 → MS → Prop} {Post : (Int32 × MS) → Prop} (hR : ∀ (r9 : Int32) (s9 : MS), Post ((r9, s9)) → Q r9 s9) (h : Ok (Md_part_j83 t0 s) Post) : G (XM l D cI cZ cJ ad) "SmallHarbourModel" b_Md_part 2 (some .int) 2 83 [(0, .ref (ad 0))] [.int t0] s Q := by
  unfold Md_part_j83 at h
  refine G_istore_n d_Md_part_83 rfl (Nat.le_of_ble_eq_true rfl) (fun x => [(1, .int x), (0, .ref (ad 0))]) (fun _ => rfl) (fun x e => ?_)
  subst e
  refine G_aload_n d_Md_part_84 rfl 1 rfl ?_
  refine gm_Md_kind d_Md_part_85 w_888 ?_
  refine G_bipush d_Md_part_88 lt_bipush_8 ?_
  refine G_icmp_eq (tgt := 116) d_Md_part_90 (by decide) (fun c => ?_) (fun c => ?_)
  · replace h := Ok_t c h
    refine G_lv [1] rfl ?_
    exact Md_part_j116_w s hR h
  replace h := Ok_f c h
  refine G_aload_n d_Md_part_93 rfl 1 rfl ?_
  refine gm_Md_kind d_Md_part_94 w_888 ?_
  refine G_bipush d_Md_part_97 lt_bipush_11 ?_
  refine G_icmp_eq (tgt := 116) d_Md_part_99 (by decide) (fun c => ?_) (fun c => ?_)
  · replace h := Ok_t c h
    refine G_lv [1] rfl ?_
    exact Md_part_j116_w s hR h
  replace h := Ok_f c h
  refine G_aload_n d_Md_part_102 rfl 1 rfl ?_
  refine gm_Md_kind d_Md_part_103 w_888 ?_
  refine G_iconst d_Md_part_106 lt_iconst_5 ?_
  refine G_icmp_ne (tgt := 114) d_Md_part_107 (by decide) (fun c => ?_) (fun c => ?_)
  · replace h := Ok_f c h
    refine G_iconst d_Md_part_114 lt_iconst_1 ?_
    exact G_iret rfl (vp_nar_int _) d_Md_part_115 (hR _ _ (Ok_some h))
  replace h := Ok_t c h
  refine G_iload_n d_Md_part_110 rfl 0 rfl ?_
  refine G_if_ne (tgt := 116) d_Md_part_111 (by decide) (fun c => ?_) (fun c => ?_)
  · replace h := Ok_f c h
    refine G_lv [1] rfl ?_
    exact Md_part_j116_w s hR h
  replace h := Ok_t c h
  refine G_iconst d_Md_part_114 lt_iconst_1 ?_
  exact G_iret rfl (vp_nar_int _) d_Md_part_115 (hR _ _ (Ok_some h))
noncomputable def Md_part_j82 (s : MS) : Option (Int32 × MS) :=
  Md_part_j83 (0 : Int32) s
theorem Md_part_j82_w {l : Launch} {D : va_G} {cI cZ cJ : ClassId} {ad : Nat → Nat} (s : MS) {Q : Int32 → MS → Prop} {Post : (Int32 × MS) → Prop} (hR : ∀ (r9 : Int32) (s9 : MS), Post ((r9, s9)) → Q r9 s9) (h : Ok (Md_part_j82 s) Post) : G (XM l D cI cZ cJ ad) "SmallHarbourModel" b_Md_part 2 (some .int) 2 82 [(0, .ref (ad 0))] [] s Q := by
  unfold Md_part_j82 at h
  refine G_iconst d_Md_part_82 lt_iconst_0 ?_
  exact Md_part_j83_w (0 : Int32) s hR h
noncomputable def Md_part_j32 (s : MS) : Option (Int32 × MS) :=
  (f_Md_isMany s).bind fun v1 => if v1 = 0 then ((f_Md_emit (s.1 22) (s.1 23) s).bind fun s2 => (f_Md_partIsThrough s2).bind fun s3 => some ((0 : Int32), s3)) else (some ((3 : Int32), s))
theorem Md_part_j32_w {l : Launch} {D : va_G} {cI cZ cJ : ClassId} {ad : Nat → Nat} (s : MS) {Q : Int32 → MS → Prop} {Post : (Int32 × MS) → Prop} (hR : ∀ (r9 : Int32) (s9 : MS), Post ((r9, s9)) → Q r9 s9) (h : Ok (Md_part_j32 s) Post) : G (XM l D cI cZ cJ ad) "SmallHarbourModel" b_Md_part 2 (some .int) 2 32 [(0, .ref (ad 0))] [] s Q := by
  unfold Md_part_j32 at h
  refine G_aload_n d_Md_part_32 rfl 0 rfl ?_
  refine G_callVp (st := []) (As := []) (b := ad 0) d_Md_part_33 mi_Md_isMany w_1277 0 rfl rfl mv_Md_isMany rfl (Nat.le_of_ble_eq_true rfl) (by decide) (c_Md_isMany  s (Ok_bind h)) (fun v1 h hnv1 => ?_)
  refine G_if_eq (tgt := 41) d_Md_part_36 (by decide) (fun c => ?_) (fun c => ?_)
  · replace h := Ok_t c h
    refine G_aload_n d_Md_part_41 rfl 0 rfl ?_
    refine G_aload_n d_Md_part_42 rfl 0 rfl ?_
    refine gm_Md_kind d_Md_part_43 w_888 ?_
    refine G_aload_n d_Md_part_46 rfl 0 rfl ?_
    refine gm_Md_number d_Md_part_47 w_889 ?_
    refine G_callVv (st := []) (As := [.int (s.1 22), .int (s.1 23)]) (b := ad 0) d_Md_part_50 mi_Md_emit w_1281 0 rfl rfl mv_Md_emit rfl (Nat.le_of_ble_eq_true rfl) (by decide) (c_Md_emit (s.1 22) (s.1 23) s (Ok_bind h)) (fun s2 h => ?_)
    refine G_aload_n d_Md_part_53 rfl 0 rfl ?_
    refine G_callVv (st := []) (As := []) (b := ad 0) d_Md_part_54 mi_Md_partIsThrough w_1285 0 rfl rfl mv_Md_partIsThrough rfl (Nat.le_of_ble_eq_true rfl) (by decide) (c_Md_partIsThrough  s2 (Ok_bind h)) (fun s3 h => ?_)
    refine G_iconst d_Md_part_57 lt_iconst_0 ?_
    exact G_iret rfl (vp_nar_int _) d_Md_part_58 (hR _ _ (Ok_some h))
  replace h := Ok_f c h
  refine G_iconst d_Md_part_39 lt_iconst_3 ?_
  exact G_iret rfl (vp_nar_int _) d_Md_part_40 (hR _ _ (Ok_some h))
noncomputable def f_Md_part (s : MS) : Option (Int32 × MS) :=
  (f_Md_isIn (s.1 22) (1 : Int32) (4 : Int32)).bind fun v1 => if v1 = 0 then ((f_Md_top s).bind fun v2 => (f_Md_rankOf v2).bind fun v3 => if v3 = 0 then ((f_Md_top s).bind fun v4 => if v4 = (18 : Int32) then (Md_part_j82 s) else (Md_part_j83 (1 : Int32) s)) else (Md_part_j82 s)) else (if (s.1 22) = (4 : Int32) then (if (s.1 23) ≤ (99999 : Int32) then (Md_part_j32 s) else (some ((2 : Int32), s))) else (Md_part_j32 s))
theorem f_Md_part_w {l : Launch} {D : va_G} {cI cZ cJ : ClassId} {ad : Nat → Nat} (s : MS) {Q : Int32 → MS → Prop} {Post : (Int32 × MS) → Prop} (hR : ∀ (r9 : Int32) (s9 : MS), Post ((r9, s9)) → Q r9 s9) (h : Ok (f_Md_part s) Post) : G (XM l D cI cZ cJ ad) "SmallHarbourModel" b_Md_part 2 (some .int) 2 0 [(0, .ref (ad 0))] [] s Q := by
  unfold f_Md_part at h
  refine G_aload_n d_Md_part_0 rfl 0 rfl ?_
  refine gm_Md_kind d_Md_part_1 w_888 ?_
  refine G_iconst d_Md_part_4 lt_iconst_1 ?_
  refine G_iconst d_Md_part_5 lt_iconst_4 ?_
  refine G_callSp (st := []) (As := [.int (s.1 22), .int (1 : Int32), .int (4 : Int32)]) d_Md_part_6 mi_Md_isIn w_1045 w_1046 rfl (Nat.le_of_ble_eq_true rfl) (by decide) (c_Md_isIn (s.1 22) (1 : Int32) (4 : Int32) s (Ok_bind h)) (fun v1 h hnv1 => ?_)
  refine G_if_eq (tgt := 59) d_Md_part_9 (by decide) (fun c => ?_) (fun c => ?_)
  · replace h := Ok_t c h
    refine G_aload_n d_Md_part_59 rfl 0 rfl ?_
    refine G_callVp (st := []) (As := []) (b := ad 0) d_Md_part_60 mi_Md_top w_1289 0 rfl rfl mv_Md_top rfl (Nat.le_of_ble_eq_true rfl) (by decide) (c_Md_top  s (Ok_bind h)) (fun v2 h hnv2 => ?_)
    refine G_callSp (st := []) (As := [.int v2]) d_Md_part_63 mi_Md_rankOf w_1293 w_1294 rfl (Nat.le_of_ble_eq_true rfl) (by decide) (c_Md_rankOf v2 s (Ok_bind h)) (fun v3 h hnv3 => ?_)
    refine G_if_ne (tgt := 82) d_Md_part_66 (by decide) (fun c => ?_) (fun c => ?_)
    · replace h := Ok_f c h
      exact Md_part_j82_w s hR h
    replace h := Ok_t c h
    refine G_aload_n d_Md_part_69 rfl 0 rfl ?_
    refine G_callVp (st := []) (As := []) (b := ad 0) d_Md_part_70 mi_Md_top w_1289 0 rfl rfl mv_Md_top rfl (Nat.le_of_ble_eq_true rfl) (by decide) (c_Md_top  s (Ok_bind h)) (fun v4 h hnv4 => ?_)
    refine G_bipush d_Md_part_73 lt_bipush_18 ?_
    refine G_icmp_eq (tgt := 82) d_Md_part_75 (by decide) (fun c => ?_) (fun c => ?_)
    · replace h := Ok_t c h
      exact Md_part_j82_w s hR h
    replace h := Ok_f c h
    refine G_iconst d_Md_part_78 lt_iconst_1 ?_
    refine G_goto (tgt := 83) d_Md_part_79 (by decide) ?_
    exact Md_part_j83_w (1 : Int32) s hR h
  replace h := Ok_f c h
  refine G_aload_n d_Md_part_12 rfl 0 rfl ?_
  refine gm_Md_kind d_Md_part_13 w_888 ?_
  refine G_iconst d_Md_part_16 lt_iconst_4 ?_
  refine G_icmp_ne (tgt := 32) d_Md_part_17 (by decide) (fun c => ?_) (fun c => ?_)
  · replace h := Ok_f c h
    exact Md_part_j32_w s hR h
  replace h := Ok_t c h
  refine G_aload_n d_Md_part_20 rfl 0 rfl ?_
  refine gm_Md_number d_Md_part_21 w_889 ?_
  refine G_ldc_w d_Md_part_24 w_1276 ?_
  refine G_icmp_le (tgt := 32) d_Md_part_27 (by decide) (fun c => ?_) (fun c => ?_)
  · replace h := Ok_t c h
    exact Md_part_j32_w s hR h
  replace h := Ok_f c h
  refine G_iconst d_Md_part_30 lt_iconst_2 ?_
  exact G_iret rfl (vp_nar_int _) d_Md_part_31 (hR _ _ (Ok_some h))
theorem c_Md_part {l : Launch} {D : va_G} {cI cZ cJ : ClassId} {ad : Nat → Nat} (s : MS) {P : Int32 → MS → Prop} (h : Ok2 (f_Md_part  s) P) : Ct (XM l D cI cZ cJ ad) y_Md_part b_Md_part 2 (some .int) 2 [.ref (ad 0)] s (P) :=
  Ct.of mi_Md_part (Nat.le_of_ble_eq_true rfl) (f_Md_part_w  s (Post := fun q => P q.1 q.2) (fun _ _ h => h) (Ok2_ok h))
-- Md_read
noncomputable def Md_read_j54 (t0 : Int32) (s : MS) : Option ((MS) ⊕ (Int32 × MS)) :=
  if t0 = 0 then (bnd (pf s 30 ((s.1 30) + (1 : Int32))) fun s1 => (f_Md_nextToken s1).bind fun s2 => some (.inl s2)) else (xit (some (t0, s)))
theorem Md_read_j54_w {l : Launch} {D : va_G} {cI cZ cJ : ClassId} {ad : Nat → Nat} (t0 : Int32) (s : MS) {Q : Int32 → MS → Prop} {Post : ((MS) ⊕ (Int32 × MS)) → Prop} (hR : ∀ (r9 : Int32) (s9 : MS), Post (.inr ((r9, s9))) → Q r9 s9) (hL29 : ∀ (s9 : MS), Post (.inl s9) → G (XM l D cI cZ cJ ad) "SmallHarbourModel" b_Md_read 2 (some .int) 4 29 [(0, .ref (ad 0))] [] s9 Q) (h : Ok (Md_read_j54 t0 s) Post) : G (XM l D cI cZ cJ ad) "SmallHarbourModel" b_Md_read 2 (some .int) 4 54 [(0, .ref (ad 0))] [.int t0] s Q := by
  unfold Md_read_j54 at h
  refine G_istore_n d_Md_read_54 rfl (Nat.le_of_ble_eq_true rfl) (fun x => [(1, .int x), (0, .ref (ad 0))]) (fun _ => rfl) (fun x e => ?_)
  subst e
  refine G_iload_n d_Md_read_55 rfl 0 rfl ?_
  refine G_if_eq (tgt := 61) d_Md_read_56 (by decide) (fun c => ?_) (fun c => ?_)
  · replace h := Ok_t c h
    refine G_aload_n d_Md_read_61 rfl 1 rfl ?_
    refine G_dup d_Md_read_62 rfl ?_
    refine gm_Md_tokens d_Md_read_63 w_901 ?_
    refine G_iconst d_Md_read_66 lt_iconst_1 ?_
    refine G_iadd d_Md_read_67 ?_
    refine pm_Md_tokens d_Md_read_68 w_901 (fun s1 e => ?_)
    replace h := Ok_bnd h s1 e
    clear e
    refine G_aload_n d_Md_read_71 rfl 1 rfl ?_
    refine G_callVv (st := []) (As := []) (b := ad 0) d_Md_read_72 mi_Md_nextToken w_1248 0 rfl rfl mv_Md_nextToken rfl (Nat.le_of_ble_eq_true rfl) (by decide) (c_Md_nextToken  s1 (Ok_bind h)) (fun s2 h => ?_)
    refine G_goto (tgt := 29) d_Md_read_75 (by decide) ?_
    refine G_lv [1] rfl ?_
    exact hL29 s2 (Ok_some h)
  replace h := Ok_f c h
  replace h := Ok_xit h
  refine G_iload_n d_Md_read_59 rfl 0 rfl ?_
  exact G_iret rfl (vp_nar_int _) d_Md_read_60 (hR _ _ (Ok_some h))
noncomputable def Md_read_l29 (s : MS) : Option ((MS) ⊕ (Int32 × MS)) :=
  if (s.1 22) = 0 then (xit (if (s.1 31) = 0 then (bd2 (f_Md_through s) fun v1 s2 => if v1 = 0 then (some ((0 : Int32), s2)) else (some ((1 : Int32), s2))) else (some ((1 : Int32), s)))) else (if (s.1 31) = 0 then (bd2 (f_Md_behind s) fun v3 s4 => Md_read_j54 v3 s4) else (bd2 (f_Md_part s) fun v5 s6 => Md_read_j54 v5 s6))
theorem Md_read_l29_w {l : Launch} {D : va_G} {cI cZ cJ : ClassId} {ad : Nat → Nat} (s : MS) {Q : Int32 → MS → Prop} {Post : ((MS) ⊕ (Int32 × MS)) → Prop} (hR : ∀ (r9 : Int32) (s9 : MS), Post (.inr ((r9, s9))) → Q r9 s9) (hL29 : ∀ (s9 : MS), Post (.inl s9) → G (XM l D cI cZ cJ ad) "SmallHarbourModel" b_Md_read 2 (some .int) 4 29 [(0, .ref (ad 0))] [] s9 Q) (h : Ok (Md_read_l29 s) Post) : G (XM l D cI cZ cJ ad) "SmallHarbourModel" b_Md_read 2 (some .int) 4 29 [(0, .ref (ad 0))] [] s Q := by
  unfold Md_read_l29 at h
  refine G_aload_n d_Md_read_29 rfl 0 rfl ?_
  refine gm_Md_kind d_Md_read_30 w_888 ?_
  refine G_if_eq (tgt := 78) d_Md_read_33 (by decide) (fun c => ?_) (fun c => ?_)
  · replace h := Ok_t c h
    replace h := Ok_xit h
    refine G_aload_n d_Md_read_78 rfl 0 rfl ?_
    refine gm_Md_wantsPart d_Md_read_79 w_902 ?_
    refine G_if_ne (tgt := 92) d_Md_read_82 (by decide) (fun c => ?_) (fun c => ?_)
    · replace h := Ok_f c h
      refine G_iconst d_Md_read_92 lt_iconst_1 ?_
      refine G_goto (tgt := 97) d_Md_read_93 (by decide) ?_
      exact G_iret rfl (vp_nar_int _) d_Md_read_97 (hR _ _ (Ok_some h))
    replace h := Ok_t c h
    refine G_aload_n d_Md_read_85 rfl 0 rfl ?_
    refine G_callVi (st := []) (As := []) (b := ad 0) d_Md_read_86 mi_Md_through w_1308 0 rfl rfl mv_Md_through rfl (Nat.le_of_ble_eq_true rfl) (by decide) (c_Md_through  s (Ok_bd2 h)) (fun v1 s2 h hnv1 => ?_)
    refine G_if_eq (tgt := 96) d_Md_read_89 (by decide) (fun c => ?_) (fun c => ?_)
    · replace h := Ok_t c h
      refine G_iconst d_Md_read_96 lt_iconst_0 ?_
      exact G_iret rfl (vp_nar_int _) d_Md_read_97 (hR _ _ (Ok_some h))
    replace h := Ok_f c h
    refine G_iconst d_Md_read_92 lt_iconst_1 ?_
    refine G_goto (tgt := 97) d_Md_read_93 (by decide) ?_
    exact G_iret rfl (vp_nar_int _) d_Md_read_97 (hR _ _ (Ok_some h))
  replace h := Ok_f c h
  refine G_aload_n d_Md_read_36 rfl 0 rfl ?_
  refine gm_Md_wantsPart d_Md_read_37 w_902 ?_
  refine G_if_eq (tgt := 50) d_Md_read_40 (by decide) (fun c => ?_) (fun c => ?_)
  · replace h := Ok_t c h
    refine G_aload_n d_Md_read_50 rfl 0 rfl ?_
    refine G_callVi (st := []) (As := []) (b := ad 0) d_Md_read_51 mi_Md_behind w_1300 0 rfl rfl mv_Md_behind rfl (Nat.le_of_ble_eq_true rfl) (by decide) (c_Md_behind  s (Ok_bd2 h)) (fun v3 s4 h hnv3 => ?_)
    exact Md_read_j54_w v3 s4 hR hL29 h
  replace h := Ok_f c h
  refine G_aload_n d_Md_read_43 rfl 0 rfl ?_
  refine G_callVi (st := []) (As := []) (b := ad 0) d_Md_read_44 mi_Md_part w_1272 0 rfl rfl mv_Md_part rfl (Nat.le_of_ble_eq_true rfl) (by decide) (c_Md_part  s (Ok_bd2 h)) (fun v5 s6 h hnv5 => ?_)
  refine G_goto (tgt := 54) d_Md_read_47 (by decide) ?_
  exact Md_read_j54_w v5 s6 hR hL29 h
noncomputable def f_Md_read (s : MS) : Option (Int32 × MS) :=
  bnd (pf s 20 (0 : Int32)) fun s1 => bnd (pf s1 28 (0 : Int32)) fun s2 => bnd (pf s2 29 (0 : Int32)) fun s3 => bnd (pf s3 30 (0 : Int32)) fun s4 => bnd (pf s4 31 (1 : Int32)) fun s5 => (f_Md_nextToken s5).bind fun s6 => loop (fun z => Md_read_l29 z) s6
theorem f_Md_read_w {l : Launch} {D : va_G} {cI cZ cJ : ClassId} {ad : Nat → Nat} (s : MS) {Q : Int32 → MS → Prop} {Post : (Int32 × MS) → Prop} (hR : ∀ (r9 : Int32) (s9 : MS), Post ((r9, s9)) → Q r9 s9) (h : Ok (f_Md_read s) Post) : G (XM l D cI cZ cJ ad) "SmallHarbourModel" b_Md_read 2 (some .int) 4 0 [(0, .ref (ad 0))] [] s Q := by
  unfold f_Md_read at h
  refine G_aload_n d_Md_read_0 rfl 0 rfl ?_
  refine G_iconst d_Md_read_1 lt_iconst_0 ?_
  refine pm_Md_at d_Md_read_2 w_886 (fun s1 e => ?_)
  replace h := Ok_bnd h s1 e
  clear e
  refine G_aload_n d_Md_read_5 rfl 0 rfl ?_
  refine G_iconst d_Md_read_6 lt_iconst_0 ?_
  refine pm_Md_opens d_Md_read_7 w_899 (fun s2 e => ?_)
  replace h := Ok_bnd h s2 e
  clear e
  refine G_aload_n d_Md_read_10 rfl 0 rfl ?_
  refine G_iconst d_Md_read_11 lt_iconst_0 ?_
  refine pm_Md_nest d_Md_read_12 w_900 (fun s3 e => ?_)
  replace h := Ok_bnd h s3 e
  clear e
  refine G_aload_n d_Md_read_15 rfl 0 rfl ?_
  refine G_iconst d_Md_read_16 lt_iconst_0 ?_
  refine pm_Md_tokens d_Md_read_17 w_901 (fun s4 e => ?_)
  replace h := Ok_bnd h s4 e
  clear e
  refine G_aload_n d_Md_read_20 rfl 0 rfl ?_
  refine G_iconst d_Md_read_21 lt_iconst_1 ?_
  refine pm_Md_wantsPart d_Md_read_22 w_902 rfl rfl (fun s5 e => ?_)
  replace h := Ok_bnd h s5 e
  clear e
  refine G_aload_n d_Md_read_25 rfl 0 rfl ?_
  refine G_callVv (st := []) (As := []) (b := ad 0) d_Md_read_26 mi_Md_nextToken w_1248 0 rfl rfl mv_Md_nextToken rfl (Nat.le_of_ble_eq_true rfl) (by decide) (c_Md_nextToken  s5 (Ok_bind h)) (fun s6 h => ?_)
  exact G_loop (J := (fun z => G (XM l D cI cZ cJ ad) "SmallHarbourModel" b_Md_read 2 (some .int) 4 29 [(0, .ref (ad 0))] [] z Q)) (fun z h => Md_read_l29_w z (Post := Sum.elim (fun z => G (XM l D cI cZ cJ ad) "SmallHarbourModel" b_Md_read 2 (some .int) 4 29 [(0, .ref (ad 0))] [] z Q) _) hR (fun s9 h => h) h) s6 h
theorem c_Md_read {l : Launch} {D : va_G} {cI cZ cJ : ClassId} {ad : Nat → Nat} (s : MS) {P : Int32 → MS → Prop} (h : Ok2 (f_Md_read  s) P) : Ct (XM l D cI cZ cJ ad) y_Md_read b_Md_read 2 (some .int) 4 [.ref (ad 0)] s (P) :=
  Ct.of mi_Md_read (Nat.le_of_ble_eq_true rfl) (f_Md_read_w  s (Post := fun q => P q.1 q.2) (fun _ _ h => h) (Ok2_ok h))
-- Md_rule
noncomputable def Md_rule_j59 (x1 t0 : Int32) (s : MS) : Option (Int32 × MS) :=
  bnd (pf s 27 t0) fun s1 => bnd (pf s1 19 (0 : Int32)) fun s2 => if (s2.1 26) = 0 then (chk (inb (s2.1 24) 8) (bnd (pa s2 30 (s2.1 24).toNatClampNeg x1) fun s3 => bnd (pf s3 24 ((s3.1 24) + (1 : Int32))) fun s4 => chk (inb (s4.1 24) 9) (bnd (pa s4 31 (s4.1 24).toNatClampNeg (s4.1 25)) fun s5 => some (((s5.1 24) - (1 : Int32)), s5)))) else (some ((-1 : Int32), s2))
theorem Md_rule_j59_w {l : Launch} {D : va_G} {cI cZ cJ : ClassId} {ad : Nat → Nat} (x1 t0 : Int32) (s : MS) {Q : Int32 → MS → Prop} {Post : (Int32 × MS) → Prop} (hR : ∀ (r9 : Int32) (s9 : MS), Post ((r9, s9)) → Q r9 s9) (h : Ok (Md_rule_j59 x1 t0 s) Post) : G (XM l D cI cZ cJ ad) "SmallHarbourModel" b_Md_rule 2 (some .int) 5 59 [(0, .ref (ad 0)), (1, .int x1)] [.int t0, .ref (ad 0)] s Q := by
  unfold Md_rule_j59 at h
  refine pm_Md_faultPlace d_Md_rule_59 w_897 (fun s1 e => ?_)
  replace h := Ok_bnd h s1 e
  clear e
  refine G_aload_n d_Md_rule_62 rfl 0 rfl ?_
  refine G_iconst d_Md_rule_63 lt_iconst_0 ?_
  refine pm_Md_taped d_Md_rule_64 w_885 (fun s2 e => ?_)
  replace h := Ok_bnd h s2 e
  clear e
  refine G_aload_n d_Md_rule_67 rfl 0 rfl ?_
  refine gm_Md_fault d_Md_rule_68 w_896 ?_
  refine G_if_eq (tgt := 76) d_Md_rule_71 (by decide) (fun c => ?_) (fun c => ?_)
  · replace h := Ok_t c h
    refine G_aload_n d_Md_rule_76 rfl 0 rfl ?_
    refine gm_Md_ruleDay d_Md_rule_77 w_891 ?_
    refine G_aload_n d_Md_rule_80 rfl 0 rfl ?_
    refine gm_Md_rules d_Md_rule_81 w_890 ?_
    refine G_iload_n d_Md_rule_84 rfl 1 rfl ?_
    refine sm_30 d_Md_rule_85 (Ok_ld h).1 (fun s3 e => ?_)
    replace h := (Ok_ld h).2 s3 e
    clear e
    refine G_aload_n d_Md_rule_86 rfl 0 rfl ?_
    refine G_dup d_Md_rule_87 rfl ?_
    refine gm_Md_rules d_Md_rule_88 w_890 ?_
    refine G_iconst d_Md_rule_91 lt_iconst_1 ?_
    refine G_iadd d_Md_rule_92 ?_
    refine pm_Md_rules d_Md_rule_93 w_890 (fun s4 e => ?_)
    replace h := Ok_bnd h s4 e
    clear e
    refine G_aload_n d_Md_rule_96 rfl 0 rfl ?_
    refine gm_Md_ruleFrom d_Md_rule_97 w_892 ?_
    refine G_aload_n d_Md_rule_100 rfl 0 rfl ?_
    refine gm_Md_rules d_Md_rule_101 w_890 ?_
    refine G_aload_n d_Md_rule_104 rfl 0 rfl ?_
    refine gm_Md_signs d_Md_rule_105 w_895 ?_
    refine sm_31 d_Md_rule_108 (Ok_ld h).1 (fun s5 e => ?_)
    replace h := (Ok_ld h).2 s5 e
    clear e
    refine G_aload_n d_Md_rule_109 rfl 0 rfl ?_
    refine gm_Md_rules d_Md_rule_110 w_890 ?_
    refine G_iconst d_Md_rule_113 lt_iconst_1 ?_
    refine G_isub d_Md_rule_114 ?_
    exact G_iret rfl (vp_nar_int _) d_Md_rule_115 (hR _ _ (Ok_some h))
  replace h := Ok_f c h
  refine G_iconst d_Md_rule_74 lt_iconst_m1 ?_
  exact G_iret rfl (vp_nar_int _) d_Md_rule_75 (hR _ _ (Ok_some h))
noncomputable def f_Md_rule (a1 : Int32) (s : MS) : Option (Int32 × MS) :=
  (f_Md_isIn a1 (0 : Int32) (399 : Int32)).bind fun v1 => if v1 = 0 then (some ((-1 : Int32), s)) else (if (s.1 24) = (8 : Int32) then (some ((-1 : Int32), s)) else (chk (inb (s.1 24) 9) (bnd (s.2 31 (s.1 24).toNatClampNeg) fun v2 => bnd (pf s 25 v2) fun s3 => bd2 (f_Md_read s3) fun v4 s5 => bnd (pf s5 26 v4) fun s6 => if (s6.1 26) = 0 then (Md_rule_j59 a1 (-1 : Int32) s6) else (Md_rule_j59 a1 (s6.1 21) s6))))
theorem f_Md_rule_w {l : Launch} {D : va_G} {cI cZ cJ : ClassId} {ad : Nat → Nat} (a1 : Int32) (s : MS) {Q : Int32 → MS → Prop} {Post : (Int32 × MS) → Prop} (hR : ∀ (r9 : Int32) (s9 : MS), Post ((r9, s9)) → Q r9 s9) (h : Ok (f_Md_rule a1 s) Post) : G (XM l D cI cZ cJ ad) "SmallHarbourModel" b_Md_rule 2 (some .int) 5 0 [(0, .ref (ad 0)), (1, .int a1)] [] s Q := by
  unfold f_Md_rule at h
  refine G_iload_n d_Md_rule_0 rfl 1 rfl ?_
  refine G_iconst d_Md_rule_1 lt_iconst_0 ?_
  refine G_sipush d_Md_rule_2 lt_sipush_399 ?_
  refine G_callSp (st := []) (As := [.int a1, .int (0 : Int32), .int (399 : Int32)]) d_Md_rule_5 mi_Md_isIn w_1045 w_1046 rfl (Nat.le_of_ble_eq_true rfl) (by decide) (c_Md_isIn a1 (0 : Int32) (399 : Int32) s (Ok_bind h)) (fun v1 h hnv1 => ?_)
  refine G_if_eq (tgt := 20) d_Md_rule_8 (by decide) (fun c => ?_) (fun c => ?_)
  · replace h := Ok_t c h
    refine G_iconst d_Md_rule_20 lt_iconst_m1 ?_
    exact G_iret rfl (vp_nar_int _) d_Md_rule_21 (hR _ _ (Ok_some h))
  replace h := Ok_f c h
  refine G_aload_n d_Md_rule_11 rfl 0 rfl ?_
  refine gm_Md_rules d_Md_rule_12 w_890 ?_
  refine G_bipush d_Md_rule_15 lt_bipush_8 ?_
  refine G_icmp_ne (tgt := 22) d_Md_rule_17 (by decide) (fun c => ?_) (fun c => ?_)
  · replace h := Ok_f c h
    refine G_aload_n d_Md_rule_22 rfl 0 rfl ?_
    refine G_aload_n d_Md_rule_23 rfl 0 rfl ?_
    refine gm_Md_ruleFrom d_Md_rule_24 w_892 ?_
    refine G_aload_n d_Md_rule_27 rfl 0 rfl ?_
    refine gm_Md_rules d_Md_rule_28 w_890 ?_
    refine lm_31 d_Md_rule_31 (Ok_ld h).1 (fun v2 e => ?_)
    replace h := (Ok_ld h).2 v2 e
    clear e
    refine pm_Md_signs d_Md_rule_32 w_895 (fun s3 e => ?_)
    replace h := Ok_bnd h s3 e
    clear e
    refine G_aload_n d_Md_rule_35 rfl 0 rfl ?_
    refine G_aload_n d_Md_rule_36 rfl 0 rfl ?_
    refine G_callVi (st := [.ref (ad 0)]) (As := []) (b := ad 0) d_Md_rule_37 mi_Md_read w_1244 0 rfl rfl mv_Md_read rfl (Nat.le_of_ble_eq_true rfl) (by decide) (c_Md_read  s3 (Ok_bd2 h)) (fun v4 s5 h hnv4 => ?_)
    refine pm_Md_fault d_Md_rule_40 w_896 (fun s6 e => ?_)
    replace h := Ok_bnd h s6 e
    clear e
    refine G_aload_n d_Md_rule_43 rfl 0 rfl ?_
    refine G_aload_n d_Md_rule_44 rfl 0 rfl ?_
    refine gm_Md_fault d_Md_rule_45 w_896 ?_
    refine G_if_ne (tgt := 55) d_Md_rule_48 (by decide) (fun c => ?_) (fun c => ?_)
    · replace h := Ok_f c h
      refine G_aload_n d_Md_rule_55 rfl 0 rfl ?_
      refine gm_Md_place d_Md_rule_56 w_887 ?_
      exact Md_rule_j59_w a1 (s6.1 21) s6 hR h
    replace h := Ok_t c h
    refine G_iconst d_Md_rule_51 lt_iconst_m1 ?_
    refine G_goto (tgt := 59) d_Md_rule_52 (by decide) ?_
    exact Md_rule_j59_w a1 (-1 : Int32) s6 hR h
  replace h := Ok_t c h
  refine G_iconst d_Md_rule_20 lt_iconst_m1 ?_
  exact G_iret rfl (vp_nar_int _) d_Md_rule_21 (hR _ _ (Ok_some h))
theorem c_Md_rule {l : Launch} {D : va_G} {cI cZ cJ : ClassId} {ad : Nat → Nat} (a1 : Int32) (s : MS) {P : Int32 → MS → Prop} (h : Ok2 (f_Md_rule a1 s) P) : Ct (XM l D cI cZ cJ ad) y_Md_rule b_Md_rule 2 (some .int) 5 [.ref (ad 0), .int a1] s (P) :=
  Ct.of mi_Md_rule (Nat.le_of_ble_eq_true rfl) (f_Md_rule_w a1 s (Post := fun q => P q.1 q.2) (fun _ _ h => h) (Ok2_ok h))
-- Md_says
noncomputable def f_Md_says (a1 a2 a3 a4 : Int32) (s : MS) : Option (Int32 × MS) :=
  (f_Md_isIn a1 (0 : Int32) ((s.1 24) - (1 : Int32))).bind fun v1 => if v1 = 0 then (some ((0 : Int32), s)) else (bd2 (f_Md_work a1 a2 a3 a4 s) fun v2 s3 => some (v2, s3))
theorem f_Md_says_w {l : Launch} {D : va_G} {cI cZ cJ : ClassId} {ad : Nat → Nat} (a1 a2 a3 a4 : Int32) (s : MS) {Q : Int32 → MS → Prop} {Post : (Int32 × MS) → Prop} (hR : ∀ (r9 : Int32) (s9 : MS), Post ((r9, s9)) → Q r9 s9) (h : Ok (f_Md_says a1 a2 a3 a4 s) Post) : G (XM l D cI cZ cJ ad) "SmallHarbourModel" b_Md_says 5 (some .int) 2 0 [(0, .ref (ad 0)), (1, .int a1), (2, .int a2), (3, .int a3), (4, .int a4)] [] s Q := by
  unfold f_Md_says at h
  refine G_iload_n d_Md_says_0 rfl 1 rfl ?_
  refine G_iconst d_Md_says_1 lt_iconst_0 ?_
  refine G_aload_n d_Md_says_2 rfl 0 rfl ?_
  refine gm_Md_rules d_Md_says_3 w_890 ?_
  refine G_iconst d_Md_says_6 lt_iconst_1 ?_
  refine G_isub d_Md_says_7 ?_
  refine G_callSp (st := []) (As := [.int a1, .int (0 : Int32), .int ((s.1 24) - (1 : Int32))]) d_Md_says_8 mi_Md_isIn w_1045 w_1046 rfl (Nat.le_of_ble_eq_true rfl) (by decide) (c_Md_isIn a1 (0 : Int32) ((s.1 24) - (1 : Int32)) s (Ok_bind h)) (fun v1 h hnv1 => ?_)
  refine G_if_eq (tgt := 26) d_Md_says_11 (by decide) (fun c => ?_) (fun c => ?_)
  · replace h := Ok_t c h
    refine G_iconst d_Md_says_26 lt_iconst_0 ?_
    exact G_iret rfl (vp_nar_int _) d_Md_says_27 (hR _ _ (Ok_some h))
  replace h := Ok_f c h
  refine G_aload_n d_Md_says_14 rfl 0 rfl ?_
  refine G_iload_n d_Md_says_15 rfl 1 rfl ?_
  refine G_iload_n d_Md_says_16 rfl 2 rfl ?_
  refine G_iload_n d_Md_says_17 rfl 3 rfl ?_
  refine G_iload d_Md_says_18 4 rfl ?_
  refine G_callVi (st := []) (As := [.int a1, .int a2, .int a3, .int a4]) (b := ad 0) d_Md_says_20 mi_Md_work w_1165 0 rfl rfl mv_Md_work rfl (Nat.le_of_ble_eq_true rfl) (by decide) (c_Md_work a1 a2 a3 a4 s (Ok_bd2 h)) (fun v2 s3 h hnv2 => ?_)
  refine G_goto (tgt := 27) d_Md_says_23 (by decide) ?_
  exact G_iret rfl (vp_nar_int _) d_Md_says_27 (hR _ _ (Ok_some h))
theorem c_Md_says {l : Launch} {D : va_G} {cI cZ cJ : ClassId} {ad : Nat → Nat} (a1 a2 a3 a4 : Int32) (s : MS) {P : Int32 → MS → Prop} (h : Ok2 (f_Md_says a1 a2 a3 a4 s) P) : Ct (XM l D cI cZ cJ ad) y_Md_says b_Md_says 5 (some .int) 2 [.ref (ad 0), .int a1, .int a2, .int a3, .int a4] s (P) :=
  Ct.of mi_Md_says (Nat.le_of_ble_eq_true rfl) (f_Md_says_w a1 a2 a3 a4 s (Post := fun q => P q.1 q.2) (fun _ _ h => h) (Ok2_ok h))
-- Md_shed
noncomputable def f_Md_shed (a1 a2 : Int32) (s : MS) : Option (Int32 × MS) :=
  (f_Md_isIn a1 (1 : Int32) (4 : Int32)).bind fun v1 => if v1 = 0 then (some ((0 : Int32), s)) else ((f_Md_isIn a2 (10 : Int32) (2000 : Int32)).bind fun v2 => if v2 = 0 then (some ((0 : Int32), s)) else (bnd (pf s 16 a1) fun s3 => bnd (pf s3 17 a2) fun s4 => bnd (pf s4 18 (0 : Int32)) fun s5 => some ((1 : Int32), s5)))
theorem f_Md_shed_w {l : Launch} {D : va_G} {cI cZ cJ : ClassId} {ad : Nat → Nat} (a1 a2 : Int32) (s : MS) {Q : Int32 → MS → Prop} {Post : (Int32 × MS) → Prop} (hR : ∀ (r9 : Int32) (s9 : MS), Post ((r9, s9)) → Q r9 s9) (h : Ok (f_Md_shed a1 a2 s) Post) : G (XM l D cI cZ cJ ad) "SmallHarbourModel" b_Md_shed 3 (some .boolean) 1 0 [(0, .ref (ad 0)), (1, .int a1), (2, .int a2)] [] s Q := by
  unfold f_Md_shed at h
  refine G_iload_n d_Md_shed_0 rfl 1 rfl ?_
  refine G_iconst d_Md_shed_1 lt_iconst_1 ?_
  refine G_iconst d_Md_shed_2 lt_iconst_4 ?_
  refine G_callSp (st := []) (As := [.int a1, .int (1 : Int32), .int (4 : Int32)]) d_Md_shed_3 mi_Md_isIn w_1045 w_1046 rfl (Nat.le_of_ble_eq_true rfl) (by decide) (c_Md_isIn a1 (1 : Int32) (4 : Int32) s (Ok_bind h)) (fun v1 h hnv1 => ?_)
  refine G_if_eq (tgt := 21) d_Md_shed_6 (by decide) (fun c => ?_) (fun c => ?_)
  · replace h := Ok_t c h
    refine G_iconst d_Md_shed_21 lt_iconst_0 ?_
    exact G_iret rfl rfl d_Md_shed_22 (hR _ _ (Ok_some h))
  replace h := Ok_f c h
  refine G_iload_n d_Md_shed_9 rfl 2 rfl ?_
  refine G_bipush d_Md_shed_10 lt_bipush_10 ?_
  refine G_sipush d_Md_shed_12 lt_sipush_2000 ?_
  refine G_callSp (st := []) (As := [.int a2, .int (10 : Int32), .int (2000 : Int32)]) d_Md_shed_15 mi_Md_isIn w_1045 w_1046 rfl (Nat.le_of_ble_eq_true rfl) (by decide) (c_Md_isIn a2 (10 : Int32) (2000 : Int32) s (Ok_bind h)) (fun v2 h hnv2 => ?_)
  refine G_if_ne (tgt := 23) d_Md_shed_18 (by decide) (fun c => ?_) (fun c => ?_)
  · replace h := Ok_f c h
    refine G_aload_n d_Md_shed_23 rfl 0 rfl ?_
    refine G_iload_n d_Md_shed_24 rfl 1 rfl ?_
    refine pm_Md_lanes d_Md_shed_25 w_877 (fun s3 e => ?_)
    replace h := Ok_bnd h s3 e
    clear e
    refine G_aload_n d_Md_shed_28 rfl 0 rfl ?_
    refine G_iload_n d_Md_shed_29 rfl 2 rfl ?_
    refine pm_Md_laneLength d_Md_shed_30 w_878 (fun s4 e => ?_)
    replace h := Ok_bnd h s4 e
    clear e
    refine G_aload_n d_Md_shed_33 rfl 0 rfl ?_
    refine G_iconst d_Md_shed_34 lt_iconst_0 ?_
    refine pm_Md_inShed d_Md_shed_35 w_879 (fun s5 e => ?_)
    replace h := Ok_bnd h s5 e
    clear e
    refine G_iconst d_Md_shed_38 lt_iconst_1 ?_
    exact G_iret rfl rfl d_Md_shed_39 (hR _ _ (Ok_some h))
  replace h := Ok_t c h
  refine G_iconst d_Md_shed_21 lt_iconst_0 ?_
  exact G_iret rfl rfl d_Md_shed_22 (hR _ _ (Ok_some h))
theorem c_Md_shed {l : Launch} {D : va_G} {cI cZ cJ : ClassId} {ad : Nat → Nat} (a1 a2 : Int32) (s : MS) {P : Int32 → MS → Prop} (h : Ok2 (f_Md_shed a1 a2 s) P) : Ct (XM l D cI cZ cJ ad) y_Md_shed b_Md_shed 3 (some .boolean) 1 [.ref (ad 0), .int a1, .int a2] s (P) :=
  Ct.of mi_Md_shed (Nat.le_of_ble_eq_true rfl) (f_Md_shed_w a1 a2 s (Post := fun q => P q.1 q.2) (fun _ _ h => h) (Ok2_ok h))
-- Md_stay
noncomputable def Md_stay_j103 (x1 x2 x3 x4 : Int32) (s : MS) : Option (Int32 × MS) :=
  if x4 = (s.1 1) then (some ((-1 : Int32), s)) else ((f_Md_putStay x1 x4 x2 x3 s).bind fun s1 => some (((s1.1 4) - (1 : Int32)), s1))
theorem Md_stay_j103_w {l : Launch} {D : va_G} {cI cZ cJ : ClassId} {ad : Nat → Nat} (x1 x2 x3 x4 : Int32) (s : MS) {Q : Int32 → MS → Prop} {Post : (Int32 × MS) → Prop} (hR : ∀ (r9 : Int32) (s9 : MS), Post ((r9, s9)) → Q r9 s9) (h : Ok (Md_stay_j103 x1 x2 x3 x4 s) Post) : G (XM l D cI cZ cJ ad) "SmallHarbourModel" b_Md_stay 5 (some .int) 4 103 [(0, .ref (ad 0)), (1, .int x1), (2, .int x2), (3, .int x3), (4, .int x4)] [] s Q := by
  unfold Md_stay_j103 at h
  refine G_iload d_Md_stay_103 4 rfl ?_
  refine G_aload_n d_Md_stay_105 rfl 0 rfl ?_
  refine gm_Md_berths d_Md_stay_106 w_838 ?_
  refine G_icmp_ne (tgt := 114) d_Md_stay_109 (by decide) (fun c => ?_) (fun c => ?_)
  · replace h := Ok_f c h
    refine G_aload_n d_Md_stay_114 rfl 0 rfl ?_
    refine G_iload_n d_Md_stay_115 rfl 1 rfl ?_
    refine G_iload d_Md_stay_116 4 rfl ?_
    refine G_iload_n d_Md_stay_118 rfl 2 rfl ?_
    refine G_iload_n d_Md_stay_119 rfl 3 rfl ?_
    refine G_callVv (st := []) (As := [.int x1, .int x4, .int x2, .int x3]) (b := ad 0) d_Md_stay_120 mi_Md_putStay w_1112 0 rfl rfl mv_Md_putStay rfl (Nat.le_of_ble_eq_true rfl) (by decide) (c_Md_putStay x1 x4 x2 x3 s (Ok_bind h)) (fun s1 h => ?_)
    refine G_aload_n d_Md_stay_123 rfl 0 rfl ?_
    refine gm_Md_stays d_Md_stay_124 w_850 ?_
    refine G_iconst d_Md_stay_127 lt_iconst_1 ?_
    refine G_isub d_Md_stay_128 ?_
    exact G_iret rfl (vp_nar_int _) d_Md_stay_129 (hR _ _ (Ok_some h))
  replace h := Ok_t c h
  refine G_iconst d_Md_stay_112 lt_iconst_m1 ?_
  exact G_iret rfl (vp_nar_int _) d_Md_stay_113 (hR _ _ (Ok_some h))
noncomputable def Md_stay_l65 (x1 x2 x3 : Int32) (s : MS) (x4 : Int32) : Option ((Int32) ⊕ (Int32 × MS)) :=
  if (s.1 1) ≤ x4 then (xit (Md_stay_j103 x1 x2 x3 x4 s)) else ((f_Md_fitsAll x1 x4 x2 x3 s).bind fun v1 => if v1 = 0 then (bnd (x4 + (1 : Int32)) fun v2 => some (.inl v2)) else ((f_Md_isEmpty x4 x2 x3 s).bind fun v3 => if v3 = 0 then (bnd (x4 + (1 : Int32)) fun v4 => some (.inl v4)) else (xit (Md_stay_j103 x1 x2 x3 x4 s))))
theorem Md_stay_l65_w {l : Launch} {D : va_G} {cI cZ cJ : ClassId} {ad : Nat → Nat} (x1 x2 x3 x4 : Int32) (s : MS) {Q : Int32 → MS → Prop} {Post : ((Int32) ⊕ (Int32 × MS)) → Prop} (hR : ∀ (r9 : Int32) (s9 : MS), Post (.inr ((r9, s9))) → Q r9 s9) (hL65 : ∀ (z4 : Int32) , Post (.inl z4) → G (XM l D cI cZ cJ ad) "SmallHarbourModel" b_Md_stay 5 (some .int) 4 65 [(0, .ref (ad 0)), (1, .int x1), (2, .int x2), (3, .int x3), (4, .int z4)] [] s Q) (h : Ok (Md_stay_l65 x1 x2 x3 s x4) Post) : G (XM l D cI cZ cJ ad) "SmallHarbourModel" b_Md_stay 5 (some .int) 4 65 [(0, .ref (ad 0)), (1, .int x1), (2, .int x2), (3, .int x3), (4, .int x4)] [] s Q := by
  unfold Md_stay_l65 at h
  refine G_iload d_Md_stay_65 4 rfl ?_
  refine G_aload_n d_Md_stay_67 rfl 0 rfl ?_
  refine gm_Md_berths d_Md_stay_68 w_838 ?_
  refine G_icmp_ge (tgt := 103) d_Md_stay_71 (by decide) (fun c => ?_) (fun c => ?_)
  · replace h := Ok_t c h
    replace h := Ok_xit h
    exact Md_stay_j103_w x1 x2 x3 x4 s hR h
  replace h := Ok_f c h
  refine G_aload_n d_Md_stay_74 rfl 0 rfl ?_
  refine G_iload_n d_Md_stay_75 rfl 1 rfl ?_
  refine G_iload d_Md_stay_76 4 rfl ?_
  refine G_iload_n d_Md_stay_78 rfl 2 rfl ?_
  refine G_iload_n d_Md_stay_79 rfl 3 rfl ?_
  refine G_callVp (st := []) (As := [.int x1, .int x4, .int x2, .int x3]) (b := ad 0) d_Md_stay_80 mi_Md_fitsAll w_1092 0 rfl rfl mv_Md_fitsAll rfl (Nat.le_of_ble_eq_true rfl) (by decide) (c_Md_fitsAll x1 x4 x2 x3 s (Ok_bind h)) (fun v1 h hnv1 => ?_)
  refine G_if_eq (tgt := 97) d_Md_stay_83 (by decide) (fun c => ?_) (fun c => ?_)
  · replace h := Ok_t c h
    refine G_iinc d_Md_stay_97 4 rfl lt_iconst_1 rfl (Nat.le_of_ble_eq_true rfl) (fun x => [(4, .int x), (0, .ref (ad 0)), (1, .int x1), (2, .int x2), (3, .int x3)]) (fun _ => rfl) (fun v2 e => ?_)
    replace h := Ok_bnd h v2 e
    clear e
    refine G_goto (tgt := 65) d_Md_stay_100 (by decide) ?_
    refine G_lv [1, 2, 3, 4, 0] rfl ?_
    exact hL65 v2 (Ok_some h)
  replace h := Ok_f c h
  refine G_aload_n d_Md_stay_86 rfl 0 rfl ?_
  refine G_iload d_Md_stay_87 4 rfl ?_
  refine G_iload_n d_Md_stay_89 rfl 2 rfl ?_
  refine G_iload_n d_Md_stay_90 rfl 3 rfl ?_
  refine G_callVp (st := []) (As := [.int x4, .int x2, .int x3]) (b := ad 0) d_Md_stay_91 mi_Md_isEmpty w_1096 0 rfl rfl mv_Md_isEmpty rfl (Nat.le_of_ble_eq_true rfl) (by decide) (c_Md_isEmpty x4 x2 x3 s (Ok_bind h)) (fun v3 h hnv3 => ?_)
  refine G_if_ne (tgt := 103) d_Md_stay_94 (by decide) (fun c => ?_) (fun c => ?_)
  · replace h := Ok_f c h
    replace h := Ok_xit h
    exact Md_stay_j103_w x1 x2 x3 x4 s hR h
  replace h := Ok_t c h
  refine G_iinc d_Md_stay_97 4 rfl lt_iconst_1 rfl (Nat.le_of_ble_eq_true rfl) (fun x => [(4, .int x), (0, .ref (ad 0)), (1, .int x1), (2, .int x2), (3, .int x3)]) (fun _ => rfl) (fun v4 e => ?_)
  replace h := Ok_bnd h v4 e
  clear e
  refine G_goto (tgt := 65) d_Md_stay_100 (by decide) ?_
  refine G_lv [1, 2, 3, 4, 0] rfl ?_
  exact hL65 v4 (Ok_some h)
noncomputable def f_Md_stay (a1 a2 a3 : Int32) (s : MS) : Option (Int32 × MS) :=
  (f_Md_isBoat a1 s).bind fun v1 => if v1 = 0 then (some ((-1 : Int32), s)) else (chk (inb a1 30) (bnd (s.2 6 a1.toNatClampNeg) fun v2 => if 0 ≤ v2 then (some ((-1 : Int32), s)) else ((f_Md_isIn a2 (0 : Int32) (400 : Int32)).bind fun v3 => if v3 = 0 then (some ((-1 : Int32), s)) else ((f_Md_isIn a3 (a2 + (1 : Int32)) (400 : Int32)).bind fun v4 => if v4 = 0 then (some ((-1 : Int32), s)) else (if (s.1 4) = (40 : Int32) then (some ((-1 : Int32), s)) else ((f_Md_hasStay a1 a2 a3 s).bind fun v5 => if v5 = 0 then (loop (fun z => Md_stay_l65 a1 a2 a3 s z) (0 : Int32)) else (some ((-1 : Int32), s))))))))
theorem f_Md_stay_w {l : Launch} {D : va_G} {cI cZ cJ : ClassId} {ad : Nat → Nat} (a1 a2 a3 : Int32) (s : MS) {Q : Int32 → MS → Prop} {Post : (Int32 × MS) → Prop} (hR : ∀ (r9 : Int32) (s9 : MS), Post ((r9, s9)) → Q r9 s9) (h : Ok (f_Md_stay a1 a2 a3 s) Post) : G (XM l D cI cZ cJ ad) "SmallHarbourModel" b_Md_stay 5 (some .int) 4 0 [(0, .ref (ad 0)), (1, .int a1), (2, .int a2), (3, .int a3)] [] s Q := by
  unfold f_Md_stay at h
  refine G_aload_n d_Md_stay_0 rfl 0 rfl ?_
  refine G_iload_n d_Md_stay_1 rfl 1 rfl ?_
  refine G_callVp (st := []) (As := [.int a1]) (b := ad 0) d_Md_stay_2 mi_Md_isBoat w_1076 0 rfl rfl mv_Md_isBoat rfl (Nat.le_of_ble_eq_true rfl) (by decide) (c_Md_isBoat a1 s (Ok_bind h)) (fun v1 h hnv1 => ?_)
  refine G_if_eq (tgt := 60) d_Md_stay_5 (by decide) (fun c => ?_) (fun c => ?_)
  · replace h := Ok_t c h
    refine G_iconst d_Md_stay_60 lt_iconst_m1 ?_
    exact G_iret rfl (vp_nar_int _) d_Md_stay_61 (hR _ _ (Ok_some h))
  replace h := Ok_f c h
  refine G_aload_n d_Md_stay_8 rfl 0 rfl ?_
  refine gm_Md_home d_Md_stay_9 w_845 ?_
  refine G_iload_n d_Md_stay_12 rfl 1 rfl ?_
  refine lm_6 d_Md_stay_13 (Ok_ld h).1 (fun v2 e => ?_)
  replace h := (Ok_ld h).2 v2 e
  clear e
  refine G_if_ge (tgt := 60) d_Md_stay_14 (by decide) (fun c => ?_) (fun c => ?_)
  · replace h := Ok_t c h
    refine G_iconst d_Md_stay_60 lt_iconst_m1 ?_
    exact G_iret rfl (vp_nar_int _) d_Md_stay_61 (hR _ _ (Ok_some h))
  replace h := Ok_f c h
  refine G_iload_n d_Md_stay_17 rfl 2 rfl ?_
  refine G_iconst d_Md_stay_18 lt_iconst_0 ?_
  refine G_sipush d_Md_stay_19 lt_sipush_400 ?_
  refine G_callSp (st := []) (As := [.int a2, .int (0 : Int32), .int (400 : Int32)]) d_Md_stay_22 mi_Md_isIn w_1045 w_1046 rfl (Nat.le_of_ble_eq_true rfl) (by decide) (c_Md_isIn a2 (0 : Int32) (400 : Int32) s (Ok_bind h)) (fun v3 h hnv3 => ?_)
  refine G_if_eq (tgt := 60) d_Md_stay_25 (by decide) (fun c => ?_) (fun c => ?_)
  · replace h := Ok_t c h
    refine G_iconst d_Md_stay_60 lt_iconst_m1 ?_
    exact G_iret rfl (vp_nar_int _) d_Md_stay_61 (hR _ _ (Ok_some h))
  replace h := Ok_f c h
  refine G_iload_n d_Md_stay_28 rfl 3 rfl ?_
  refine G_iload_n d_Md_stay_29 rfl 2 rfl ?_
  refine G_iconst d_Md_stay_30 lt_iconst_1 ?_
  refine G_iadd d_Md_stay_31 ?_
  refine G_sipush d_Md_stay_32 lt_sipush_400 ?_
  refine G_callSp (st := []) (As := [.int a3, .int (a2 + (1 : Int32)), .int (400 : Int32)]) d_Md_stay_35 mi_Md_isIn w_1045 w_1046 rfl (Nat.le_of_ble_eq_true rfl) (by decide) (c_Md_isIn a3 (a2 + (1 : Int32)) (400 : Int32) s (Ok_bind h)) (fun v4 h hnv4 => ?_)
  refine G_if_eq (tgt := 60) d_Md_stay_38 (by decide) (fun c => ?_) (fun c => ?_)
  · replace h := Ok_t c h
    refine G_iconst d_Md_stay_60 lt_iconst_m1 ?_
    exact G_iret rfl (vp_nar_int _) d_Md_stay_61 (hR _ _ (Ok_some h))
  replace h := Ok_f c h
  refine G_aload_n d_Md_stay_41 rfl 0 rfl ?_
  refine gm_Md_stays d_Md_stay_42 w_850 ?_
  refine G_bipush d_Md_stay_45 lt_bipush_40 ?_
  refine G_icmp_eq (tgt := 60) d_Md_stay_47 (by decide) (fun c => ?_) (fun c => ?_)
  · replace h := Ok_t c h
    refine G_iconst d_Md_stay_60 lt_iconst_m1 ?_
    exact G_iret rfl (vp_nar_int _) d_Md_stay_61 (hR _ _ (Ok_some h))
  replace h := Ok_f c h
  refine G_aload_n d_Md_stay_50 rfl 0 rfl ?_
  refine G_iload_n d_Md_stay_51 rfl 1 rfl ?_
  refine G_iload_n d_Md_stay_52 rfl 2 rfl ?_
  refine G_iload_n d_Md_stay_53 rfl 3 rfl ?_
  refine G_callVp (st := []) (As := [.int a1, .int a2, .int a3]) (b := ad 0) d_Md_stay_54 mi_Md_hasStay w_1088 0 rfl rfl mv_Md_hasStay rfl (Nat.le_of_ble_eq_true rfl) (by decide) (c_Md_hasStay a1 a2 a3 s (Ok_bind h)) (fun v5 h hnv5 => ?_)
  refine G_if_eq (tgt := 62) d_Md_stay_57 (by decide) (fun c => ?_) (fun c => ?_)
  · replace h := Ok_t c h
    refine G_iconst d_Md_stay_62 lt_iconst_0 ?_
    refine G_istore d_Md_stay_63 (Nat.le_of_ble_eq_true rfl) (fun x => [(4, .int x), (0, .ref (ad 0)), (1, .int a1), (2, .int a2), (3, .int a3)]) (fun _ => rfl) (fun x e => ?_)
    subst e
    refine G_lv [1, 2, 3, 4, 0] rfl ?_
    exact G_loop (J := (fun z => G (XM l D cI cZ cJ ad) "SmallHarbourModel" b_Md_stay 5 (some .int) 4 65 [(0, .ref (ad 0)), (1, .int a1), (2, .int a2), (3, .int a3), (4, .int z)] [] s Q)) (fun z h => Md_stay_l65_w a1 a2 a3 z s (Post := Sum.elim (fun z => G (XM l D cI cZ cJ ad) "SmallHarbourModel" b_Md_stay 5 (some .int) 4 65 [(0, .ref (ad 0)), (1, .int a1), (2, .int a2), (3, .int a3), (4, .int z)] [] s Q) _) hR (fun z4 h => h) h) (0 : Int32) h
  replace h := Ok_f c h
  refine G_iconst d_Md_stay_60 lt_iconst_m1 ?_
  exact G_iret rfl (vp_nar_int _) d_Md_stay_61 (hR _ _ (Ok_some h))
theorem c_Md_stay {l : Launch} {D : va_G} {cI cZ cJ : ClassId} {ad : Nat → Nat} (a1 a2 a3 : Int32) (s : MS) {P : Int32 → MS → Prop} (h : Ok2 (f_Md_stay a1 a2 a3 s) P) : Ct (XM l D cI cZ cJ ad) y_Md_stay b_Md_stay 5 (some .int) 4 [.ref (ad 0), .int a1, .int a2, .int a3] s (P) :=
  Ct.of mi_Md_stay (Nat.le_of_ble_eq_true rfl) (f_Md_stay_w a1 a2 a3 s (Post := fun q => P q.1 q.2) (fun _ _ h => h) (Ok2_ok h))
-- Md_stayOf
noncomputable def f_Md_stayOf (a1 a2 : Int32) (s : MS) : Option (Int32 × MS) :=
  (f_Md_isIn a1 (0 : Int32) ((s.1 4) - (1 : Int32))).bind fun v1 => if v1 = 0 then (some ((-1 : Int32), s)) else (bnd a2 fun v2 => if v2 = (0 : Int32) then (chk (inb a1 40) (bnd (s.2 10 a1.toNatClampNeg) fun v3 => some (v3, s))) else (if v2 = (1 : Int32) then (chk (inb a1 40) (bnd (s.2 11 a1.toNatClampNeg) fun v4 => some (v4, s))) else (if v2 = (2 : Int32) then (chk (inb a1 40) (bnd (s.2 12 a1.toNatClampNeg) fun v5 => some (v5, s))) else (if v2 = (3 : Int32) then (chk (inb a1 40) (bnd (s.2 13 a1.toNatClampNeg) fun v6 => some (v6, s))) else (if v2 = (4 : Int32) then (bd2 (f_Md_bill a1 s) fun v7 s8 => some (v7, s8)) else (some ((-1 : Int32), s)))))))
theorem f_Md_stayOf_w {l : Launch} {D : va_G} {cI cZ cJ : ClassId} {ad : Nat → Nat} (a1 a2 : Int32) (s : MS) {Q : Int32 → MS → Prop} {Post : (Int32 × MS) → Prop} (hR : ∀ (r9 : Int32) (s9 : MS), Post ((r9, s9)) → Q r9 s9) (h : Ok (f_Md_stayOf a1 a2 s) Post) : G (XM l D cI cZ cJ ad) "SmallHarbourModel" b_Md_stayOf 3 (some .int) 3 0 [(0, .ref (ad 0)), (1, .int a1), (2, .int a2)] [] s Q := by
  unfold f_Md_stayOf at h
  refine G_iload_n d_Md_stayOf_0 rfl 1 rfl ?_
  refine G_iconst d_Md_stayOf_1 lt_iconst_0 ?_
  refine G_aload_n d_Md_stayOf_2 rfl 0 rfl ?_
  refine gm_Md_stays d_Md_stayOf_3 w_850 ?_
  refine G_iconst d_Md_stayOf_6 lt_iconst_1 ?_
  refine G_isub d_Md_stayOf_7 ?_
  refine G_callSp (st := []) (As := [.int a1, .int (0 : Int32), .int ((s.1 4) - (1 : Int32))]) d_Md_stayOf_8 mi_Md_isIn w_1045 w_1046 rfl (Nat.le_of_ble_eq_true rfl) (by decide) (c_Md_isIn a1 (0 : Int32) ((s.1 4) - (1 : Int32)) s (Ok_bind h)) (fun v1 h hnv1 => ?_)
  refine G_if_ne (tgt := 16) d_Md_stayOf_11 (by decide) (fun c => ?_) (fun c => ?_)
  · replace h := Ok_f c h
    refine G_iload_n d_Md_stayOf_16 rfl 2 rfl ?_
    refine G_topi (fun v2 e => ?_)
    replace h := Ok_bnd h v2 e
    clear e
    by_cases c0 : v2 = (0 : Int32)
    · replace h := Ok_t c0 h
      refine G_tableIn (tgt := 52) d_Md_stayOf_17 (by rw [c0]; decide) (by rw [c0]; decide) (by rw [c0]; rfl) (by decide) ?_
      refine G_aload_n d_Md_stayOf_52 rfl 0 rfl ?_
      refine gm_Md_stayBoat d_Md_stayOf_53 w_851 ?_
      refine G_iload_n d_Md_stayOf_56 rfl 1 rfl ?_
      refine lm_10 d_Md_stayOf_57 (Ok_ld h).1 (fun v3 e => ?_)
      replace h := (Ok_ld h).2 v3 e
      clear e
      exact G_iret rfl (vp_nar_int _) d_Md_stayOf_58 (hR _ _ (Ok_some h))
    replace h := Ok_f c0 h
    have n0 := ne_ti (z := 0) (by decide) c0
    by_cases c1 : v2 = (1 : Int32)
    · replace h := Ok_t c1 h
      refine G_tableIn (tgt := 59) d_Md_stayOf_17 (by rw [c1]; decide) (by rw [c1]; decide) (by rw [c1]; rfl) (by decide) ?_
      refine G_aload_n d_Md_stayOf_59 rfl 0 rfl ?_
      refine gm_Md_stayBerth d_Md_stayOf_60 w_852 ?_
      refine G_iload_n d_Md_stayOf_63 rfl 1 rfl ?_
      refine lm_11 d_Md_stayOf_64 (Ok_ld h).1 (fun v4 e => ?_)
      replace h := (Ok_ld h).2 v4 e
      clear e
      exact G_iret rfl (vp_nar_int _) d_Md_stayOf_65 (hR _ _ (Ok_some h))
    replace h := Ok_f c1 h
    have n1 := ne_ti (z := 1) (by decide) c1
    by_cases c2 : v2 = (2 : Int32)
    · replace h := Ok_t c2 h
      refine G_tableIn (tgt := 66) d_Md_stayOf_17 (by rw [c2]; decide) (by rw [c2]; decide) (by rw [c2]; rfl) (by decide) ?_
      refine G_aload_n d_Md_stayOf_66 rfl 0 rfl ?_
      refine gm_Md_stayFrom d_Md_stayOf_67 w_853 ?_
      refine G_iload_n d_Md_stayOf_70 rfl 1 rfl ?_
      refine lm_12 d_Md_stayOf_71 (Ok_ld h).1 (fun v5 e => ?_)
      replace h := (Ok_ld h).2 v5 e
      clear e
      exact G_iret rfl (vp_nar_int _) d_Md_stayOf_72 (hR _ _ (Ok_some h))
    replace h := Ok_f c2 h
    have n2 := ne_ti (z := 2) (by decide) c2
    by_cases c3 : v2 = (3 : Int32)
    · replace h := Ok_t c3 h
      refine G_tableIn (tgt := 73) d_Md_stayOf_17 (by rw [c3]; decide) (by rw [c3]; decide) (by rw [c3]; rfl) (by decide) ?_
      refine G_aload_n d_Md_stayOf_73 rfl 0 rfl ?_
      refine gm_Md_stayTo d_Md_stayOf_74 w_854 ?_
      refine G_iload_n d_Md_stayOf_77 rfl 1 rfl ?_
      refine lm_13 d_Md_stayOf_78 (Ok_ld h).1 (fun v6 e => ?_)
      replace h := (Ok_ld h).2 v6 e
      clear e
      exact G_iret rfl (vp_nar_int _) d_Md_stayOf_79 (hR _ _ (Ok_some h))
    replace h := Ok_f c3 h
    have n3 := ne_ti (z := 3) (by decide) c3
    by_cases c4 : v2 = (4 : Int32)
    · replace h := Ok_t c4 h
      refine G_tableIn (tgt := 80) d_Md_stayOf_17 (by rw [c4]; decide) (by rw [c4]; decide) (by rw [c4]; rfl) (by decide) ?_
      refine G_aload_n d_Md_stayOf_80 rfl 0 rfl ?_
      refine G_iload_n d_Md_stayOf_81 rfl 1 rfl ?_
      refine G_callVi (st := []) (As := [.int a1]) (b := ad 0) d_Md_stayOf_82 mi_Md_bill w_1161 0 rfl rfl mv_Md_bill rfl (Nat.le_of_ble_eq_true rfl) (by decide) (c_Md_bill a1 s (Ok_bd2 h)) (fun v7 s8 h hnv7 => ?_)
      exact G_iret rfl (vp_nar_int _) d_Md_stayOf_85 (hR _ _ (Ok_some h))
    replace h := Ok_f c4 h
    have n4 := ne_ti (z := 4) (by decide) c4
    refine G_tableOut (tgt := 86) d_Md_stayOf_17 (by omega) (by decide) ?_
    refine G_iconst d_Md_stayOf_86 lt_iconst_m1 ?_
    exact G_iret rfl (vp_nar_int _) d_Md_stayOf_87 (hR _ _ (Ok_some h))
  replace h := Ok_t c h
  refine G_iconst d_Md_stayOf_14 lt_iconst_m1 ?_
  exact G_iret rfl (vp_nar_int _) d_Md_stayOf_15 (hR _ _ (Ok_some h))
theorem c_Md_stayOf {l : Launch} {D : va_G} {cI cZ cJ : ClassId} {ad : Nat → Nat} (a1 a2 : Int32) (s : MS) {P : Int32 → MS → Prop} (h : Ok2 (f_Md_stayOf a1 a2 s) P) : Ct (XM l D cI cZ cJ ad) y_Md_stayOf b_Md_stayOf 3 (some .int) 3 [.ref (ad 0), .int a1, .int a2] s (P) :=
  Ct.of mi_Md_stayOf (Nat.le_of_ble_eq_true rfl) (f_Md_stayOf_w a1 a2 s (Post := fun q => P q.1 q.2) (fun _ _ h => h) (Ok2_ok h))
