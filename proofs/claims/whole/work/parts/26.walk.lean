-- Hb_carryOut
noncomputable def Hb_carryOut_j126 (x1 x2 x3 x4 : Int32) (s : MS) : Option ((Int32 × MS) ⊕ MS) :=
  chk (inb (s.1 0) 12) (bnd (pa s 0 (s.1 0).toNatClampNeg x3) fun s1 => chk (inb x2 12) (bnd (s1.2 19 x2.toNatClampNeg) fun v2 => chk (inb (s1.1 0) 12) (bnd (pa s1 1 (s1.1 0).toNatClampNeg v2) fun s3 => chk (inb (s3.1 0) 12) (bnd (pa s3 2 (s3.1 0).toNatClampNeg x4) fun s4 => bnd (pf s4 0 ((s4.1 0) + (1 : Int32))) fun s5 => bnd (x2 + (1 : Int32)) fun v6 => some (.inl (v6, s5))))))
theorem Hb_carryOut_j126_w {l : Launch} {D : va_G} {cI cZ cJ : ClassId} {ad : Nat → Nat} (x1 x2 x3 x4 : Int32) (s : MS) {Q : Int32 → MS → Prop} {Post : ((Int32 × MS) ⊕ MS) → Prop} (hR : ∀ (s9 : MS), Post (.inr (s9)) → Q 0 s9) (hL7 : ∀ (z2 : Int32) (s9 : MS), Post (.inl (z2, s9)) → G (XX l D cI cZ cJ ad) "SmallHarbour" b_Hb_carryOut 5 none 1 7 [(0, .ref (ad 0)), (1, .int x1), (2, .int z2)] [] s9 Q) (h : Ok (Hb_carryOut_j126 x1 x2 x3 x4 s) Post) : G (XX l D cI cZ cJ ad) "SmallHarbour" b_Hb_carryOut 5 none 1 126 [(0, .ref (ad 0)), (1, .int x1), (2, .int x2), (3, .int x3), (4, .int x4)] [] s Q := by
  unfold Hb_carryOut_j126 at h
  refine G_aload_n d_Hb_carryOut_126 rfl 0 rfl ?_
  refine gx_Hb_kept d_Hb_carryOut_127 w_358 ?_
  refine G_iconst d_Hb_carryOut_130 lt_iconst_0 ?_
  refine G_aald d_Hb_carryOut_131 12 2 rfl rfl (by decide) (b := ad 13) rfl ?_
  refine G_aload_n d_Hb_carryOut_132 rfl 0 rfl ?_
  refine gx_Hb_keptCount d_Hb_carryOut_133 w_359 ?_
  refine G_iload_n d_Hb_carryOut_136 rfl 3 rfl ?_
  refine sx_0 d_Hb_carryOut_137 (Ok_ld h).1 (fun s1 e => ?_)
  replace h := (Ok_ld h).2 s1 e
  clear e
  refine G_aload_n d_Hb_carryOut_138 rfl 0 rfl ?_
  refine gx_Hb_kept d_Hb_carryOut_139 w_358 ?_
  refine G_iconst d_Hb_carryOut_142 lt_iconst_1 ?_
  refine G_aald d_Hb_carryOut_143 12 2 rfl rfl (by decide) (b := ad 14) rfl ?_
  refine G_aload_n d_Hb_carryOut_144 rfl 0 rfl ?_
  refine gx_Hb_keptCount d_Hb_carryOut_145 w_359 ?_
  refine G_aload_n d_Hb_carryOut_148 rfl 0 rfl ?_
  refine gx_Hb_walk d_Hb_carryOut_149 w_352 ?_
  refine gx_Walk_best d_Hb_carryOut_152 w_145 ?_
  refine G_iload_n d_Hb_carryOut_155 rfl 2 rfl ?_
  refine lx_19 d_Hb_carryOut_156 (Ok_ld h).1 (fun v2 e => ?_)
  replace h := (Ok_ld h).2 v2 e
  clear e
  refine sx_1 d_Hb_carryOut_157 (Ok_ld h).1 (fun s3 e => ?_)
  replace h := (Ok_ld h).2 s3 e
  clear e
  refine G_aload_n d_Hb_carryOut_158 rfl 0 rfl ?_
  refine gx_Hb_kept d_Hb_carryOut_159 w_358 ?_
  refine G_iconst d_Hb_carryOut_162 lt_iconst_2 ?_
  refine G_aald d_Hb_carryOut_163 12 2 rfl rfl (by decide) (b := ad 15) rfl ?_
  refine G_aload_n d_Hb_carryOut_164 rfl 0 rfl ?_
  refine gx_Hb_keptCount d_Hb_carryOut_165 w_359 ?_
  refine G_iload d_Hb_carryOut_168 4 rfl ?_
  refine sx_2 d_Hb_carryOut_170 (Ok_ld h).1 (fun s4 e => ?_)
  replace h := (Ok_ld h).2 s4 e
  clear e
  refine G_aload_n d_Hb_carryOut_171 rfl 0 rfl ?_
  refine G_dup d_Hb_carryOut_172 rfl ?_
  refine gx_Hb_keptCount d_Hb_carryOut_173 w_359 ?_
  refine G_iconst d_Hb_carryOut_176 lt_iconst_1 ?_
  refine G_iadd d_Hb_carryOut_177 ?_
  refine px_Hb_keptCount d_Hb_carryOut_178 w_359 (fun s5 e => ?_)
  replace h := Ok_bnd h s5 e
  clear e
  refine G_iinc d_Hb_carryOut_181 2 rfl lt_iconst_1 rfl (Nat.le_of_ble_eq_true rfl) (fun x => [(2, .int x), (0, .ref (ad 0)), (1, .int x1), (3, .int x3), (4, .int x4)]) (fun _ => rfl) (fun v6 e => ?_)
  replace h := Ok_bnd h v6 e
  clear e
  refine G_goto (tgt := 7) d_Hb_carryOut_184 (by decide) ?_
  refine G_lv [1, 2, 0] rfl ?_
  replace h := Ok_some h
  exact hL7 v6 s5 h
noncomputable def Hb_carryOut_l7 (x1 : Int32) (x2 : Int32) (s : MS) : Option ((Int32 × MS) ⊕ MS) :=
  if (s.1 6) ≤ x2 then (xit (some s)) else ((f_Walk_isMoved x2 s).bind fun v1 => if v1 = 0 then (bnd (x2 + (1 : Int32)) fun v12 => some (.inl (v12, s))) else (chk (inb x2 12) (bnd (s.2 18 x2.toNatClampNeg) fun v2 => chk (inb v2 40) (bnd (s.2 16 v2.toNatClampNeg) fun v3 => if x1 ≤ v3 then (chk (inb x2 12) (bnd (s.2 19 x2.toNatClampNeg) fun v4 => chk (inb v2 40) (bnd (pa s 15 v2.toNatClampNeg v4) fun s5 => Hb_carryOut_j126 x1 x2 v2 v2 s5))) else (chk (inb v2 40) (bnd (s.2 14 v2.toNatClampNeg) fun v6 => chk (inb x2 12) (bnd (s.2 19 x2.toNatClampNeg) fun v7 => chk (inb v2 40) (bnd (s.2 17 v2.toNatClampNeg) fun v8 => bd2 (f_Stays_add v6 v7 x1 v8 s) fun v9 s10 => chk (inb v2 40) (bnd (pa s10 17 v2.toNatClampNeg x1) fun s11 => Hb_carryOut_j126 x1 x2 v2 v9 s11)))))))))
theorem Hb_carryOut_l7_w {l : Launch} {D : va_G} {cI cZ cJ : ClassId} {ad : Nat → Nat} (x1 x2 : Int32) (s : MS) {Q : Int32 → MS → Prop} {Post : ((Int32 × MS) ⊕ MS) → Prop} (hR : ∀ (s9 : MS), Post (.inr (s9)) → Q 0 s9) (hL7 : ∀ (z2 : Int32) (s9 : MS), Post (.inl (z2, s9)) → G (XX l D cI cZ cJ ad) "SmallHarbour" b_Hb_carryOut 5 none 1 7 [(0, .ref (ad 0)), (1, .int x1), (2, .int z2)] [] s9 Q) (h : Ok (Hb_carryOut_l7 x1 x2 s) Post) : G (XX l D cI cZ cJ ad) "SmallHarbour" b_Hb_carryOut 5 none 1 7 [(0, .ref (ad 0)), (1, .int x1), (2, .int x2)] [] s Q := by
  unfold Hb_carryOut_l7 at h
  refine G_iload_n d_Hb_carryOut_7 rfl 2 rfl ?_
  refine G_aload_n d_Hb_carryOut_8 rfl 0 rfl ?_
  refine gx_Hb_walk d_Hb_carryOut_9 w_352 ?_
  refine gx_Walk_size d_Hb_carryOut_12 w_147 ?_
  refine G_icmp_ge (tgt := 187) d_Hb_carryOut_15 (by decide) (fun c => ?_) (fun c => ?_)
  · replace h := Ok_t c h
    replace h := Ok_xit h
    replace h := Ok_some h
    exact G_vret rfl d_Hb_carryOut_187 (hR _ h)
  replace h := Ok_f c h
  refine G_aload_n d_Hb_carryOut_18 rfl 0 rfl ?_
  refine gx_Hb_walk d_Hb_carryOut_19 w_352 ?_
  refine G_iload_n d_Hb_carryOut_22 rfl 2 rfl ?_
  refine G_callVp (st := []) (As := [.int x2]) (b := ad 6) d_Hb_carryOut_23 mi_Walk_isMoved w_599 6 rfl rfl mv_Walk_isMoved rfl (Nat.le_of_ble_eq_true rfl) (by decide) (c_Walk_isMoved x2 s (Ok_bind h)) (fun v1 h hnv1 => ?_)
  refine G_if_ne (tgt := 32) d_Hb_carryOut_26 (by decide) (fun c => ?_) (fun c => ?_)
  · replace h := Ok_f c h
    refine G_aload_n d_Hb_carryOut_32 rfl 0 rfl ?_
    refine gx_Hb_walk d_Hb_carryOut_33 w_352 ?_
    refine gx_Walk_stay d_Hb_carryOut_36 w_143 ?_
    refine G_iload_n d_Hb_carryOut_39 rfl 2 rfl ?_
    refine lx_18 d_Hb_carryOut_40 (Ok_ld h).1 (fun v2 e => ?_)
    replace h := (Ok_ld h).2 v2 e
    clear e
    refine G_istore_n d_Hb_carryOut_41 rfl (Nat.le_of_ble_eq_true rfl) (fun x => [(3, .int x), (0, .ref (ad 0)), (1, .int x1), (2, .int x2)]) (fun _ => rfl) (fun x e => ?_)
    subst e
    refine G_iload_n d_Hb_carryOut_42 rfl 0 rfl ?_
    refine G_istore d_Hb_carryOut_43 (Nat.le_of_ble_eq_true rfl) (fun x => [(4, .int x), (3, .int v2), (0, .ref (ad 0)), (1, .int x1), (2, .int x2)]) (fun _ => rfl) (fun x e => ?_)
    subst e
    refine G_aload_n d_Hb_carryOut_45 rfl 2 rfl ?_
    refine gx_Hb_stays d_Hb_carryOut_46 w_351 ?_
    refine gx_Stays_from d_Hb_carryOut_49 w_120 ?_
    refine G_iload_n d_Hb_carryOut_52 rfl 1 rfl ?_
    refine lx_16 d_Hb_carryOut_53 (Ok_ld h).1 (fun v3 e => ?_)
    replace h := (Ok_ld h).2 v3 e
    clear e
    refine G_iload_n d_Hb_carryOut_54 rfl 3 rfl ?_
    refine G_icmp_ge (tgt := 108) d_Hb_carryOut_55 (by decide) (fun c => ?_) (fun c => ?_)
    · replace h := Ok_t c h
      refine G_aload_n d_Hb_carryOut_108 rfl 2 rfl ?_
      refine gx_Hb_stays d_Hb_carryOut_109 w_351 ?_
      refine gx_Stays_berth d_Hb_carryOut_112 w_118 ?_
      refine G_iload_n d_Hb_carryOut_115 rfl 1 rfl ?_
      refine G_aload_n d_Hb_carryOut_116 rfl 2 rfl ?_
      refine gx_Hb_walk d_Hb_carryOut_117 w_352 ?_
      refine gx_Walk_best d_Hb_carryOut_120 w_145 ?_
      refine G_iload_n d_Hb_carryOut_123 rfl 4 rfl ?_
      refine lx_19 d_Hb_carryOut_124 (Ok_ld h).1 (fun v4 e => ?_)
      replace h := (Ok_ld h).2 v4 e
      clear e
      refine sx_15 d_Hb_carryOut_125 (Ok_ld h).1 (fun s5 e => ?_)
      replace h := (Ok_ld h).2 s5 e
      clear e
      refine G_lv [2, 3, 4, 1, 0] rfl ?_
      refine Hb_carryOut_j126_w x1 x2 v2 v2 s5 ?_ ?_ h
      · exact hR
      · exact hL7
    replace h := Ok_f c h
    refine G_aload_n d_Hb_carryOut_58 rfl 2 rfl ?_
    refine gx_Hb_stays d_Hb_carryOut_59 w_351 ?_
    refine G_aload_n d_Hb_carryOut_62 rfl 2 rfl ?_
    refine gx_Hb_stays d_Hb_carryOut_63 w_351 ?_
    refine gx_Stays_boat d_Hb_carryOut_66 w_116 ?_
    refine G_iload_n d_Hb_carryOut_69 rfl 1 rfl ?_
    refine lx_14 d_Hb_carryOut_70 (Ok_ld h).1 (fun v6 e => ?_)
    replace h := (Ok_ld h).2 v6 e
    clear e
    refine G_aload_n d_Hb_carryOut_71 rfl 2 rfl ?_
    refine gx_Hb_walk d_Hb_carryOut_72 w_352 ?_
    refine gx_Walk_best d_Hb_carryOut_75 w_145 ?_
    refine G_iload_n d_Hb_carryOut_78 rfl 4 rfl ?_
    refine lx_19 d_Hb_carryOut_79 (Ok_ld h).1 (fun v7 e => ?_)
    replace h := (Ok_ld h).2 v7 e
    clear e
    refine G_iload_n d_Hb_carryOut_80 rfl 3 rfl ?_
    refine G_aload_n d_Hb_carryOut_81 rfl 2 rfl ?_
    refine gx_Hb_stays d_Hb_carryOut_82 w_351 ?_
    refine gx_Stays_to d_Hb_carryOut_85 w_122 ?_
    refine G_iload_n d_Hb_carryOut_88 rfl 1 rfl ?_
    refine lx_17 d_Hb_carryOut_89 (Ok_ld h).1 (fun v8 e => ?_)
    replace h := (Ok_ld h).2 v8 e
    clear e
    refine G_callVi (st := []) (As := [.int v6, .int v7, .int x1, .int v8]) (b := ad 5) d_Hb_carryOut_90 mi_Stays_add w_527 5 rfl rfl mv_Stays_add rfl (Nat.le_of_ble_eq_true rfl) (by decide) (c_Stays_add v6 v7 x1 v8 s (Ok_bd2 h)) (fun v9 s10 h hnv9 => ?_)
    refine G_istore d_Hb_carryOut_93 (Nat.le_of_ble_eq_true rfl) (fun x => [(4, .int x), (3, .int v2), (0, .ref (ad 0)), (1, .int x1), (2, .int x2)]) (fun _ => rfl) (fun x e => ?_)
    subst e
    refine G_aload_n d_Hb_carryOut_95 rfl 2 rfl ?_
    refine gx_Hb_stays d_Hb_carryOut_96 w_351 ?_
    refine gx_Stays_to d_Hb_carryOut_99 w_122 ?_
    refine G_iload_n d_Hb_carryOut_102 rfl 1 rfl ?_
    refine G_iload_n d_Hb_carryOut_103 rfl 3 rfl ?_
    refine sx_17 d_Hb_carryOut_104 (Ok_ld h).1 (fun s11 e => ?_)
    replace h := (Ok_ld h).2 s11 e
    clear e
    refine G_goto (tgt := 126) d_Hb_carryOut_105 (by decide) ?_
    refine G_lv [2, 3, 4, 1, 0] rfl ?_
    refine Hb_carryOut_j126_w x1 x2 v2 v9 s11 ?_ ?_ h
    · exact hR
    · exact hL7
  replace h := Ok_t c h
  refine G_goto (tgt := 181) d_Hb_carryOut_29 (by decide) ?_
  refine G_iinc d_Hb_carryOut_181 2 rfl lt_iconst_1 rfl (Nat.le_of_ble_eq_true rfl) (fun x => [(2, .int x), (0, .ref (ad 0)), (1, .int x1)]) (fun _ => rfl) (fun v12 e => ?_)
  replace h := Ok_bnd h v12 e
  clear e
  refine G_goto (tgt := 7) d_Hb_carryOut_184 (by decide) ?_
  refine G_lv [1, 2, 0] rfl ?_
  replace h := Ok_some h
  exact hL7 v12 s h
noncomputable def f_Hb_carryOut (a1 : Int32) (s : MS) : Option MS :=
  bnd (pf s 0 (0 : Int32)) fun s1 => loop (fun z => Hb_carryOut_l7 a1 z.1 z.2) ((0 : Int32), s1)
theorem f_Hb_carryOut_w {l : Launch} {D : va_G} {cI cZ cJ : ClassId} {ad : Nat → Nat} (a1 : Int32) (s : MS) {Q : Int32 → MS → Prop} {Post : MS → Prop} (hR : ∀ (s9 : MS), Post (s9) → Q 0 s9) (h : Ok (f_Hb_carryOut a1 s) Post) : G (XX l D cI cZ cJ ad) "SmallHarbour" b_Hb_carryOut 5 none 1 0 [(0, .ref (ad 0)), (1, .int a1)] [] s Q := by
  unfold f_Hb_carryOut at h
  refine G_aload_n d_Hb_carryOut_0 rfl 0 rfl ?_
  refine G_iconst d_Hb_carryOut_1 lt_iconst_0 ?_
  refine px_Hb_keptCount d_Hb_carryOut_2 w_359 (fun s1 e => ?_)
  replace h := Ok_bnd h s1 e
  clear e
  refine G_iconst d_Hb_carryOut_5 lt_iconst_0 ?_
  refine G_istore_n d_Hb_carryOut_6 rfl (Nat.le_of_ble_eq_true rfl) (fun x => [(2, .int x), (0, .ref (ad 0)), (1, .int a1)]) (fun _ => rfl) (fun x e => ?_)
  subst e
  refine G_lv [1, 2, 0] rfl ?_
  refine G_loop (J := (fun z => G (XX l D cI cZ cJ ad) "SmallHarbour" b_Hb_carryOut 5 none 1 7 [(0, .ref (ad 0)), (1, .int a1), (2, .int (z.1))] [] z.2 Q)) (fun z h => ?_) ((0 : Int32), s1) h
  refine Hb_carryOut_l7_w a1 z.1 z.2 ?_ ?_ h
  · exact hR
  · exact (fun z2 s9 h => h)
theorem c_Hb_carryOut {l : Launch} {D : va_G} {cI cZ cJ : ClassId} {ad : Nat → Nat} (a1 : Int32) (s : MS) {P : MS → Prop} (h : Ok (f_Hb_carryOut a1 s) P) : Ct (XX l D cI cZ cJ ad) y_Hb_carryOut b_Hb_carryOut 5 none 1 [.ref (ad 0), .int a1] s (fun _ s9 => P s9) :=
  Ct.of mi_Hb_carryOut (Nat.le_of_ble_eq_true rfl) (f_Hb_carryOut_w a1 s (fun _ h => h) h)
-- Hb_end
noncomputable def f_Hb_end (a1 : Int32) (s : MS) : Option (Int32 × MS) :=
  if a1 < 0 then (some ((-1 : Int32), s)) else (if a1 ≤ (s.1 18) then (bnd (pf s 18 a1) fun s1 => some (a1, s1)) else (some ((-1 : Int32), s)))
theorem f_Hb_end_w {l : Launch} {D : va_G} {cI cZ cJ : ClassId} {ad : Nat → Nat} (a1 : Int32) (s : MS) {Q : Int32 → MS → Prop} {Post : (Int32 × MS) → Prop} (hR : ∀ (r9 : Int32) (s9 : MS), Post ((r9, s9)) → Q r9 s9) (h : Ok (f_Hb_end a1 s) Post) : G (XX l D cI cZ cJ ad) "SmallHarbour" b_Hb_end 2 (some .int) 0 0 [(0, .ref (ad 0)), (1, .int a1)] [] s Q := by
  unfold f_Hb_end at h
  refine G_iload_n d_Hb_end_0 rfl 1 rfl ?_
  refine G_if_lt (tgt := 15) d_Hb_end_1 (by decide) (fun c => ?_) (fun c => ?_)
  · replace h := Ok_t c h
    refine G_iconst d_Hb_end_15 lt_iconst_m1 ?_
    replace h := Ok_some h
    exact G_iret rfl (vp_nar_int _) d_Hb_end_16 (hR _ _ h)
  replace h := Ok_f c h
  refine G_iload_n d_Hb_end_4 rfl 1 rfl ?_
  refine G_aload_n d_Hb_end_5 rfl 0 rfl ?_
  refine gx_Hb_tape d_Hb_end_6 w_355 ?_
  refine gx_Tape_count d_Hb_end_9 w_269 ?_
  refine G_icmp_le (tgt := 17) d_Hb_end_12 (by decide) (fun c => ?_) (fun c => ?_)
  · replace h := Ok_t c h
    refine G_aload_n d_Hb_end_17 rfl 0 rfl ?_
    refine gx_Hb_tape d_Hb_end_18 w_355 ?_
    refine G_iload_n d_Hb_end_21 rfl 1 rfl ?_
    refine px_Tape_count d_Hb_end_22 w_269 (fun s1 e => ?_)
    replace h := Ok_bnd h s1 e
    clear e
    refine G_iload_n d_Hb_end_25 rfl 1 rfl ?_
    replace h := Ok_some h
    exact G_iret rfl (vp_nar_int _) d_Hb_end_26 (hR _ _ h)
  replace h := Ok_f c h
  refine G_iconst d_Hb_end_15 lt_iconst_m1 ?_
  replace h := Ok_some h
  exact G_iret rfl (vp_nar_int _) d_Hb_end_16 (hR _ _ h)
theorem c_Hb_end {l : Launch} {D : va_G} {cI cZ cJ : ClassId} {ad : Nat → Nat} (a1 : Int32) (s : MS) {P : Int32 → MS → Prop} (h : Ok2 (f_Hb_end a1 s) P) : Ct (XX l D cI cZ cJ ad) y_Hb_end b_Hb_end 2 (some .int) 0 [.ref (ad 0), .int a1] s (P) :=
  Ct.of mi_Hb_end (Nat.le_of_ble_eq_true rfl) (f_Hb_end_w a1 s (Post := fun q => P q.1 q.2) (fun _ _ h => h) (Ok2_ok h))
-- Hb_fault
noncomputable def f_Hb_fault (a1 : Int32) (s : MS) : Option Int32 :=
  bnd a1 fun v1 => if v1 = (0 : Int32) then (some (s.1 20)) else (if v1 = (1 : Int32) then (some (s.1 21)) else (some (-1 : Int32)))
theorem f_Hb_fault_w {l : Launch} {D : va_G} {cI cZ cJ : ClassId} {ad : Nat → Nat} (a1 : Int32) (s : MS) {Q : Int32 → MS → Prop} {Post : Int32 → Prop} (hR : ∀ (r9 : Int32), Post (r9) → Q r9 s) (h : Ok (f_Hb_fault a1 s) Post) : G (XX l D cI cZ cJ ad) "SmallHarbour" b_Hb_fault 2 (some .int) 0 0 [(0, .ref (ad 0)), (1, .int a1)] [] s Q := by
  unfold f_Hb_fault at h
  refine G_iload_n d_Hb_fault_0 rfl 1 rfl ?_
  refine G_topi (fun v1 e => ?_)
  replace h := Ok_bnd h v1 e
  clear e
  by_cases c0 : v1 = (0 : Int32)
  · replace h := Ok_t c0 h
    refine G_lookup (tgt := 28) d_Hb_fault_1 (by decide) (by rw [c0]; try decide) (by decide) ?_
    refine G_aload_n d_Hb_fault_28 rfl 0 rfl ?_
    refine gx_Hb_reader d_Hb_fault_29 w_356 ?_
    refine gx_Reader_flaw d_Hb_fault_32 w_286 ?_
    replace h := Ok_some h
    exact G_iret rfl (vp_nar_int _) d_Hb_fault_35 (hR _ h)
  replace h := Ok_f c0 h
  have n0 := ne_ti (z := 0) (by decide) c0
  by_cases c1 : v1 = (1 : Int32)
  · replace h := Ok_t c1 h
    refine G_lookup (tgt := 36) d_Hb_fault_1 (by decide) (by rw [c1]; try decide) (by decide) ?_
    refine G_aload_n d_Hb_fault_36 rfl 0 rfl ?_
    refine gx_Hb_reader d_Hb_fault_37 w_356 ?_
    refine gx_Reader_place d_Hb_fault_40 w_288 ?_
    replace h := Ok_some h
    exact G_iret rfl (vp_nar_int _) d_Hb_fault_43 (hR _ h)
  replace h := Ok_f c1 h
  have n1 := ne_ti (z := 1) (by decide) c1
  refine G_lookup (off := 43) (tgt := 44) d_Hb_fault_1 (by decide) (by simp [Op.lookupswitch.offset, n0, n1]) (by decide) ?_
  refine G_iconst d_Hb_fault_44 lt_iconst_m1 ?_
  replace h := Ok_some h
  exact G_iret rfl (vp_nar_int _) d_Hb_fault_45 (hR _ h)
theorem c_Hb_fault {l : Launch} {D : va_G} {cI cZ cJ : ClassId} {ad : Nat → Nat} (a1 : Int32) (s : MS) {P : Int32 → Prop} (h : Ok (f_Hb_fault a1 s) P) : Ct (XX l D cI cZ cJ ad) y_Hb_fault b_Hb_fault 2 (some .int) 0 [.ref (ad 0), .int a1] s (fun r9 s9 => s9 = s ∧ P r9) :=
  Ct.of mi_Hb_fault (Nat.le_of_ble_eq_true rfl) (f_Hb_fault_w a1 s (fun _ h => ⟨rfl, h⟩) h)
-- Tape_addFour
noncomputable def Tape_addFour_l3 (x1 : Int32) (x2 : Int32) (s : MS) : Option ((Int32 × MS) ⊕ MS) :=
  if x2 < 0 then (xit (some s)) else (if (200 : Int32) ≤ (s.1 18) then (xit (some s)) else (chk (inb (s.1 18) 200) (bnd (pa s 37 (s.1 18).toNatClampNeg (((x1.toUInt32 >>> (x2.toUInt32 &&& Int32.toUInt32 31)).toInt32) &&& (255 : Int32))) fun s1 => bnd (pf s1 18 ((s1.1 18) + (1 : Int32))) fun s2 => bnd (x2 + (-8 : Int32)) fun v3 => some (.inl (v3, s2)))))
theorem Tape_addFour_l3_w {l : Launch} {D : va_G} {cI cZ cJ : ClassId} {ad : Nat → Nat} (x1 x2 : Int32) (s : MS) {Q : Int32 → MS → Prop} {Post : ((Int32 × MS) ⊕ MS) → Prop} (hR : ∀ (s9 : MS), Post (.inr (s9)) → Q 0 s9) (hL3 : ∀ (z2 : Int32) (s9 : MS), Post (.inl (z2, s9)) → G (XX l D cI cZ cJ ad) "SmallHarbour$Tape" b_Tape_addFour 3 none 0 3 [(0, .ref (ad 9)), (1, .int x1), (2, .int z2)] [] s9 Q) (h : Ok (Tape_addFour_l3 x1 x2 s) Post) : G (XX l D cI cZ cJ ad) "SmallHarbour$Tape" b_Tape_addFour 3 none 0 3 [(0, .ref (ad 9)), (1, .int x1), (2, .int x2)] [] s Q := by
  unfold Tape_addFour_l3 at h
  refine G_iload_n d_Tape_addFour_3 rfl 2 rfl ?_
  refine G_if_lt (tgt := 49) d_Tape_addFour_4 (by decide) (fun c => ?_) (fun c => ?_)
  · replace h := Ok_t c h
    replace h := Ok_xit h
    replace h := Ok_some h
    exact G_vret rfl d_Tape_addFour_49 (hR _ h)
  replace h := Ok_f c h
  refine G_aload_n d_Tape_addFour_7 rfl 0 rfl ?_
  refine gx_Tape_count d_Tape_addFour_8 w_267 ?_
  refine G_sipush d_Tape_addFour_11 lt_sipush_200 ?_
  refine G_icmp_ge (tgt := 49) d_Tape_addFour_14 (by decide) (fun c => ?_) (fun c => ?_)
  · replace h := Ok_t c h
    replace h := Ok_xit h
    replace h := Ok_some h
    exact G_vret rfl d_Tape_addFour_49 (hR _ h)
  replace h := Ok_f c h
  refine G_aload_n d_Tape_addFour_17 rfl 0 rfl ?_
  refine gx_Tape_bytes d_Tape_addFour_18 w_265 ?_
  refine G_aload_n d_Tape_addFour_21 rfl 0 rfl ?_
  refine gx_Tape_count d_Tape_addFour_22 w_267 ?_
  refine G_iload_n d_Tape_addFour_25 rfl 1 rfl ?_
  refine G_iload_n d_Tape_addFour_26 rfl 2 rfl ?_
  refine G_iushr d_Tape_addFour_27 ?_
  refine G_sipush d_Tape_addFour_28 lt_sipush_255 ?_
  refine G_iand d_Tape_addFour_31 ?_
  refine sx_37 d_Tape_addFour_32 (Ok_ld h).1 (fun s1 e => ?_)
  replace h := (Ok_ld h).2 s1 e
  clear e
  refine G_aload_n d_Tape_addFour_33 rfl 0 rfl ?_
  refine G_dup d_Tape_addFour_34 rfl ?_
  refine gx_Tape_count d_Tape_addFour_35 w_267 ?_
  refine G_iconst d_Tape_addFour_38 lt_iconst_1 ?_
  refine G_iadd d_Tape_addFour_39 ?_
  refine px_Tape_count d_Tape_addFour_40 w_267 (fun s2 e => ?_)
  replace h := Ok_bnd h s2 e
  clear e
  refine G_iinc d_Tape_addFour_43 2 rfl lt_iconst_m8 rfl (Nat.le_of_ble_eq_true rfl) (fun x => [(2, .int x), (0, .ref (ad 9)), (1, .int x1)]) (fun _ => rfl) (fun v3 e => ?_)
  replace h := Ok_bnd h v3 e
  clear e
  refine G_goto (tgt := 3) d_Tape_addFour_46 (by decide) ?_
  refine G_lv [1, 2, 0] rfl ?_
  replace h := Ok_some h
  exact hL3 v3 s2 h
noncomputable def f_Tape_addFour (a1 : Int32) (s : MS) : Option MS :=
  loop (fun z => Tape_addFour_l3 a1 z.1 z.2) ((24 : Int32), s)
theorem f_Tape_addFour_w {l : Launch} {D : va_G} {cI cZ cJ : ClassId} {ad : Nat → Nat} (a1 : Int32) (s : MS) {Q : Int32 → MS → Prop} {Post : MS → Prop} (hR : ∀ (s9 : MS), Post (s9) → Q 0 s9) (h : Ok (f_Tape_addFour a1 s) Post) : G (XX l D cI cZ cJ ad) "SmallHarbour$Tape" b_Tape_addFour 3 none 0 0 [(0, .ref (ad 9)), (1, .int a1)] [] s Q := by
  unfold f_Tape_addFour at h
  refine G_bipush d_Tape_addFour_0 lt_bipush_24 ?_
  refine G_istore_n d_Tape_addFour_2 rfl (Nat.le_of_ble_eq_true rfl) (fun x => [(2, .int x), (0, .ref (ad 9)), (1, .int a1)]) (fun _ => rfl) (fun x e => ?_)
  subst e
  refine G_lv [1, 2, 0] rfl ?_
  refine G_loop (J := (fun z => G (XX l D cI cZ cJ ad) "SmallHarbour$Tape" b_Tape_addFour 3 none 0 3 [(0, .ref (ad 9)), (1, .int a1), (2, .int (z.1))] [] z.2 Q)) (fun z h => ?_) ((24 : Int32), s) h
  refine Tape_addFour_l3_w a1 z.1 z.2 ?_ ?_ h
  · exact hR
  · exact (fun z2 s9 h => h)
theorem c_Tape_addFour {l : Launch} {D : va_G} {cI cZ cJ : ClassId} {ad : Nat → Nat} (a1 : Int32) (s : MS) {P : MS → Prop} (h : Ok (f_Tape_addFour a1 s) P) : Ct (XX l D cI cZ cJ ad) y_Tape_addFour b_Tape_addFour 3 none 0 [.ref (ad 9), .int a1] s (fun _ s9 => P s9) :=
  Ct.of mi_Tape_addFour (Nat.le_of_ble_eq_true rfl) (f_Tape_addFour_w a1 s (fun _ h => h) h)
-- Hb_feed
noncomputable def f_Hb_feed (a1 a2 a3 a4 a5 : Int32) (s : MS) : Option (Int32 × MS) :=
  if ((s.1 18) + (20 : Int32)) ≤ (200 : Int32) then ((f_Tape_addFour a1 s).bind fun s1 => (f_Tape_addFour a2 s1).bind fun s2 => (f_Tape_addFour a3 s2).bind fun s3 => (f_Tape_addFour a4 s3).bind fun s4 => (f_Tape_addFour a5 s4).bind fun s5 => some ((s5.1 18), s5)) else (some ((-1 : Int32), s))
theorem f_Hb_feed_w {l : Launch} {D : va_G} {cI cZ cJ : ClassId} {ad : Nat → Nat} (a1 a2 a3 a4 a5 : Int32) (s : MS) {Q : Int32 → MS → Prop} {Post : (Int32 × MS) → Prop} (hR : ∀ (r9 : Int32) (s9 : MS), Post ((r9, s9)) → Q r9 s9) (h : Ok (f_Hb_feed a1 a2 a3 a4 a5 s) Post) : G (XX l D cI cZ cJ ad) "SmallHarbour" b_Hb_feed 6 (some .int) 1 0 [(0, .ref (ad 0)), (1, .int a1), (2, .int a2), (3, .int a3), (4, .int a4), (5, .int a5)] [] s Q := by
  unfold f_Hb_feed at h
  refine G_aload_n d_Hb_feed_0 rfl 0 rfl ?_
  refine gx_Hb_tape d_Hb_feed_1 w_355 ?_
  refine gx_Tape_count d_Hb_feed_4 w_269 ?_
  refine G_bipush d_Hb_feed_7 lt_bipush_20 ?_
  refine G_iadd d_Hb_feed_9 ?_
  refine G_sipush d_Hb_feed_10 lt_sipush_200 ?_
  refine G_icmp_le (tgt := 18) d_Hb_feed_13 (by decide) (fun c => ?_) (fun c => ?_)
  · replace h := Ok_t c h
    refine G_aload_n d_Hb_feed_18 rfl 0 rfl ?_
    refine gx_Hb_tape d_Hb_feed_19 w_355 ?_
    refine G_iload_n d_Hb_feed_22 rfl 1 rfl ?_
    refine G_callVv (st := []) (As := [.int a1]) (b := ad 9) d_Hb_feed_23 mi_Tape_addFour w_721 9 rfl rfl mv_Tape_addFour rfl (Nat.le_of_ble_eq_true rfl) (by decide) (c_Tape_addFour a1 s (Ok_bind h)) (fun s1 h => ?_)
    refine G_aload_n d_Hb_feed_26 rfl 0 rfl ?_
    refine gx_Hb_tape d_Hb_feed_27 w_355 ?_
    refine G_iload_n d_Hb_feed_30 rfl 2 rfl ?_
    refine G_callVv (st := []) (As := [.int a2]) (b := ad 9) d_Hb_feed_31 mi_Tape_addFour w_721 9 rfl rfl mv_Tape_addFour rfl (Nat.le_of_ble_eq_true rfl) (by decide) (c_Tape_addFour a2 s1 (Ok_bind h)) (fun s2 h => ?_)
    refine G_aload_n d_Hb_feed_34 rfl 0 rfl ?_
    refine gx_Hb_tape d_Hb_feed_35 w_355 ?_
    refine G_iload_n d_Hb_feed_38 rfl 3 rfl ?_
    refine G_callVv (st := []) (As := [.int a3]) (b := ad 9) d_Hb_feed_39 mi_Tape_addFour w_721 9 rfl rfl mv_Tape_addFour rfl (Nat.le_of_ble_eq_true rfl) (by decide) (c_Tape_addFour a3 s2 (Ok_bind h)) (fun s3 h => ?_)
    refine G_aload_n d_Hb_feed_42 rfl 0 rfl ?_
    refine gx_Hb_tape d_Hb_feed_43 w_355 ?_
    refine G_iload d_Hb_feed_46 4 rfl ?_
    refine G_callVv (st := []) (As := [.int a4]) (b := ad 9) d_Hb_feed_48 mi_Tape_addFour w_721 9 rfl rfl mv_Tape_addFour rfl (Nat.le_of_ble_eq_true rfl) (by decide) (c_Tape_addFour a4 s3 (Ok_bind h)) (fun s4 h => ?_)
    refine G_aload_n d_Hb_feed_51 rfl 0 rfl ?_
    refine gx_Hb_tape d_Hb_feed_52 w_355 ?_
    refine G_iload d_Hb_feed_55 5 rfl ?_
    refine G_callVv (st := []) (As := [.int a5]) (b := ad 9) d_Hb_feed_57 mi_Tape_addFour w_721 9 rfl rfl mv_Tape_addFour rfl (Nat.le_of_ble_eq_true rfl) (by decide) (c_Tape_addFour a5 s4 (Ok_bind h)) (fun s5 h => ?_)
    refine G_aload_n d_Hb_feed_60 rfl 0 rfl ?_
    refine gx_Hb_tape d_Hb_feed_61 w_355 ?_
    refine gx_Tape_count d_Hb_feed_64 w_269 ?_
    replace h := Ok_some h
    exact G_iret rfl (vp_nar_int _) d_Hb_feed_67 (hR _ _ h)
  replace h := Ok_f c h
  refine G_iconst d_Hb_feed_16 lt_iconst_m1 ?_
  replace h := Ok_some h
  exact G_iret rfl (vp_nar_int _) d_Hb_feed_17 (hR _ _ h)
theorem c_Hb_feed {l : Launch} {D : va_G} {cI cZ cJ : ClassId} {ad : Nat → Nat} (a1 a2 a3 a4 a5 : Int32) (s : MS) {P : Int32 → MS → Prop} (h : Ok2 (f_Hb_feed a1 a2 a3 a4 a5 s) P) : Ct (XX l D cI cZ cJ ad) y_Hb_feed b_Hb_feed 6 (some .int) 1 [.ref (ad 0), .int a1, .int a2, .int a3, .int a4, .int a5] s (P) :=
  Ct.of mi_Hb_feed (Nat.le_of_ble_eq_true rfl) (f_Hb_feed_w a1 a2 a3 a4 a5 s (Post := fun q => P q.1 q.2) (fun _ _ h => h) (Ok2_ok h))
-- Walk_add
noncomputable def Walk_add_l74 (x3 x4 : Int32) (x5 : Int32) (s : MS) : Option ((Int32 × MS) ⊕ MS) :=
  if (s.1 6) ≤ x5 then (xit (bnd (pf s 6 ((s.1 6) + (1 : Int32))) fun s1 => some s1)) else (chk (inb x5 12) (bnd (s.2 21 x5.toNatClampNeg) fun v2 => if x4 ≤ v2 then (bnd (x5 + (1 : Int32)) fun v3 => some (.inl (v3, s))) else (chk (inb x5 12) (bnd (s.2 22 x5.toNatClampNeg) fun v4 => if v4 ≤ x3 then (bnd (x5 + (1 : Int32)) fun v5 => some (.inl (v5, s))) else (chk (inb (s.1 6) 12) (bnd (s.2 25 (s.1 6).toNatClampNeg) fun v6 => chk (inb (s.1 6) 12) (bnd (pa s 25 (s.1 6).toNatClampNeg (v6 ||| ((1 : Int32) <<< (x5 &&& 31)))) fun s7 => bnd (x5 + (1 : Int32)) fun v8 => some (.inl (v8, s7)))))))))
theorem Walk_add_l74_w {l : Launch} {D : va_G} {cI cZ cJ : ClassId} {ad : Nat → Nat} (x3 x4 x5 : Int32) (s : MS) {Q : Int32 → MS → Prop} {Post : ((Int32 × MS) ⊕ MS) → Prop} (hR : ∀ (s9 : MS), Post (.inr (s9)) → Q 0 s9) (hL74 : ∀ (z5 : Int32) (s9 : MS), Post (.inl (z5, s9)) → G (XX l D cI cZ cJ ad) "SmallHarbour$Walk" b_Walk_add 6 none 0 74 [(0, .ref (ad 6)), (3, .int x3), (4, .int x4), (5, .int z5)] [] s9 Q) (h : Ok (Walk_add_l74 x3 x4 x5 s) Post) : G (XX l D cI cZ cJ ad) "SmallHarbour$Walk" b_Walk_add 6 none 0 74 [(0, .ref (ad 6)), (3, .int x3), (4, .int x4), (5, .int x5)] [] s Q := by
  unfold Walk_add_l74 at h
  refine G_iload d_Walk_add_74 3 rfl ?_
  refine G_aload_n d_Walk_add_76 rfl 0 rfl ?_
  refine gx_Walk_size d_Walk_add_77 w_146 ?_
  refine G_icmp_ge (tgt := 128) d_Walk_add_80 (by decide) (fun c => ?_) (fun c => ?_)
  · replace h := Ok_t c h
    replace h := Ok_xit h
    refine G_aload_n d_Walk_add_128 rfl 0 rfl ?_
    refine G_dup d_Walk_add_129 rfl ?_
    refine gx_Walk_size d_Walk_add_130 w_146 ?_
    refine G_iconst d_Walk_add_133 lt_iconst_1 ?_
    refine G_iadd d_Walk_add_134 ?_
    refine px_Walk_size d_Walk_add_135 w_146 (fun s1 e => ?_)
    replace h := Ok_bnd h s1 e
    clear e
    replace h := Ok_some h
    exact G_vret rfl d_Walk_add_138 (hR _ h)
  replace h := Ok_f c h
  refine G_aload_n d_Walk_add_83 rfl 0 rfl ?_
  refine gx_Walk_from d_Walk_add_84 w_149 ?_
  refine G_iload d_Walk_add_87 3 rfl ?_
  refine lx_21 d_Walk_add_89 (Ok_ld h).1 (fun v2 e => ?_)
  replace h := (Ok_ld h).2 v2 e
  clear e
  refine G_iload d_Walk_add_90 2 rfl ?_
  refine G_icmp_ge (tgt := 122) d_Walk_add_92 (by decide) (fun c => ?_) (fun c => ?_)
  · replace h := Ok_t c h
    refine G_iinc d_Walk_add_122 3 rfl lt_iconst_1 rfl (Nat.le_of_ble_eq_true rfl) (fun x => [(5, .int x), (0, .ref (ad 6)), (3, .int x3), (4, .int x4)]) (fun _ => rfl) (fun v3 e => ?_)
    replace h := Ok_bnd h v3 e
    clear e
    refine G_goto (tgt := 74) d_Walk_add_125 (by decide) ?_
    refine G_lv [1, 2, 3, 0] rfl ?_
    replace h := Ok_some h
    exact hL74 v3 s h
  replace h := Ok_f c h
  refine G_iload_n d_Walk_add_95 rfl 1 rfl ?_
  refine G_aload_n d_Walk_add_96 rfl 0 rfl ?_
  refine gx_Walk_to d_Walk_add_97 w_150 ?_
  refine G_iload d_Walk_add_100 3 rfl ?_
  refine lx_22 d_Walk_add_102 (Ok_ld h).1 (fun v4 e => ?_)
  replace h := (Ok_ld h).2 v4 e
  clear e
  refine G_icmp_ge (tgt := 122) d_Walk_add_103 (by decide) (fun c => ?_) (fun c => ?_)
  · replace h := Ok_t c h
    refine G_iinc d_Walk_add_122 3 rfl lt_iconst_1 rfl (Nat.le_of_ble_eq_true rfl) (fun x => [(5, .int x), (0, .ref (ad 6)), (3, .int x3), (4, .int x4)]) (fun _ => rfl) (fun v5 e => ?_)
    replace h := Ok_bnd h v5 e
    clear e
    refine G_goto (tgt := 74) d_Walk_add_125 (by decide) ?_
    refine G_lv [1, 2, 3, 0] rfl ?_
    replace h := Ok_some h
    exact hL74 v5 s h
  replace h := Ok_f c h
  refine G_aload_n d_Walk_add_106 rfl 0 rfl ?_
  refine gx_Walk_shares d_Walk_add_107 w_153 ?_
  refine G_aload_n d_Walk_add_110 rfl 0 rfl ?_
  refine gx_Walk_size d_Walk_add_111 w_146 ?_
  refine G_dup2 d_Walk_add_114 rfl rfl ?_
  refine lx_25 d_Walk_add_115 (Ok_ld h).1 (fun v6 e => ?_)
  replace h := (Ok_ld h).2 v6 e
  clear e
  refine G_iconst d_Walk_add_116 lt_iconst_1 ?_
  refine G_iload d_Walk_add_117 3 rfl ?_
  refine G_ishl d_Walk_add_119 ?_
  refine G_ior d_Walk_add_120 ?_
  refine sx_25 d_Walk_add_121 (Ok_ld h).1 (fun s7 e => ?_)
  replace h := (Ok_ld h).2 s7 e
  clear e
  refine G_iinc d_Walk_add_122 3 rfl lt_iconst_1 rfl (Nat.le_of_ble_eq_true rfl) (fun x => [(5, .int x), (0, .ref (ad 6)), (3, .int x3), (4, .int x4)]) (fun _ => rfl) (fun v8 e => ?_)
  replace h := Ok_bnd h v8 e
  clear e
  refine G_goto (tgt := 74) d_Walk_add_125 (by decide) ?_
  refine G_lv [1, 2, 3, 0] rfl ?_
  replace h := Ok_some h
  exact hL74 v8 s7 h
noncomputable def f_Walk_add (a1 a2 a3 a4 : Int32) (s : MS) : Option MS :=
  if (s.1 6) < (12 : Int32) then (chk (inb (s.1 6) 12) (bnd (pa s 18 (s.1 6).toNatClampNeg a1) fun s1 => chk (inb (s1.1 6) 12) (bnd (pa s1 20 (s1.1 6).toNatClampNeg a2) fun s2 => chk (inb (s2.1 6) 12) (bnd (pa s2 21 (s2.1 6).toNatClampNeg a3) fun s3 => chk (inb (s3.1 6) 12) (bnd (pa s3 22 (s3.1 6).toNatClampNeg a4) fun s4 => chk (inb (s4.1 6) 12) (bnd (pa s4 24 (s4.1 6).toNatClampNeg (0 : Int32)) fun s5 => chk (inb (s5.1 6) 12) (bnd (pa s5 25 (s5.1 6).toNatClampNeg (0 : Int32)) fun s6 => loop (fun z => Walk_add_l74 a3 a4 z.1 z.2) ((0 : Int32), s6)))))))) else (some s)
theorem f_Walk_add_w {l : Launch} {D : va_G} {cI cZ cJ : ClassId} {ad : Nat → Nat} (a1 a2 a3 a4 : Int32) (s : MS) {Q : Int32 → MS → Prop} {Post : MS → Prop} (hR : ∀ (s9 : MS), Post (s9) → Q 0 s9) (h : Ok (f_Walk_add a1 a2 a3 a4 s) Post) : G (XX l D cI cZ cJ ad) "SmallHarbour$Walk" b_Walk_add 6 none 0 0 [(0, .ref (ad 6)), (1, .int a1), (2, .int a2), (3, .int a3), (4, .int a4)] [] s Q := by
  unfold f_Walk_add at h
  refine G_aload_n d_Walk_add_0 rfl 0 rfl ?_
  refine gx_Walk_size d_Walk_add_1 w_146 ?_
  refine G_bipush d_Walk_add_4 lt_bipush_12 ?_
  refine G_icmp_lt (tgt := 10) d_Walk_add_6 (by decide) (fun c => ?_) (fun c => ?_)
  · replace h := Ok_t c h
    refine G_aload_n d_Walk_add_10 rfl 0 rfl ?_
    refine gx_Walk_stay d_Walk_add_11 w_142 ?_
    refine G_aload_n d_Walk_add_14 rfl 0 rfl ?_
    refine gx_Walk_size d_Walk_add_15 w_146 ?_
    refine G_iload_n d_Walk_add_18 rfl 1 rfl ?_
    refine sx_18 d_Walk_add_19 (Ok_ld h).1 (fun s1 e => ?_)
    replace h := (Ok_ld h).2 s1 e
    clear e
    refine G_aload_n d_Walk_add_20 rfl 0 rfl ?_
    refine gx_Walk_own d_Walk_add_21 w_148 ?_
    refine G_aload_n d_Walk_add_24 rfl 0 rfl ?_
    refine gx_Walk_size d_Walk_add_25 w_146 ?_
    refine G_iload_n d_Walk_add_28 rfl 2 rfl ?_
    refine sx_20 d_Walk_add_29 (Ok_ld h).1 (fun s2 e => ?_)
    replace h := (Ok_ld h).2 s2 e
    clear e
    refine G_aload_n d_Walk_add_30 rfl 0 rfl ?_
    refine gx_Walk_from d_Walk_add_31 w_149 ?_
    refine G_aload_n d_Walk_add_34 rfl 0 rfl ?_
    refine gx_Walk_size d_Walk_add_35 w_146 ?_
    refine G_iload_n d_Walk_add_38 rfl 3 rfl ?_
    refine sx_21 d_Walk_add_39 (Ok_ld h).1 (fun s3 e => ?_)
    replace h := (Ok_ld h).2 s3 e
    clear e
    refine G_aload_n d_Walk_add_40 rfl 0 rfl ?_
    refine gx_Walk_to d_Walk_add_41 w_150 ?_
    refine G_aload_n d_Walk_add_44 rfl 0 rfl ?_
    refine gx_Walk_size d_Walk_add_45 w_146 ?_
    refine G_iload d_Walk_add_48 4 rfl ?_
    refine sx_22 d_Walk_add_50 (Ok_ld h).1 (fun s4 e => ?_)
    replace h := (Ok_ld h).2 s4 e
    clear e
    refine G_aload_n d_Walk_add_51 rfl 0 rfl ?_
    refine gx_Walk_allowed d_Walk_add_52 w_152 ?_
    refine G_aload_n d_Walk_add_55 rfl 0 rfl ?_
    refine gx_Walk_size d_Walk_add_56 w_146 ?_
    refine G_iconst d_Walk_add_59 lt_iconst_0 ?_
    refine sx_24 d_Walk_add_60 (Ok_ld h).1 (fun s5 e => ?_)
    replace h := (Ok_ld h).2 s5 e
    clear e
    refine G_aload_n d_Walk_add_61 rfl 0 rfl ?_
    refine gx_Walk_shares d_Walk_add_62 w_153 ?_
    refine G_aload_n d_Walk_add_65 rfl 0 rfl ?_
    refine gx_Walk_size d_Walk_add_66 w_146 ?_
    refine G_iconst d_Walk_add_69 lt_iconst_0 ?_
    refine sx_25 d_Walk_add_70 (Ok_ld h).1 (fun s6 e => ?_)
    replace h := (Ok_ld h).2 s6 e
    clear e
    refine G_iconst d_Walk_add_71 lt_iconst_0 ?_
    refine G_istore d_Walk_add_72 (Nat.le_of_ble_eq_true rfl) (fun x => [(5, .int x), (0, .ref (ad 6)), (1, .int a1), (2, .int a2), (3, .int a3), (4, .int a4)]) (fun _ => rfl) (fun x e => ?_)
    subst e
    refine G_lv [1, 4, 5, 0] rfl ?_
    refine G_loop (J := (fun z => G (XX l D cI cZ cJ ad) "SmallHarbour$Walk" b_Walk_add 6 none 0 74 [(0, .ref (ad 6)), (3, .int a3), (4, .int a4), (5, .int (z.1))] [] z.2 Q)) (fun z h => ?_) ((0 : Int32), s6) h
    refine Walk_add_l74_w a3 a4 z.1 z.2 ?_ ?_ h
    · exact hR
    · exact (fun z5 s9 h => h)
  replace h := Ok_f c h
  replace h := Ok_some h
  exact G_vret rfl d_Walk_add_9 (hR _ h)
theorem c_Walk_add {l : Launch} {D : va_G} {cI cZ cJ : ClassId} {ad : Nat → Nat} (a1 a2 a3 a4 : Int32) (s : MS) {P : MS → Prop} (h : Ok (f_Walk_add a1 a2 a3 a4 s) P) : Ct (XX l D cI cZ cJ ad) y_Walk_add b_Walk_add 6 none 0 [.ref (ad 6), .int a1, .int a2, .int a3, .int a4] s (fun _ s9 => P s9) :=
  Ct.of mi_Walk_add (Nat.le_of_ble_eq_true rfl) (f_Walk_add_w a1 a2 a3 a4 s (fun _ h => h) h)
-- Walk_allow
noncomputable def f_Walk_allow (a1 : Int32) (s : MS) : Option MS :=
  if (s.1 6) ≤ 0 then (some s) else (chk (inb ((s.1 6) - (1 : Int32)) 12) (bnd (s.2 24 ((s.1 6) - (1 : Int32)).toNatClampNeg) fun v1 => chk (inb ((s.1 6) - (1 : Int32)) 12) (bnd (pa s 24 ((s.1 6) - (1 : Int32)).toNatClampNeg (v1 ||| ((1 : Int32) <<< (a1 &&& 31)))) fun s2 => some s2)))
theorem f_Walk_allow_w {l : Launch} {D : va_G} {cI cZ cJ : ClassId} {ad : Nat → Nat} (a1 : Int32) (s : MS) {Q : Int32 → MS → Prop} {Post : MS → Prop} (hR : ∀ (s9 : MS), Post (s9) → Q 0 s9) (h : Ok (f_Walk_allow a1 s) Post) : G (XX l D cI cZ cJ ad) "SmallHarbour$Walk" b_Walk_allow 2 none 0 0 [(0, .ref (ad 6)), (1, .int a1)] [] s Q := by
  unfold f_Walk_allow at h
  refine G_aload_n d_Walk_allow_0 rfl 0 rfl ?_
  refine gx_Walk_size d_Walk_allow_1 w_146 ?_
  refine G_if_le (tgt := 24) d_Walk_allow_4 (by decide) (fun c => ?_) (fun c => ?_)
  · replace h := Ok_t c h
    replace h := Ok_some h
    exact G_vret rfl d_Walk_allow_24 (hR _ h)
  replace h := Ok_f c h
  refine G_aload_n d_Walk_allow_7 rfl 0 rfl ?_
  refine gx_Walk_allowed d_Walk_allow_8 w_152 ?_
  refine G_aload_n d_Walk_allow_11 rfl 0 rfl ?_
  refine gx_Walk_size d_Walk_allow_12 w_146 ?_
  refine G_iconst d_Walk_allow_15 lt_iconst_1 ?_
  refine G_isub d_Walk_allow_16 ?_
  refine G_dup2 d_Walk_allow_17 rfl rfl ?_
  refine lx_24 d_Walk_allow_18 (Ok_ld h).1 (fun v1 e => ?_)
  replace h := (Ok_ld h).2 v1 e
  clear e
  refine G_iconst d_Walk_allow_19 lt_iconst_1 ?_
  refine G_iload_n d_Walk_allow_20 rfl 1 rfl ?_
  refine G_ishl d_Walk_allow_21 ?_
  refine G_ior d_Walk_allow_22 ?_
  refine sx_24 d_Walk_allow_23 (Ok_ld h).1 (fun s2 e => ?_)
  replace h := (Ok_ld h).2 s2 e
  clear e
  replace h := Ok_some h
  exact G_vret rfl d_Walk_allow_24 (hR _ h)
theorem c_Walk_allow {l : Launch} {D : va_G} {cI cZ cJ : ClassId} {ad : Nat → Nat} (a1 : Int32) (s : MS) {P : MS → Prop} (h : Ok (f_Walk_allow a1 s) P) : Ct (XX l D cI cZ cJ ad) y_Walk_allow b_Walk_allow 2 none 0 [.ref (ad 6), .int a1] s (fun _ s9 => P s9) :=
  Ct.of mi_Walk_allow (Nat.le_of_ble_eq_true rfl) (f_Walk_allow_w a1 s (fun _ h => h) h)
-- Walk_restart
noncomputable def f_Walk_restart (a1 : Int32) (s : MS) : Option MS :=
  bnd (pf s 6 (0 : Int32)) fun s1 => bnd (if (10 : Int32) < a1 then (10 : Int32) else a1) fun v2 => bnd (pf s1 7 v2) fun s3 => bnd (pf s3 8 (13 : Int32)) fun s4 => bnd (pf s4 9 (0 : Int32)) fun s5 => (f_Ar_fill39 (0 : Int32) s5).bind fun s6 => some s6
theorem f_Walk_restart_w {l : Launch} {D : va_G} {cI cZ cJ : ClassId} {ad : Nat → Nat} (a1 : Int32) (s : MS) {Q : Int32 → MS → Prop} {Post : MS → Prop} (hR : ∀ (s9 : MS), Post (s9) → Q 0 s9) (h : Ok (f_Walk_restart a1 s) Post) : G (XX l D cI cZ cJ ad) "SmallHarbour$Walk" b_Walk_restart 2 none 1 0 [(0, .ref (ad 6)), (1, .int a1)] [] s Q := by
  unfold f_Walk_restart at h
  refine G_aload_n d_Walk_restart_0 rfl 0 rfl ?_
  refine G_iconst d_Walk_restart_1 lt_iconst_0 ?_
  refine px_Walk_size d_Walk_restart_2 w_146 (fun s1 e => ?_)
  replace h := Ok_bnd h s1 e
  clear e
  refine G_aload_n d_Walk_restart_5 rfl 0 rfl ?_
  refine G_iload_n d_Walk_restart_6 rfl 1 rfl ?_
  refine G_bipush d_Walk_restart_7 lt_bipush_10 ?_
  refine G_min d_Walk_restart_9 w_555 w_451 w_15 w_452 (by decide) (Nat.le_of_ble_eq_true rfl) (G_topi (fun v2 e => ?_))
  replace h := Ok_bnd h v2 e
  clear e
  refine px_Walk_berthCount d_Walk_restart_12 w_155 (fun s3 e => ?_)
  replace h := Ok_bnd h s3 e
  clear e
  refine G_aload_n d_Walk_restart_15 rfl 0 rfl ?_
  refine G_bipush d_Walk_restart_16 lt_bipush_13 ?_
  refine px_Walk_fewest d_Walk_restart_18 w_156 (fun s4 e => ?_)
  replace h := Ok_bnd h s4 e
  clear e
  refine G_aload_n d_Walk_restart_21 rfl 0 rfl ?_
  refine G_iconst d_Walk_restart_22 lt_iconst_0 ?_
  refine px_Walk_tries d_Walk_restart_23 w_157 (fun s5 e => ?_)
  replace h := Ok_bnd h s5 e
  clear e
  refine G_aload_n d_Walk_restart_26 rfl 0 rfl ?_
  refine gx_Walk_putAt d_Walk_restart_27 w_154 ?_
  refine G_iconst d_Walk_restart_30 lt_iconst_0 ?_
  refine G_callSv (st := []) (As := [.ref (ad 39), .int (0 : Int32)]) d_Walk_restart_31 mi_Ar_fill w_556 w_404 rfl (Nat.le_of_ble_eq_true rfl) (by decide) (c_Ar_fill39 (0 : Int32) s5 (Ok_bind h)) (fun s6 h => ?_)
  replace h := Ok_some h
  exact G_vret rfl d_Walk_restart_34 (hR _ h)
theorem c_Walk_restart {l : Launch} {D : va_G} {cI cZ cJ : ClassId} {ad : Nat → Nat} (a1 : Int32) (s : MS) {P : MS → Prop} (h : Ok (f_Walk_restart a1 s) P) : Ct (XX l D cI cZ cJ ad) y_Walk_restart b_Walk_restart 2 none 1 [.ref (ad 6), .int a1] s (fun _ s9 => P s9) :=
  Ct.of mi_Walk_restart (Nat.le_of_ble_eq_true rfl) (f_Walk_restart_w a1 s (fun _ h => h) h)
-- Hb_lineUp
noncomputable def Hb_lineUp_l109 (x1 x2 x3 : Int32) (x4 : Int32) (s : MS) : Option ((Int32 × MS) ⊕ ((Int32 × MS) ⊕ (Int32 × MS))) :=
  if (s.1 2) ≤ x4 then (xit (bnd (x2 + (1 : Int32)) fun v1 => some (.inl (v1, s)))) else (chk (inb x2 40) (bnd (s.2 14 x2.toNatClampNeg) fun v2 => chk (inb x2 40) (bnd (s.2 17 x2.toNatClampNeg) fun v3 => (f_Hb_canLie v2 x4 x3 v3 s).bind fun v4 => if v4 = 0 then (bnd (x4 + (1 : Int32)) fun v5 => some (.inl (v5, s))) else ((f_Walk_allow x4 s).bind fun s6 => bnd (x4 + (1 : Int32)) fun v7 => some (.inl (v7, s6))))))
theorem Hb_lineUp_l109_w {l : Launch} {D : va_G} {cI cZ cJ : ClassId} {ad : Nat → Nat} (x1 x2 x3 x4 : Int32) (s : MS) {Q : Int32 → MS → Prop} {Post : ((Int32 × MS) ⊕ ((Int32 × MS) ⊕ (Int32 × MS))) → Prop} (hR : ∀ (r9 : Int32) (s9 : MS), Post (.inr (.inr ((r9, s9)))) → Q r9 s9) (hL16 : ∀ (z2 : Int32) (s9 : MS), Post (.inr (.inl (z2, s9))) → G (XX l D cI cZ cJ ad) "SmallHarbour" b_Hb_lineUp 5 (some .boolean) 4 16 [(0, .ref (ad 0)), (1, .int x1), (2, .int z2)] [] s9 Q) (hL109 : ∀ (z4 : Int32) (s9 : MS), Post (.inl (z4, s9)) → G (XX l D cI cZ cJ ad) "SmallHarbour" b_Hb_lineUp 5 (some .boolean) 4 109 [(0, .ref (ad 0)), (1, .int x1), (2, .int x2), (3, .int x3), (4, .int z4)] [] s9 Q) (h : Ok (Hb_lineUp_l109 x1 x2 x3 x4 s) Post) : G (XX l D cI cZ cJ ad) "SmallHarbour" b_Hb_lineUp 5 (some .boolean) 4 109 [(0, .ref (ad 0)), (1, .int x1), (2, .int x2), (3, .int x3), (4, .int x4)] [] s Q := by
  unfold Hb_lineUp_l109 at h
  refine G_iload d_Hb_lineUp_109 4 rfl ?_
  refine G_aload_n d_Hb_lineUp_111 rfl 0 rfl ?_
  refine gx_Hb_berths d_Hb_lineUp_112 w_348 ?_
  refine gx_Berths_count d_Hb_lineUp_115 w_50 ?_
  refine G_icmp_ge (tgt := 164) d_Hb_lineUp_118 (by decide) (fun c => ?_) (fun c => ?_)
  · replace h := Ok_t c h
    replace h := Ok_xit h
    refine G_iinc d_Hb_lineUp_164 2 rfl lt_iconst_1 rfl (Nat.le_of_ble_eq_true rfl) (fun x => [(2, .int x), (0, .ref (ad 0)), (1, .int x1), (3, .int x3), (4, .int x4)]) (fun _ => rfl) (fun v1 e => ?_)
    replace h := Ok_bnd h v1 e
    clear e
    refine G_goto (tgt := 16) d_Hb_lineUp_167 (by decide) ?_
    refine G_lv [1, 2, 0] rfl ?_
    replace h := Ok_some h
    exact hL16 v1 s h
  replace h := Ok_f c h
  refine G_aload_n d_Hb_lineUp_121 rfl 0 rfl ?_
  refine G_aload_n d_Hb_lineUp_122 rfl 0 rfl ?_
  refine gx_Hb_stays d_Hb_lineUp_123 w_351 ?_
  refine gx_Stays_boat d_Hb_lineUp_126 w_116 ?_
  refine G_iload_n d_Hb_lineUp_129 rfl 2 rfl ?_
  refine lx_14 d_Hb_lineUp_130 (Ok_ld h).1 (fun v2 e => ?_)
  replace h := (Ok_ld h).2 v2 e
  clear e
  refine G_iload d_Hb_lineUp_131 4 rfl ?_
  refine G_iload_n d_Hb_lineUp_133 rfl 3 rfl ?_
  refine G_aload_n d_Hb_lineUp_134 rfl 0 rfl ?_
  refine gx_Hb_stays d_Hb_lineUp_135 w_351 ?_
  refine gx_Stays_to d_Hb_lineUp_138 w_122 ?_
  refine G_iload_n d_Hb_lineUp_141 rfl 2 rfl ?_
  refine lx_17 d_Hb_lineUp_142 (Ok_ld h).1 (fun v3 e => ?_)
  replace h := (Ok_ld h).2 v3 e
  clear e
  refine G_callVp (st := []) (As := [.int v2, .int x4, .int x3, .int v3]) (b := ad 0) d_Hb_lineUp_143 mi_Hb_canLie w_523 0 rfl rfl mv_Hb_canLie rfl (Nat.le_of_ble_eq_true rfl) (by decide) (c_Hb_canLie v2 x4 x3 v3 s (Ok_bind h)) (fun v4 h hnv4 => ?_)
  refine G_if_eq (tgt := 158) d_Hb_lineUp_146 (by decide) (fun c => ?_) (fun c => ?_)
  · replace h := Ok_t c h
    refine G_iinc d_Hb_lineUp_158 4 rfl lt_iconst_1 rfl (Nat.le_of_ble_eq_true rfl) (fun x => [(4, .int x), (0, .ref (ad 0)), (1, .int x1), (2, .int x2), (3, .int x3)]) (fun _ => rfl) (fun v5 e => ?_)
    replace h := Ok_bnd h v5 e
    clear e
    refine G_goto (tgt := 109) d_Hb_lineUp_161 (by decide) ?_
    refine G_lv [1, 2, 3, 4, 0] rfl ?_
    replace h := Ok_some h
    exact hL109 v5 s h
  replace h := Ok_f c h
  refine G_aload_n d_Hb_lineUp_149 rfl 0 rfl ?_
  refine gx_Hb_walk d_Hb_lineUp_150 w_352 ?_
  refine G_iload d_Hb_lineUp_153 4 rfl ?_
  refine G_callVv (st := []) (As := [.int x4]) (b := ad 6) d_Hb_lineUp_155 mi_Walk_allow w_562 6 rfl rfl mv_Walk_allow rfl (Nat.le_of_ble_eq_true rfl) (by decide) (c_Walk_allow x4 s (Ok_bind h)) (fun s6 h => ?_)
  refine G_iinc d_Hb_lineUp_158 4 rfl lt_iconst_1 rfl (Nat.le_of_ble_eq_true rfl) (fun x => [(4, .int x), (0, .ref (ad 0)), (1, .int x1), (2, .int x2), (3, .int x3)]) (fun _ => rfl) (fun v7 e => ?_)
  replace h := Ok_bnd h v7 e
  clear e
  refine G_goto (tgt := 109) d_Hb_lineUp_161 (by decide) ?_
  refine G_lv [1, 2, 3, 4, 0] rfl ?_
  replace h := Ok_some h
  exact hL109 v7 s6 h
noncomputable def Hb_lineUp_l16 (x1 : Int32) (x2 : Int32) (s : MS) : Option ((Int32 × MS) ⊕ (Int32 × MS)) :=
  if (s.1 5) ≤ x2 then (xit (some ((1 : Int32), s))) else (chk (inb x2 40) (bnd (s.2 17 x2.toNatClampNeg) fun v1 => if x1 < v1 then (if (s.1 6) < (12 : Int32) then (chk (inb x2 40) (bnd (s.2 16 x2.toNatClampNeg) fun v2 => bnd (if v2 < x1 then x1 else v2) fun v3 => chk (inb x2 40) (bnd (s.2 15 x2.toNatClampNeg) fun v4 => chk (inb x2 40) (bnd (s.2 16 x2.toNatClampNeg) fun v5 => chk (inb x2 40) (bnd (s.2 17 x2.toNatClampNeg) fun v6 => (f_Walk_add x2 v4 v5 v6 s).bind fun s7 => loop (fun z => Hb_lineUp_l109 x1 x2 v3 z.1 z.2) ((0 : Int32), s7)))))) else (xit (some ((0 : Int32), s)))) else (bnd (x2 + (1 : Int32)) fun v8 => some (.inl (v8, s)))))
theorem Hb_lineUp_l16_w {l : Launch} {D : va_G} {cI cZ cJ : ClassId} {ad : Nat → Nat} (x1 x2 : Int32) (s : MS) {Q : Int32 → MS → Prop} {Post : ((Int32 × MS) ⊕ (Int32 × MS)) → Prop} (hR : ∀ (r9 : Int32) (s9 : MS), Post (.inr ((r9, s9))) → Q r9 s9) (hL16 : ∀ (z2 : Int32) (s9 : MS), Post (.inl (z2, s9)) → G (XX l D cI cZ cJ ad) "SmallHarbour" b_Hb_lineUp 5 (some .boolean) 4 16 [(0, .ref (ad 0)), (1, .int x1), (2, .int z2)] [] s9 Q) (h : Ok (Hb_lineUp_l16 x1 x2 s) Post) : G (XX l D cI cZ cJ ad) "SmallHarbour" b_Hb_lineUp 5 (some .boolean) 4 16 [(0, .ref (ad 0)), (1, .int x1), (2, .int x2)] [] s Q := by
  unfold Hb_lineUp_l16 at h
  refine G_iload_n d_Hb_lineUp_16 rfl 2 rfl ?_
  refine G_aload_n d_Hb_lineUp_17 rfl 0 rfl ?_
  refine gx_Hb_stays d_Hb_lineUp_18 w_351 ?_
  refine gx_Stays_count d_Hb_lineUp_21 w_124 ?_
  refine G_icmp_ge (tgt := 170) d_Hb_lineUp_24 (by decide) (fun c => ?_) (fun c => ?_)
  · replace h := Ok_t c h
    replace h := Ok_xit h
    refine G_iconst d_Hb_lineUp_170 lt_iconst_1 ?_
    replace h := Ok_some h
    exact G_iret rfl rfl d_Hb_lineUp_171 (hR _ _ h)
  replace h := Ok_f c h
  refine G_aload_n d_Hb_lineUp_27 rfl 0 rfl ?_
  refine gx_Hb_stays d_Hb_lineUp_28 w_351 ?_
  refine gx_Stays_to d_Hb_lineUp_31 w_122 ?_
  refine G_iload_n d_Hb_lineUp_34 rfl 2 rfl ?_
  refine lx_17 d_Hb_lineUp_35 (Ok_ld h).1 (fun v1 e => ?_)
  replace h := (Ok_ld h).2 v1 e
  clear e
  refine G_iload_n d_Hb_lineUp_36 rfl 1 rfl ?_
  refine G_icmp_gt (tgt := 43) d_Hb_lineUp_37 (by decide) (fun c => ?_) (fun c => ?_)
  · replace h := Ok_t c h
    refine G_aload_n d_Hb_lineUp_43 rfl 0 rfl ?_
    refine gx_Hb_walk d_Hb_lineUp_44 w_352 ?_
    refine gx_Walk_size d_Hb_lineUp_47 w_147 ?_
    refine G_bipush d_Hb_lineUp_50 lt_bipush_12 ?_
    refine G_icmp_lt (tgt := 57) d_Hb_lineUp_52 (by decide) (fun c => ?_) (fun c => ?_)
    · replace h := Ok_t c h
      refine G_aload_n d_Hb_lineUp_57 rfl 0 rfl ?_
      refine gx_Hb_stays d_Hb_lineUp_58 w_351 ?_
      refine gx_Stays_from d_Hb_lineUp_61 w_120 ?_
      refine G_iload_n d_Hb_lineUp_64 rfl 2 rfl ?_
      refine lx_16 d_Hb_lineUp_65 (Ok_ld h).1 (fun v2 e => ?_)
      replace h := (Ok_ld h).2 v2 e
      clear e
      refine G_iload_n d_Hb_lineUp_66 rfl 1 rfl ?_
      refine G_max d_Hb_lineUp_67 w_557 w_506 w_15 w_507 (by decide) (Nat.le_of_ble_eq_true rfl) (G_topi (fun v3 e => ?_))
      replace h := Ok_bnd h v3 e
      clear e
      refine G_istore_n d_Hb_lineUp_70 rfl (Nat.le_of_ble_eq_true rfl) (fun x => [(3, .int x), (0, .ref (ad 0)), (1, .int x1), (2, .int x2)]) (fun _ => rfl) (fun x e => ?_)
      subst e
      refine G_aload_n d_Hb_lineUp_71 rfl 1 rfl ?_
      refine gx_Hb_walk d_Hb_lineUp_72 w_352 ?_
      refine G_iload_n d_Hb_lineUp_75 rfl 3 rfl ?_
      refine G_aload_n d_Hb_lineUp_76 rfl 1 rfl ?_
      refine gx_Hb_stays d_Hb_lineUp_77 w_351 ?_
      refine gx_Stays_berth d_Hb_lineUp_80 w_118 ?_
      refine G_iload_n d_Hb_lineUp_83 rfl 3 rfl ?_
      refine lx_15 d_Hb_lineUp_84 (Ok_ld h).1 (fun v4 e => ?_)
      replace h := (Ok_ld h).2 v4 e
      clear e
      refine G_aload_n d_Hb_lineUp_85 rfl 1 rfl ?_
      refine gx_Hb_stays d_Hb_lineUp_86 w_351 ?_
      refine gx_Stays_from d_Hb_lineUp_89 w_120 ?_
      refine G_iload_n d_Hb_lineUp_92 rfl 3 rfl ?_
      refine lx_16 d_Hb_lineUp_93 (Ok_ld h).1 (fun v5 e => ?_)
      replace h := (Ok_ld h).2 v5 e
      clear e
      refine G_aload_n d_Hb_lineUp_94 rfl 1 rfl ?_
      refine gx_Hb_stays d_Hb_lineUp_95 w_351 ?_
      refine gx_Stays_to d_Hb_lineUp_98 w_122 ?_
      refine G_iload_n d_Hb_lineUp_101 rfl 3 rfl ?_
      refine lx_17 d_Hb_lineUp_102 (Ok_ld h).1 (fun v6 e => ?_)
      replace h := (Ok_ld h).2 v6 e
      clear e
      refine G_callVv (st := []) (As := [.int x2, .int v4, .int v5, .int v6]) (b := ad 6) d_Hb_lineUp_103 mi_Walk_add w_558 6 rfl rfl mv_Walk_add rfl (Nat.le_of_ble_eq_true rfl) (by decide) (c_Walk_add x2 v4 v5 v6 s (Ok_bind h)) (fun s7 h => ?_)
      refine G_iconst d_Hb_lineUp_106 lt_iconst_0 ?_
      refine G_istore d_Hb_lineUp_107 (Nat.le_of_ble_eq_true rfl) (fun x => [(4, .int x), (3, .int v3), (0, .ref (ad 0)), (1, .int x1), (2, .int x2)]) (fun _ => rfl) (fun x e => ?_)
      subst e
      refine G_lv [2, 3, 4, 1, 0] rfl ?_
      refine G_loop (J := (fun z => G (XX l D cI cZ cJ ad) "SmallHarbour" b_Hb_lineUp 5 (some .boolean) 4 109 [(0, .ref (ad 0)), (1, .int x1), (2, .int x2), (3, .int v3), (4, .int (z.1))] [] z.2 Q)) (fun z h => ?_) ((0 : Int32), s7) h
      refine Hb_lineUp_l109_w x1 x2 v3 z.1 z.2 ?_ ?_ ?_ h
      · exact hR
      · exact hL16
      · exact (fun z4 s9 h => h)
    replace h := Ok_f c h
    replace h := Ok_xit h
    refine G_iconst d_Hb_lineUp_55 lt_iconst_0 ?_
    replace h := Ok_some h
    exact G_iret rfl rfl d_Hb_lineUp_56 (hR _ _ h)
  replace h := Ok_f c h
  refine G_goto (tgt := 164) d_Hb_lineUp_40 (by decide) ?_
  refine G_iinc d_Hb_lineUp_164 2 rfl lt_iconst_1 rfl (Nat.le_of_ble_eq_true rfl) (fun x => [(2, .int x), (0, .ref (ad 0)), (1, .int x1)]) (fun _ => rfl) (fun v8 e => ?_)
  replace h := Ok_bnd h v8 e
  clear e
  refine G_goto (tgt := 16) d_Hb_lineUp_167 (by decide) ?_
  refine G_lv [1, 2, 0] rfl ?_
  replace h := Ok_some h
  exact hL16 v8 s h
noncomputable def f_Hb_lineUp (a1 : Int32) (s : MS) : Option (Int32 × MS) :=
  (f_Walk_restart (s.1 2) s).bind fun s1 => loop (fun z => Hb_lineUp_l16 a1 z.1 z.2) ((0 : Int32), s1)
theorem f_Hb_lineUp_w {l : Launch} {D : va_G} {cI cZ cJ : ClassId} {ad : Nat → Nat} (a1 : Int32) (s : MS) {Q : Int32 → MS → Prop} {Post : (Int32 × MS) → Prop} (hR : ∀ (r9 : Int32) (s9 : MS), Post ((r9, s9)) → Q r9 s9) (h : Ok (f_Hb_lineUp a1 s) Post) : G (XX l D cI cZ cJ ad) "SmallHarbour" b_Hb_lineUp 5 (some .boolean) 4 0 [(0, .ref (ad 0)), (1, .int a1)] [] s Q := by
  unfold f_Hb_lineUp at h
  refine G_aload_n d_Hb_lineUp_0 rfl 0 rfl ?_
  refine gx_Hb_walk d_Hb_lineUp_1 w_352 ?_
  refine G_aload_n d_Hb_lineUp_4 rfl 0 rfl ?_
  refine gx_Hb_berths d_Hb_lineUp_5 w_348 ?_
  refine gx_Berths_count d_Hb_lineUp_8 w_50 ?_
  refine G_callVv (st := []) (As := [.int (s.1 2)]) (b := ad 6) d_Hb_lineUp_11 mi_Walk_restart w_551 6 rfl rfl mv_Walk_restart rfl (Nat.le_of_ble_eq_true rfl) (by decide) (c_Walk_restart (s.1 2) s (Ok_bind h)) (fun s1 h => ?_)
  refine G_iconst d_Hb_lineUp_14 lt_iconst_0 ?_
  refine G_istore_n d_Hb_lineUp_15 rfl (Nat.le_of_ble_eq_true rfl) (fun x => [(2, .int x), (0, .ref (ad 0)), (1, .int a1)]) (fun _ => rfl) (fun x e => ?_)
  subst e
  refine G_lv [1, 2, 0] rfl ?_
  refine G_loop (J := (fun z => G (XX l D cI cZ cJ ad) "SmallHarbour" b_Hb_lineUp 5 (some .boolean) 4 16 [(0, .ref (ad 0)), (1, .int a1), (2, .int (z.1))] [] z.2 Q)) (fun z h => ?_) ((0 : Int32), s1) h
  refine Hb_lineUp_l16_w a1 z.1 z.2 ?_ ?_ h
  · exact hR
  · exact (fun z2 s9 h => h)
theorem c_Hb_lineUp {l : Launch} {D : va_G} {cI cZ cJ : ClassId} {ad : Nat → Nat} (a1 : Int32) (s : MS) {P : Int32 → MS → Prop} (h : Ok2 (f_Hb_lineUp a1 s) P) : Ct (XX l D cI cZ cJ ad) y_Hb_lineUp b_Hb_lineUp 5 (some .boolean) 4 [.ref (ad 0), .int a1] s (P) :=
  Ct.of mi_Hb_lineUp (Nat.le_of_ble_eq_true rfl) (f_Hb_lineUp_w a1 s (Post := fun q => P q.1 q.2) (fun _ _ h => h) (Ok2_ok h))
-- Walk_isFound
noncomputable def f_Walk_isFound (s : MS) : Option Int32 :=
  if (s.1 8) = (13 : Int32) then (some (0 : Int32)) else (some (1 : Int32))
theorem f_Walk_isFound_w {l : Launch} {D : va_G} {cI cZ cJ : ClassId} {ad : Nat → Nat} (s : MS) {Q : Int32 → MS → Prop} {Post : Int32 → Prop} (hR : ∀ (r9 : Int32), Post (r9) → Q r9 s) (h : Ok (f_Walk_isFound s) Post) : G (XX l D cI cZ cJ ad) "SmallHarbour$Walk" b_Walk_isFound 1 (some .boolean) 0 0 [(0, .ref (ad 6))] [] s Q := by
  unfold f_Walk_isFound at h
  refine G_aload_n d_Walk_isFound_0 rfl 0 rfl ?_
  refine gx_Walk_fewest d_Walk_isFound_1 w_156 ?_
  refine G_bipush d_Walk_isFound_4 lt_bipush_13 ?_
  refine G_icmp_eq (tgt := 13) d_Walk_isFound_6 (by decide) (fun c => ?_) (fun c => ?_)
  · replace h := Ok_t c h
    refine G_iconst d_Walk_isFound_13 lt_iconst_0 ?_
    replace h := Ok_some h
    exact G_iret rfl rfl d_Walk_isFound_14 (hR _ h)
  replace h := Ok_f c h
  refine G_iconst d_Walk_isFound_9 lt_iconst_1 ?_
  refine G_goto (tgt := 14) d_Walk_isFound_10 (by decide) ?_
  replace h := Ok_some h
  exact G_iret rfl rfl d_Walk_isFound_14 (hR _ h)
theorem c_Walk_isFound {l : Launch} {D : va_G} {cI cZ cJ : ClassId} {ad : Nat → Nat} (s : MS) {P : Int32 → Prop} (h : Ok (f_Walk_isFound  s) P) : Ct (XX l D cI cZ cJ ad) y_Walk_isFound b_Walk_isFound 1 (some .boolean) 0 [.ref (ad 6)] s (fun r9 s9 => s9 = s ∧ P r9) :=
  Ct.of mi_Walk_isFound (Nat.le_of_ble_eq_true rfl) (f_Walk_isFound_w  s (fun _ h => ⟨rfl, h⟩) h)
-- Walk_isSpent
noncomputable def f_Walk_isSpent (s : MS) : Option Int32 :=
  if (s.1 9) ≤ (50000 : Int32) then (some (0 : Int32)) else (some (1 : Int32))
theorem f_Walk_isSpent_w {l : Launch} {D : va_G} {cI cZ cJ : ClassId} {ad : Nat → Nat} (s : MS) {Q : Int32 → MS → Prop} {Post : Int32 → Prop} (hR : ∀ (r9 : Int32), Post (r9) → Q r9 s) (h : Ok (f_Walk_isSpent s) Post) : G (XX l D cI cZ cJ ad) "SmallHarbour$Walk" b_Walk_isSpent 1 (some .boolean) 0 0 [(0, .ref (ad 6))] [] s Q := by
  unfold f_Walk_isSpent at h
  refine G_aload_n d_Walk_isSpent_0 rfl 0 rfl ?_
  refine gx_Walk_tries d_Walk_isSpent_1 w_157 ?_
  refine G_ldc d_Walk_isSpent_4 w_581 ?_
  refine G_icmp_le (tgt := 13) d_Walk_isSpent_6 (by decide) (fun c => ?_) (fun c => ?_)
  · replace h := Ok_t c h
    refine G_iconst d_Walk_isSpent_13 lt_iconst_0 ?_
    replace h := Ok_some h
    exact G_iret rfl rfl d_Walk_isSpent_14 (hR _ h)
  replace h := Ok_f c h
  refine G_iconst d_Walk_isSpent_9 lt_iconst_1 ?_
  refine G_goto (tgt := 14) d_Walk_isSpent_10 (by decide) ?_
  replace h := Ok_some h
  exact G_iret rfl rfl d_Walk_isSpent_14 (hR _ h)
theorem c_Walk_isSpent {l : Launch} {D : va_G} {cI cZ cJ : ClassId} {ad : Nat → Nat} (s : MS) {P : Int32 → Prop} (h : Ok (f_Walk_isSpent  s) P) : Ct (XX l D cI cZ cJ ad) y_Walk_isSpent b_Walk_isSpent 1 (some .boolean) 0 [.ref (ad 6)] s (fun r9 s9 => s9 = s ∧ P r9) :=
  Ct.of mi_Walk_isSpent (Nat.le_of_ble_eq_true rfl) (f_Walk_isSpent_w  s (fun _ h => ⟨rfl, h⟩) h)
-- Walk_movedFromAhead
noncomputable def Walk_movedFromAhead_l4 (x1 : Int32) (s : MS) (x2 x3 : Int32) : Option ((Int32 × Int32) ⊕ Int32) :=
  if (s.1 6) ≤ x3 then (xit (some x2)) else ((f_Walk_isMoved x3 s).bind fun v1 => if v1 = 0 then (bnd (x3 + (1 : Int32)) fun v2 => some (.inl (x2, v2))) else (chk (inb x3 12) (bnd (s.2 21 x3.toNatClampNeg) fun v3 => if x1 ≤ v3 then (bnd (x3 + (1 : Int32)) fun v4 => some (.inl (x2, v4))) else (bnd (x2 + (1 : Int32)) fun v5 => bnd (x3 + (1 : Int32)) fun v6 => some (.inl (v5, v6))))))
theorem Walk_movedFromAhead_l4_w {l : Launch} {D : va_G} {cI cZ cJ : ClassId} {ad : Nat → Nat} (x1 x2 x3 : Int32) (s : MS) {Q : Int32 → MS → Prop} {Post : ((Int32 × Int32) ⊕ Int32) → Prop} (hR : ∀ (r9 : Int32), Post (.inr (r9)) → Q r9 s) (hL4 : ∀ (z2 z3 : Int32) , Post (.inl (z2, z3)) → G (XX l D cI cZ cJ ad) "SmallHarbour$Walk" b_Walk_movedFromAhead 4 (some .int) 1 4 [(0, .ref (ad 6)), (1, .int x1), (2, .int z2), (3, .int z3)] [] s Q) (h : Ok (Walk_movedFromAhead_l4 x1 s x2 x3) Post) : G (XX l D cI cZ cJ ad) "SmallHarbour$Walk" b_Walk_movedFromAhead 4 (some .int) 1 4 [(0, .ref (ad 6)), (1, .int x1), (2, .int x2), (3, .int x3)] [] s Q := by
  unfold Walk_movedFromAhead_l4 at h
  refine G_iload_n d_Walk_movedFromAhead_4 rfl 3 rfl ?_
  refine G_aload_n d_Walk_movedFromAhead_5 rfl 0 rfl ?_
  refine gx_Walk_size d_Walk_movedFromAhead_6 w_146 ?_
  refine G_icmp_ge (tgt := 39) d_Walk_movedFromAhead_9 (by decide) (fun c => ?_) (fun c => ?_)
  · replace h := Ok_t c h
    replace h := Ok_xit h
    refine G_iload_n d_Walk_movedFromAhead_39 rfl 2 rfl ?_
    replace h := Ok_some h
    exact G_iret rfl (vp_nar_int _) d_Walk_movedFromAhead_40 (hR _ h)
  replace h := Ok_f c h
  refine G_aload_n d_Walk_movedFromAhead_12 rfl 0 rfl ?_
  refine G_iload_n d_Walk_movedFromAhead_13 rfl 3 rfl ?_
  refine G_callVp (st := []) (As := [.int x3]) (b := ad 6) d_Walk_movedFromAhead_14 mi_Walk_isMoved w_591 6 rfl rfl mv_Walk_isMoved rfl (Nat.le_of_ble_eq_true rfl) (by decide) (c_Walk_isMoved x3 s (Ok_bind h)) (fun v1 h hnv1 => ?_)
  refine G_if_eq (tgt := 33) d_Walk_movedFromAhead_17 (by decide) (fun c => ?_) (fun c => ?_)
  · replace h := Ok_t c h
    refine G_iinc d_Walk_movedFromAhead_33 3 rfl lt_iconst_1 rfl (Nat.le_of_ble_eq_true rfl) (fun x => [(3, .int x), (0, .ref (ad 6)), (1, .int x1), (2, .int x2)]) (fun _ => rfl) (fun v2 e => ?_)
    replace h := Ok_bnd h v2 e
    clear e
    refine G_goto (tgt := 4) d_Walk_movedFromAhead_36 (by decide) ?_
    refine G_lv [1, 2, 3, 0] rfl ?_
    replace h := Ok_some h
    exact hL4 x2 v2 h
  replace h := Ok_f c h
  refine G_aload_n d_Walk_movedFromAhead_20 rfl 0 rfl ?_
  refine gx_Walk_from d_Walk_movedFromAhead_21 w_149 ?_
  refine G_iload_n d_Walk_movedFromAhead_24 rfl 3 rfl ?_
  refine lx_21 d_Walk_movedFromAhead_25 (Ok_ld h).1 (fun v3 e => ?_)
  replace h := (Ok_ld h).2 v3 e
  clear e
  refine G_iload_n d_Walk_movedFromAhead_26 rfl 1 rfl ?_
  refine G_icmp_ge (tgt := 33) d_Walk_movedFromAhead_27 (by decide) (fun c => ?_) (fun c => ?_)
  · replace h := Ok_t c h
    refine G_iinc d_Walk_movedFromAhead_33 3 rfl lt_iconst_1 rfl (Nat.le_of_ble_eq_true rfl) (fun x => [(3, .int x), (0, .ref (ad 6)), (1, .int x1), (2, .int x2)]) (fun _ => rfl) (fun v4 e => ?_)
    replace h := Ok_bnd h v4 e
    clear e
    refine G_goto (tgt := 4) d_Walk_movedFromAhead_36 (by decide) ?_
    refine G_lv [1, 2, 3, 0] rfl ?_
    replace h := Ok_some h
    exact hL4 x2 v4 h
  replace h := Ok_f c h
  refine G_iinc d_Walk_movedFromAhead_30 2 rfl lt_iconst_1 rfl (Nat.le_of_ble_eq_true rfl) (fun x => [(2, .int x), (0, .ref (ad 6)), (1, .int x1), (3, .int x3)]) (fun _ => rfl) (fun v5 e => ?_)
  replace h := Ok_bnd h v5 e
  clear e
  refine G_iinc d_Walk_movedFromAhead_33 3 rfl lt_iconst_1 rfl (Nat.le_of_ble_eq_true rfl) (fun x => [(3, .int x), (2, .int v5), (0, .ref (ad 6)), (1, .int x1)]) (fun _ => rfl) (fun v6 e => ?_)
  replace h := Ok_bnd h v6 e
  clear e
  refine G_goto (tgt := 4) d_Walk_movedFromAhead_36 (by decide) ?_
  refine G_lv [2, 3, 1, 0] rfl ?_
  replace h := Ok_some h
  exact hL4 v5 v6 h
noncomputable def f_Walk_movedFromAhead (a1 : Int32) (s : MS) : Option Int32 :=
  loop (fun z => Walk_movedFromAhead_l4 a1 s z.1 z.2) ((0 : Int32), (0 : Int32))
theorem f_Walk_movedFromAhead_w {l : Launch} {D : va_G} {cI cZ cJ : ClassId} {ad : Nat → Nat} (a1 : Int32) (s : MS) {Q : Int32 → MS → Prop} {Post : Int32 → Prop} (hR : ∀ (r9 : Int32), Post (r9) → Q r9 s) (h : Ok (f_Walk_movedFromAhead a1 s) Post) : G (XX l D cI cZ cJ ad) "SmallHarbour$Walk" b_Walk_movedFromAhead 4 (some .int) 1 0 [(0, .ref (ad 6)), (1, .int a1)] [] s Q := by
  unfold f_Walk_movedFromAhead at h
  refine G_iconst d_Walk_movedFromAhead_0 lt_iconst_0 ?_
  refine G_istore_n d_Walk_movedFromAhead_1 rfl (Nat.le_of_ble_eq_true rfl) (fun x => [(2, .int x), (0, .ref (ad 6)), (1, .int a1)]) (fun _ => rfl) (fun x e => ?_)
  subst e
  refine G_iconst d_Walk_movedFromAhead_2 lt_iconst_0 ?_
  refine G_istore_n d_Walk_movedFromAhead_3 rfl (Nat.le_of_ble_eq_true rfl) (fun x => [(3, .int x), (2, .int (0 : Int32)), (0, .ref (ad 6)), (1, .int a1)]) (fun _ => rfl) (fun x e => ?_)
  subst e
  refine G_lv [2, 3, 1, 0] rfl ?_
  refine G_loop (J := (fun z => G (XX l D cI cZ cJ ad) "SmallHarbour$Walk" b_Walk_movedFromAhead 4 (some .int) 1 4 [(0, .ref (ad 6)), (1, .int a1), (2, .int (z.1)), (3, .int (z.2))] [] s Q)) (fun z h => ?_) ((0 : Int32), (0 : Int32)) h
  refine Walk_movedFromAhead_l4_w a1 z.1 z.2 s ?_ ?_ h
  · exact hR
  · exact (fun z2 z3 h => h)
theorem c_Walk_movedFromAhead {l : Launch} {D : va_G} {cI cZ cJ : ClassId} {ad : Nat → Nat} (a1 : Int32) (s : MS) {P : Int32 → Prop} (h : Ok (f_Walk_movedFromAhead a1 s) P) : Ct (XX l D cI cZ cJ ad) y_Walk_movedFromAhead b_Walk_movedFromAhead 4 (some .int) 1 [.ref (ad 6), .int a1] s (fun r9 s9 => s9 = s ∧ P r9) :=
  Ct.of mi_Walk_movedFromAhead (Nat.le_of_ble_eq_true rfl) (f_Walk_movedFromAhead_w a1 s (fun _ h => ⟨rfl, h⟩) h)
-- Walk_putFrom
noncomputable def Walk_putFrom_j107 (rc : Int32 → Int32 → MS → Option MS) (x1 x2 x3 t0 : Int32) (s : MS) : Option ((Int32 × MS) ⊕ MS) :=
  if (s.1 8) ≤ t0 then (bnd (x3 + (1 : Int32)) fun v1 => some (.inl (v1, s))) else ((f_Walk_isSpent s).bind fun v2 => if v2 = 0 then (chk (inb x1 12) (bnd (pa s 23 x1.toNatClampNeg x3) fun s4 => chk (inb x3 10) (bnd (s4.2 26 x3.toNatClampNeg) fun v5 => chk (inb x3 10) (bnd (pa s4 26 x3.toNatClampNeg (v5 ||| ((1 : Int32) <<< (x1 &&& 31)))) fun s6 => (rc (x1 + (1 : Int32)) t0 s6).bind fun s7 => chk (inb x3 10) (bnd (s7.2 26 x3.toNatClampNeg) fun v8 => chk (inb x3 10) (bnd (pa s7 26 x3.toNatClampNeg (v8 &&& (((1 : Int32) <<< (x1 &&& 31)) ^^^ (-1 : Int32)))) fun s9 => bnd (x3 + (1 : Int32)) fun v10 => some (.inl (v10, s9)))))))) else (bnd (x3 + (1 : Int32)) fun v3 => some (.inl (v3, s))))
theorem Walk_putFrom_j107_w {l : Launch} {D : va_G} {cI cZ cJ : ClassId} {ad : Nat → Nat} (rc : Int32 → Int32 → MS → Option MS) {d d2 : Nat} (hd : d2 + 1 ≤ d) (hd0 : 1 ≤ d) (hrc : ∀ (a1 a2 : Int32) (s : MS) (P : MS → Prop), Ok (rc a1 a2 s) P → Ct (XX l D cI cZ cJ ad) y_Walk_putFrom b_Walk_putFrom 5 none d2 [.ref (ad 6), .int a1, .int a2] s (fun _ s9 => P s9)) (x1 x2 x3 t0 : Int32) (s : MS) {Q : Int32 → MS → Prop} {Post : ((Int32 × MS) ⊕ MS) → Prop} (hR : ∀ (s9 : MS), Post (.inr (s9)) → Q 0 s9) (hL33 : ∀ (z3 : Int32) (s9 : MS), Post (.inl (z3, s9)) → G (XX l D cI cZ cJ ad) "SmallHarbour$Walk" b_Walk_putFrom 5 none d 33 [(0, .ref (ad 6)), (1, .int x1), (2, .int x2), (3, .int z3)] [] s9 Q) (h : Ok (Walk_putFrom_j107 rc x1 x2 x3 t0 s) Post) : G (XX l D cI cZ cJ ad) "SmallHarbour$Walk" b_Walk_putFrom 5 none d 107 [(0, .ref (ad 6)), (1, .int x1), (2, .int x2), (3, .int x3)] [.int t0] s Q := by
  unfold Walk_putFrom_j107 at h
  refine G_istore d_Walk_putFrom_107 (Nat.le_of_ble_eq_true rfl) (fun x => [(4, .int x), (0, .ref (ad 6)), (1, .int x1), (2, .int x2), (3, .int x3)]) (fun _ => rfl) (fun x e => ?_)
  subst e
  refine G_iload d_Walk_putFrom_109 0 rfl ?_
  refine G_aload_n d_Walk_putFrom_111 rfl 1 rfl ?_
  refine gx_Walk_fewest d_Walk_putFrom_112 w_156 ?_
  refine G_icmp_ge (tgt := 167) d_Walk_putFrom_115 (by decide) (fun c => ?_) (fun c => ?_)
  · replace h := Ok_t c h
    refine G_iinc d_Walk_putFrom_167 4 rfl lt_iconst_1 rfl (Nat.le_of_ble_eq_true rfl) (fun x => [(3, .int x), (4, .int t0), (0, .ref (ad 6)), (1, .int x1), (2, .int x2)]) (fun _ => rfl) (fun v1 e => ?_)
    replace h := Ok_bnd h v1 e
    clear e
    refine G_goto (tgt := 33) d_Walk_putFrom_170 (by decide) ?_
    refine G_lv [2, 3, 4, 0] rfl ?_
    replace h := Ok_some h
    exact hL33 v1 s h
  replace h := Ok_f c h
  refine G_aload_n d_Walk_putFrom_118 rfl 1 rfl ?_
  refine G_callVp (st := []) (As := []) (b := ad 6) d_Walk_putFrom_119 mi_Walk_isSpent w_577 6 rfl rfl mv_Walk_isSpent rfl (Nat.le_of_ble_eq_true rfl) (by omega) (c_Walk_isSpent  s (Ok_bind h)) (fun v2 h hnv2 => ?_)
  refine G_if_ne (tgt := 167) d_Walk_putFrom_122 (by decide) (fun c => ?_) (fun c => ?_)
  · replace h := Ok_f c h
    refine G_iinc d_Walk_putFrom_167 4 rfl lt_iconst_1 rfl (Nat.le_of_ble_eq_true rfl) (fun x => [(3, .int x), (4, .int t0), (0, .ref (ad 6)), (1, .int x1), (2, .int x2)]) (fun _ => rfl) (fun v3 e => ?_)
    replace h := Ok_bnd h v3 e
    clear e
    refine G_goto (tgt := 33) d_Walk_putFrom_170 (by decide) ?_
    refine G_lv [2, 3, 4, 0] rfl ?_
    replace h := Ok_some h
    exact hL33 v3 s h
  replace h := Ok_t c h
  refine G_aload_n d_Walk_putFrom_125 rfl 1 rfl ?_
  refine gx_Walk_put d_Walk_putFrom_126 w_151 ?_
  refine G_iload_n d_Walk_putFrom_129 rfl 2 rfl ?_
  refine G_iload_n d_Walk_putFrom_130 rfl 4 rfl ?_
  refine sx_23 d_Walk_putFrom_131 (Ok_ld h).1 (fun s4 e => ?_)
  replace h := (Ok_ld h).2 s4 e
  clear e
  refine G_aload_n d_Walk_putFrom_132 rfl 1 rfl ?_
  refine gx_Walk_putAt d_Walk_putFrom_133 w_154 ?_
  refine G_iload_n d_Walk_putFrom_136 rfl 4 rfl ?_
  refine G_dup2 d_Walk_putFrom_137 rfl rfl ?_
  refine lx_26 d_Walk_putFrom_138 (Ok_ld h).1 (fun v5 e => ?_)
  replace h := (Ok_ld h).2 v5 e
  clear e
  refine G_iconst d_Walk_putFrom_139 lt_iconst_1 ?_
  refine G_iload_n d_Walk_putFrom_140 rfl 2 rfl ?_
  refine G_ishl d_Walk_putFrom_141 ?_
  refine G_ior d_Walk_putFrom_142 ?_
  refine sx_26 d_Walk_putFrom_143 (Ok_ld h).1 (fun s6 e => ?_)
  replace h := (Ok_ld h).2 s6 e
  clear e
  refine G_aload_n d_Walk_putFrom_144 rfl 1 rfl ?_
  refine G_iload_n d_Walk_putFrom_145 rfl 2 rfl ?_
  refine G_iconst d_Walk_putFrom_146 lt_iconst_1 ?_
  refine G_iadd d_Walk_putFrom_147 ?_
  refine G_iload d_Walk_putFrom_148 0 rfl ?_
  refine G_callVv (st := []) (As := [.int (x1 + (1 : Int32)), .int t0]) (b := ad 6) d_Walk_putFrom_150 mi_Walk_putFrom w_570 6 rfl rfl mv_Walk_putFrom rfl (Nat.le_of_ble_eq_true rfl) hd (hrc (x1 + (1 : Int32)) t0 s6 _ (Ok_bind h)) (fun s7 h => ?_)
  refine G_aload_n d_Walk_putFrom_153 rfl 1 rfl ?_
  refine gx_Walk_putAt d_Walk_putFrom_154 w_154 ?_
  refine G_iload_n d_Walk_putFrom_157 rfl 4 rfl ?_
  refine G_dup2 d_Walk_putFrom_158 rfl rfl ?_
  refine lx_26 d_Walk_putFrom_159 (Ok_ld h).1 (fun v8 e => ?_)
  replace h := (Ok_ld h).2 v8 e
  clear e
  refine G_iconst d_Walk_putFrom_160 lt_iconst_1 ?_
  refine G_iload_n d_Walk_putFrom_161 rfl 2 rfl ?_
  refine G_ishl d_Walk_putFrom_162 ?_
  refine G_iconst d_Walk_putFrom_163 lt_iconst_m1 ?_
  refine G_ixor d_Walk_putFrom_164 ?_
  refine G_iand d_Walk_putFrom_165 ?_
  refine sx_26 d_Walk_putFrom_166 (Ok_ld h).1 (fun s9 e => ?_)
  replace h := (Ok_ld h).2 s9 e
  clear e
  refine G_iinc d_Walk_putFrom_167 4 rfl lt_iconst_1 rfl (Nat.le_of_ble_eq_true rfl) (fun x => [(3, .int x), (4, .int t0), (0, .ref (ad 6)), (1, .int x1), (2, .int x2)]) (fun _ => rfl) (fun v10 e => ?_)
  replace h := Ok_bnd h v10 e
  clear e
  refine G_goto (tgt := 33) d_Walk_putFrom_170 (by decide) ?_
  refine G_lv [2, 3, 4, 0] rfl ?_
  replace h := Ok_some h
  exact hL33 v10 s9 h
noncomputable def Walk_putFrom_l33 (rc : Int32 → Int32 → MS → Option MS) (x1 x2 : Int32) (x3 : Int32) (s : MS) : Option ((Int32 × MS) ⊕ MS) :=
  if (s.1 7) ≤ x3 then (xit (some s)) else ((f_Walk_isSpent s).bind fun v1 => if v1 = 0 then (chk (inb x1 12) (bnd (s.2 24 x1.toNatClampNeg) fun v2 => if ((v2 >>> (x3 &&& 31)) &&& (1 : Int32)) = 0 then (bnd (x3 + (1 : Int32)) fun v3 => some (.inl (v3, s))) else (chk (inb x3 10) (bnd (s.2 26 x3.toNatClampNeg) fun v4 => chk (inb x1 12) (bnd (s.2 25 x1.toNatClampNeg) fun v5 => if (v4 &&& v5) = 0 then (bnd (pf s 9 ((s.1 9) + (1 : Int32))) fun s6 => chk (inb x1 12) (bnd (s6.2 20 x1.toNatClampNeg) fun v7 => if x3 = v7 then (Walk_putFrom_j107 rc x1 x2 x3 x2 s6) else (Walk_putFrom_j107 rc x1 x2 x3 (x2 + (1 : Int32)) s6))) else (bnd (x3 + (1 : Int32)) fun v8 => some (.inl (v8, s)))))))) else (xit (some s)))
theorem Walk_putFrom_l33_w {l : Launch} {D : va_G} {cI cZ cJ : ClassId} {ad : Nat → Nat} (rc : Int32 → Int32 → MS → Option MS) {d d2 : Nat} (hd : d2 + 1 ≤ d) (hd0 : 1 ≤ d) (hrc : ∀ (a1 a2 : Int32) (s : MS) (P : MS → Prop), Ok (rc a1 a2 s) P → Ct (XX l D cI cZ cJ ad) y_Walk_putFrom b_Walk_putFrom 5 none d2 [.ref (ad 6), .int a1, .int a2] s (fun _ s9 => P s9)) (x1 x2 x3 : Int32) (s : MS) {Q : Int32 → MS → Prop} {Post : ((Int32 × MS) ⊕ MS) → Prop} (hR : ∀ (s9 : MS), Post (.inr (s9)) → Q 0 s9) (hL33 : ∀ (z3 : Int32) (s9 : MS), Post (.inl (z3, s9)) → G (XX l D cI cZ cJ ad) "SmallHarbour$Walk" b_Walk_putFrom 5 none d 33 [(0, .ref (ad 6)), (1, .int x1), (2, .int x2), (3, .int z3)] [] s9 Q) (h : Ok (Walk_putFrom_l33 rc x1 x2 x3 s) Post) : G (XX l D cI cZ cJ ad) "SmallHarbour$Walk" b_Walk_putFrom 5 none d 33 [(0, .ref (ad 6)), (1, .int x1), (2, .int x2), (3, .int x3)] [] s Q := by
  unfold Walk_putFrom_l33 at h
  refine G_iload_n d_Walk_putFrom_33 rfl 3 rfl ?_
  refine G_aload_n d_Walk_putFrom_34 rfl 0 rfl ?_
  refine gx_Walk_berthCount d_Walk_putFrom_35 w_155 ?_
  refine G_icmp_ge (tgt := 173) d_Walk_putFrom_38 (by decide) (fun c => ?_) (fun c => ?_)
  · replace h := Ok_t c h
    replace h := Ok_xit h
    replace h := Ok_some h
    exact G_vret rfl d_Walk_putFrom_173 (hR _ h)
  replace h := Ok_f c h
  refine G_aload_n d_Walk_putFrom_41 rfl 0 rfl ?_
  refine G_callVp (st := []) (As := []) (b := ad 6) d_Walk_putFrom_42 mi_Walk_isSpent w_577 6 rfl rfl mv_Walk_isSpent rfl (Nat.le_of_ble_eq_true rfl) (by omega) (c_Walk_isSpent  s (Ok_bind h)) (fun v1 h hnv1 => ?_)
  refine G_if_ne (tgt := 173) d_Walk_putFrom_45 (by decide) (fun c => ?_) (fun c => ?_)
  · replace h := Ok_f c h
    replace h := Ok_xit h
    replace h := Ok_some h
    exact G_vret rfl d_Walk_putFrom_173 (hR _ h)
  replace h := Ok_t c h
  refine G_aload_n d_Walk_putFrom_48 rfl 0 rfl ?_
  refine gx_Walk_allowed d_Walk_putFrom_49 w_152 ?_
  refine G_iload_n d_Walk_putFrom_52 rfl 1 rfl ?_
  refine lx_24 d_Walk_putFrom_53 (Ok_ld h).1 (fun v2 e => ?_)
  replace h := (Ok_ld h).2 v2 e
  clear e
  refine G_iload_n d_Walk_putFrom_54 rfl 3 rfl ?_
  refine G_ishr d_Walk_putFrom_55 ?_
  refine G_iconst d_Walk_putFrom_56 lt_iconst_1 ?_
  refine G_iand d_Walk_putFrom_57 ?_
  refine G_if_eq (tgt := 167) d_Walk_putFrom_58 (by decide) (fun c => ?_) (fun c => ?_)
  · replace h := Ok_t c h
    refine G_iinc d_Walk_putFrom_167 3 rfl lt_iconst_1 rfl (Nat.le_of_ble_eq_true rfl) (fun x => [(3, .int x), (0, .ref (ad 6)), (1, .int x1), (2, .int x2)]) (fun _ => rfl) (fun v3 e => ?_)
    replace h := Ok_bnd h v3 e
    clear e
    refine G_goto (tgt := 33) d_Walk_putFrom_170 (by decide) ?_
    refine G_lv [1, 2, 3, 0] rfl ?_
    replace h := Ok_some h
    exact hL33 v3 s h
  replace h := Ok_f c h
  refine G_aload_n d_Walk_putFrom_61 rfl 0 rfl ?_
  refine gx_Walk_putAt d_Walk_putFrom_62 w_154 ?_
  refine G_iload_n d_Walk_putFrom_65 rfl 3 rfl ?_
  refine lx_26 d_Walk_putFrom_66 (Ok_ld h).1 (fun v4 e => ?_)
  replace h := (Ok_ld h).2 v4 e
  clear e
  refine G_aload_n d_Walk_putFrom_67 rfl 0 rfl ?_
  refine gx_Walk_shares d_Walk_putFrom_68 w_153 ?_
  refine G_iload_n d_Walk_putFrom_71 rfl 1 rfl ?_
  refine lx_25 d_Walk_putFrom_72 (Ok_ld h).1 (fun v5 e => ?_)
  replace h := (Ok_ld h).2 v5 e
  clear e
  refine G_iand d_Walk_putFrom_73 ?_
  refine G_if_eq (tgt := 80) d_Walk_putFrom_74 (by decide) (fun c => ?_) (fun c => ?_)
  · replace h := Ok_t c h
    refine G_aload_n d_Walk_putFrom_80 rfl 0 rfl ?_
    refine G_dup d_Walk_putFrom_81 rfl ?_
    refine gx_Walk_tries d_Walk_putFrom_82 w_157 ?_
    refine G_iconst d_Walk_putFrom_85 lt_iconst_1 ?_
    refine G_iadd d_Walk_putFrom_86 ?_
    refine px_Walk_tries d_Walk_putFrom_87 w_157 (fun s6 e => ?_)
    replace h := Ok_bnd h s6 e
    clear e
    refine G_iload_n d_Walk_putFrom_90 rfl 3 rfl ?_
    refine G_aload_n d_Walk_putFrom_91 rfl 0 rfl ?_
    refine gx_Walk_own d_Walk_putFrom_92 w_148 ?_
    refine G_iload_n d_Walk_putFrom_95 rfl 1 rfl ?_
    refine lx_20 d_Walk_putFrom_96 (Ok_ld h).1 (fun v7 e => ?_)
    replace h := (Ok_ld h).2 v7 e
    clear e
    refine G_icmp_ne (tgt := 104) d_Walk_putFrom_97 (by decide) (fun c => ?_) (fun c => ?_)
    · replace h := Ok_f c h
      refine G_iload_n d_Walk_putFrom_104 rfl 2 rfl ?_
      refine G_iconst d_Walk_putFrom_105 lt_iconst_1 ?_
      refine G_iadd d_Walk_putFrom_106 ?_
      refine Walk_putFrom_j107_w rc hd hd0 hrc x1 x2 x3 (x2 + (1 : Int32)) s6 ?_ ?_ h
      · exact hR
      · exact hL33
    replace h := Ok_t c h
    refine G_iload_n d_Walk_putFrom_100 rfl 2 rfl ?_
    refine G_goto (tgt := 107) d_Walk_putFrom_101 (by decide) ?_
    refine Walk_putFrom_j107_w rc hd hd0 hrc x1 x2 x3 x2 s6 ?_ ?_ h
    · exact hR
    · exact hL33
  replace h := Ok_f c h
  refine G_goto (tgt := 167) d_Walk_putFrom_77 (by decide) ?_
  refine G_iinc d_Walk_putFrom_167 3 rfl lt_iconst_1 rfl (Nat.le_of_ble_eq_true rfl) (fun x => [(3, .int x), (0, .ref (ad 6)), (1, .int x1), (2, .int x2)]) (fun _ => rfl) (fun v8 e => ?_)
  replace h := Ok_bnd h v8 e
  clear e
  refine G_goto (tgt := 33) d_Walk_putFrom_170 (by decide) ?_
  refine G_lv [1, 2, 3, 0] rfl ?_
  replace h := Ok_some h
  exact hL33 v8 s h
noncomputable def b_f_Walk_putFrom (rc : Int32 → Int32 → MS → Option MS) (a1 a2 : Int32) (s : MS) : Option MS :=
  if a1 < (s.1 6) then (loop (fun z => Walk_putFrom_l33 rc a1 a2 z.1 z.2) ((0 : Int32), s)) else (bnd (pf s 8 a2) fun s1 => chk (decide (0 ≤ (0 : Int32).toInt ∧ 0 ≤ (0 : Int32).toInt ∧ 0 ≤ (s1.1 6).toInt ∧ (0 : Int32).toInt + (s1.1 6).toInt ≤ (12 : Int) ∧ (0 : Int32).toInt + (s1.1 6).toInt ≤ (12 : Int))) (bnd (pr s1 19 (va_cpy (s1.2 23) (s1.2 19) (0 : Int32).toNatClampNeg (0 : Int32).toNatClampNeg (s1.1 6).toNatClampNeg)) fun s2 => some s2))
theorem b_f_Walk_putFrom_w {l : Launch} {D : va_G} {cI cZ cJ : ClassId} {ad : Nat → Nat} (rc : Int32 → Int32 → MS → Option MS) {d d2 : Nat} (hd : d2 + 1 ≤ d) (hd0 : 1 ≤ d) (hrc : ∀ (a1 a2 : Int32) (s : MS) (P : MS → Prop), Ok (rc a1 a2 s) P → Ct (XX l D cI cZ cJ ad) y_Walk_putFrom b_Walk_putFrom 5 none d2 [.ref (ad 6), .int a1, .int a2] s (fun _ s9 => P s9)) (a1 a2 : Int32) (s : MS) {Q : Int32 → MS → Prop} {Post : MS → Prop} (hR : ∀ (s9 : MS), Post (s9) → Q 0 s9) (h : Ok (b_f_Walk_putFrom rc a1 a2 s) Post) : G (XX l D cI cZ cJ ad) "SmallHarbour$Walk" b_Walk_putFrom 5 none d 0 [(0, .ref (ad 6)), (1, .int a1), (2, .int a2)] [] s Q := by
  unfold b_f_Walk_putFrom at h
  refine G_iload_n d_Walk_putFrom_0 rfl 1 rfl ?_
  refine G_aload_n d_Walk_putFrom_1 rfl 0 rfl ?_
  refine gx_Walk_size d_Walk_putFrom_2 w_146 ?_
  refine G_icmp_lt (tgt := 31) d_Walk_putFrom_5 (by decide) (fun c => ?_) (fun c => ?_)
  · replace h := Ok_t c h
    refine G_iconst d_Walk_putFrom_31 lt_iconst_0 ?_
    refine G_istore_n d_Walk_putFrom_32 rfl (Nat.le_of_ble_eq_true rfl) (fun x => [(3, .int x), (0, .ref (ad 6)), (1, .int a1), (2, .int a2)]) (fun _ => rfl) (fun x e => ?_)
    subst e
    refine G_lv [1, 2, 3, 0] rfl ?_
    refine G_loop (J := (fun z => G (XX l D cI cZ cJ ad) "SmallHarbour$Walk" b_Walk_putFrom 5 none d 33 [(0, .ref (ad 6)), (1, .int a1), (2, .int a2), (3, .int (z.1))] [] z.2 Q)) (fun z h => ?_) ((0 : Int32), s) h
    refine Walk_putFrom_l33_w rc hd hd0 hrc a1 a2 z.1 z.2 ?_ ?_ h
    · exact hR
    · exact (fun z3 s9 h => h)
  replace h := Ok_f c h
  refine G_aload_n d_Walk_putFrom_8 rfl 0 rfl ?_
  refine G_iload_n d_Walk_putFrom_9 rfl 2 rfl ?_
  refine px_Walk_fewest d_Walk_putFrom_10 w_156 (fun s1 e => ?_)
  replace h := Ok_bnd h s1 e
  clear e
  refine G_aload_n d_Walk_putFrom_13 rfl 0 rfl ?_
  refine gx_Walk_put d_Walk_putFrom_14 w_151 ?_
  refine G_iconst d_Walk_putFrom_17 lt_iconst_0 ?_
  refine G_aload_n d_Walk_putFrom_18 rfl 0 rfl ?_
  refine gx_Walk_best d_Walk_putFrom_19 w_144 ?_
  refine G_iconst d_Walk_putFrom_22 lt_iconst_0 ?_
  refine G_aload_n d_Walk_putFrom_23 rfl 0 rfl ?_
  refine gx_Walk_size d_Walk_putFrom_24 w_146 ?_
  refine G_copy d_Walk_putFrom_27 w_574 w_576 w_575 w_16 (by omega) (Nat.le_of_ble_eq_true rfl) 36 32 0 0 rfl rfl rfl rfl (Ok_ld h).1 (s2 := (pr s1 19 (va_cpy (s1.2 23) (s1.2 19) (0 : Int32).toNatClampNeg (0 : Int32).toNatClampNeg (s1.1 6).toNatClampNeg))) rfl ?_
  obtain ⟨s2, e⟩ : ∃ z, z = (pr s1 19 (va_cpy (s1.2 23) (s1.2 19) (0 : Int32).toNatClampNeg (0 : Int32).toNatClampNeg (s1.1 6).toNatClampNeg)) := ⟨_, rfl⟩
  rw [← e]
  replace h := (Ok_ld h).2 s2 e
  clear e
  replace h := Ok_some h
  exact G_vret rfl d_Walk_putFrom_30 (hR _ h)
theorem b_c_Walk_putFrom {l : Launch} {D : va_G} {cI cZ cJ : ClassId} {ad : Nat → Nat} (rc : Int32 → Int32 → MS → Option MS) {d d2 : Nat} (hd : d2 + 1 ≤ d) (hd0 : 1 ≤ d) (hrc : ∀ (a1 a2 : Int32) (s : MS) (P : MS → Prop), Ok (rc a1 a2 s) P → Ct (XX l D cI cZ cJ ad) y_Walk_putFrom b_Walk_putFrom 5 none d2 [.ref (ad 6), .int a1, .int a2] s (fun _ s9 => P s9)) (a1 a2 : Int32) (s : MS) {P : MS → Prop} (h : Ok (b_f_Walk_putFrom rc a1 a2 s) P) : Ct (XX l D cI cZ cJ ad) y_Walk_putFrom b_Walk_putFrom 5 none d [.ref (ad 6), .int a1, .int a2] s (fun _ s9 => P s9) :=
  Ct.of mi_Walk_putFrom (Nat.le_of_ble_eq_true rfl) (b_f_Walk_putFrom_w rc hd hd0 hrc a1 a2 s (fun _ h => h) h)
-- Walk_putFrom.grp
noncomputable def f_Walk_putFrom : Nat → Int32 → Int32 → MS → Option MS
  | 0, _, _, _ => none
  | n + 1, a1, a2, s => b_f_Walk_putFrom (f_Walk_putFrom n) a1 a2 s
theorem c_Walk_putFrom {l : Launch} {D : va_G} {cI cZ cJ : ClassId} {ad : Nat → Nat} : ∀ (n : Nat) (a1 a2 : Int32) (s : MS) {P : MS → Prop} (h : Ok (f_Walk_putFrom n a1 a2 s) P), Ct (XX l D cI cZ cJ ad) y_Walk_putFrom b_Walk_putFrom 5 none (1 + n) [.ref (ad 6), .int a1, .int a2] s (fun _ s9 => P s9)
  | 0, _, _, _, _, h => Ok_none h
  | n + 1, a1, a2, s, P, h => b_c_Walk_putFrom (f_Walk_putFrom n) (d := 1 + (n + 1)) (d2 := 1 + n) (by omega) (by omega) (fun a1 a2 s P h => c_Walk_putFrom n a1 a2 s h) a1 a2 s h
-- Walk_search
noncomputable def f_Walk_search (s : MS) : Option MS :=
  (f_Walk_putFrom 14 (0 : Int32) (0 : Int32) s).bind fun s1 => some s1
theorem f_Walk_search_w {l : Launch} {D : va_G} {cI cZ cJ : ClassId} {ad : Nat → Nat} (s : MS) {Q : Int32 → MS → Prop} {Post : MS → Prop} (hR : ∀ (s9 : MS), Post (s9) → Q 0 s9) (h : Ok (f_Walk_search s) Post) : G (XX l D cI cZ cJ ad) "SmallHarbour$Walk" b_Walk_search 1 none 16 0 [(0, .ref (ad 6))] [] s Q := by
  unfold f_Walk_search at h
  refine G_aload_n d_Walk_search_0 rfl 0 rfl ?_
  refine G_iconst d_Walk_search_1 lt_iconst_0 ?_
  refine G_iconst d_Walk_search_2 lt_iconst_0 ?_
  refine G_callVv (st := []) (As := [.int (0 : Int32), .int (0 : Int32)]) (b := ad 6) d_Walk_search_3 mi_Walk_putFrom w_570 6 rfl rfl mv_Walk_putFrom rfl (Nat.le_of_ble_eq_true rfl) (by decide) (c_Walk_putFrom 14 (0 : Int32) (0 : Int32) s (Ok_bind h)) (fun s1 h => ?_)
  replace h := Ok_some h
  exact G_vret rfl d_Walk_search_6 (hR _ h)
theorem c_Walk_search {l : Launch} {D : va_G} {cI cZ cJ : ClassId} {ad : Nat → Nat} (s : MS) {P : MS → Prop} (h : Ok (f_Walk_search  s) P) : Ct (XX l D cI cZ cJ ad) y_Walk_search b_Walk_search 1 none 16 [.ref (ad 6)] s (fun _ s9 => P s9) :=
  Ct.of mi_Walk_search (Nat.le_of_ble_eq_true rfl) (f_Walk_search_w  s (fun _ h => h) h)
-- Hb_findRoom
noncomputable def f_Hb_findRoom (a1 : Int32) (s : MS) : Option (Int32 × MS) :=
  bd2 (f_Hb_lineUp a1 s) fun v1 s2 => if v1 = 0 then (some ((-2 : Int32), s2)) else ((f_Walk_search s2).bind fun s3 => (f_Walk_isSpent s3).bind fun v4 => if v4 = 0 then ((f_Walk_isFound s3).bind fun v5 => if v5 = 0 then (some ((-1 : Int32), s3)) else ((f_Walk_movedFromAhead a1 s3).bind fun v6 => if ((s3.1 5) + v6) ≤ (40 : Int32) then ((f_Hb_carryOut a1 s3).bind fun s7 => some ((s7.1 0), s7)) else (some ((-3 : Int32), s3)))) else (some ((-2 : Int32), s3)))
theorem f_Hb_findRoom_w {l : Launch} {D : va_G} {cI cZ cJ : ClassId} {ad : Nat → Nat} (a1 : Int32) (s : MS) {Q : Int32 → MS → Prop} {Post : (Int32 × MS) → Prop} (hR : ∀ (r9 : Int32) (s9 : MS), Post ((r9, s9)) → Q r9 s9) (h : Ok (f_Hb_findRoom a1 s) Post) : G (XX l D cI cZ cJ ad) "SmallHarbour" b_Hb_findRoom 2 (some .int) 17 0 [(0, .ref (ad 0)), (1, .int a1)] [] s Q := by
  unfold f_Hb_findRoom at h
  refine G_aload_n d_Hb_findRoom_0 rfl 0 rfl ?_
  refine G_iload_n d_Hb_findRoom_1 rfl 1 rfl ?_
  refine G_callVi (st := []) (As := [.int a1]) (b := ad 0) d_Hb_findRoom_2 mi_Hb_lineUp w_547 0 rfl rfl mv_Hb_lineUp rfl (Nat.le_of_ble_eq_true rfl) (by decide) (c_Hb_lineUp a1 s (Ok_bd2 h)) (fun v1 s2 h hnv1 => ?_)
  refine G_if_ne (tgt := 11) d_Hb_findRoom_5 (by decide) (fun c => ?_) (fun c => ?_)
  · replace h := Ok_f c h
    refine G_aload_n d_Hb_findRoom_11 rfl 0 rfl ?_
    refine gx_Hb_walk d_Hb_findRoom_12 w_352 ?_
    refine G_callVv (st := []) (As := []) (b := ad 6) d_Hb_findRoom_15 mi_Walk_search w_566 6 rfl rfl mv_Walk_search rfl (Nat.le_of_ble_eq_true rfl) (by decide) (c_Walk_search  s2 (Ok_bind h)) (fun s3 h => ?_)
    refine G_aload_n d_Hb_findRoom_18 rfl 0 rfl ?_
    refine gx_Hb_walk d_Hb_findRoom_19 w_352 ?_
    refine G_callVp (st := []) (As := []) (b := ad 6) d_Hb_findRoom_22 mi_Walk_isSpent w_582 6 rfl rfl mv_Walk_isSpent rfl (Nat.le_of_ble_eq_true rfl) (by decide) (c_Walk_isSpent  s3 (Ok_bind h)) (fun v4 h hnv4 => ?_)
    refine G_if_eq (tgt := 31) d_Hb_findRoom_25 (by decide) (fun c => ?_) (fun c => ?_)
    · replace h := Ok_t c h
      refine G_aload_n d_Hb_findRoom_31 rfl 0 rfl ?_
      refine gx_Hb_walk d_Hb_findRoom_32 w_352 ?_
      refine G_callVp (st := []) (As := []) (b := ad 6) d_Hb_findRoom_35 mi_Walk_isFound w_583 6 rfl rfl mv_Walk_isFound rfl (Nat.le_of_ble_eq_true rfl) (by decide) (c_Walk_isFound  s3 (Ok_bind h)) (fun v5 h hnv5 => ?_)
      refine G_if_ne (tgt := 43) d_Hb_findRoom_38 (by decide) (fun c => ?_) (fun c => ?_)
      · replace h := Ok_f c h
        refine G_aload_n d_Hb_findRoom_43 rfl 0 rfl ?_
        refine gx_Hb_stays d_Hb_findRoom_44 w_351 ?_
        refine gx_Stays_count d_Hb_findRoom_47 w_124 ?_
        refine G_aload_n d_Hb_findRoom_50 rfl 0 rfl ?_
        refine gx_Hb_walk d_Hb_findRoom_51 w_352 ?_
        refine G_iload_n d_Hb_findRoom_54 rfl 1 rfl ?_
        refine G_callVp (st := [.int (s3.1 5)]) (As := [.int a1]) (b := ad 6) d_Hb_findRoom_55 mi_Walk_movedFromAhead w_587 6 rfl rfl mv_Walk_movedFromAhead rfl (Nat.le_of_ble_eq_true rfl) (by decide) (c_Walk_movedFromAhead a1 s3 (Ok_bind h)) (fun v6 h hnv6 => ?_)
        refine G_iadd d_Hb_findRoom_58 ?_
        refine G_bipush d_Hb_findRoom_59 lt_bipush_40 ?_
        refine G_icmp_le (tgt := 67) d_Hb_findRoom_61 (by decide) (fun c => ?_) (fun c => ?_)
        · replace h := Ok_t c h
          refine G_aload_n d_Hb_findRoom_67 rfl 0 rfl ?_
          refine G_iload_n d_Hb_findRoom_68 rfl 1 rfl ?_
          refine G_callVv (st := []) (As := [.int a1]) (b := ad 0) d_Hb_findRoom_69 mi_Hb_carryOut w_595 0 rfl rfl mv_Hb_carryOut rfl (Nat.le_of_ble_eq_true rfl) (by decide) (c_Hb_carryOut a1 s3 (Ok_bind h)) (fun s7 h => ?_)
          refine G_aload_n d_Hb_findRoom_72 rfl 0 rfl ?_
          refine gx_Hb_keptCount d_Hb_findRoom_73 w_359 ?_
          replace h := Ok_some h
          exact G_iret rfl (vp_nar_int _) d_Hb_findRoom_76 (hR _ _ h)
        replace h := Ok_f c h
        refine G_bipush d_Hb_findRoom_64 lt_bipush_m3 ?_
        replace h := Ok_some h
        exact G_iret rfl (vp_nar_int _) d_Hb_findRoom_66 (hR _ _ h)
      replace h := Ok_t c h
      refine G_iconst d_Hb_findRoom_41 lt_iconst_m1 ?_
      replace h := Ok_some h
      exact G_iret rfl (vp_nar_int _) d_Hb_findRoom_42 (hR _ _ h)
    replace h := Ok_f c h
    refine G_bipush d_Hb_findRoom_28 lt_bipush_m2 ?_
    replace h := Ok_some h
    exact G_iret rfl (vp_nar_int _) d_Hb_findRoom_30 (hR _ _ h)
  replace h := Ok_t c h
  refine G_bipush d_Hb_findRoom_8 lt_bipush_m2 ?_
  replace h := Ok_some h
  exact G_iret rfl (vp_nar_int _) d_Hb_findRoom_10 (hR _ _ h)
theorem c_Hb_findRoom {l : Launch} {D : va_G} {cI cZ cJ : ClassId} {ad : Nat → Nat} (a1 : Int32) (s : MS) {P : Int32 → MS → Prop} (h : Ok2 (f_Hb_findRoom a1 s) P) : Ct (XX l D cI cZ cJ ad) y_Hb_findRoom b_Hb_findRoom 2 (some .int) 17 [.ref (ad 0), .int a1] s (P) :=
  Ct.of mi_Hb_findRoom (Nat.le_of_ble_eq_true rfl) (f_Hb_findRoom_w a1 s (Post := fun q => P q.1 q.2) (fun _ _ h => h) (Ok2_ok h))
-- Hb_fits
noncomputable def f_Hb_fits (a1 a2 a3 : Int32) (s : MS) : Option Int32 :=
  (f_Boats_has a1 s).bind fun v1 => if v1 = 0 then (some (-1 : Int32)) else ((f_Berths_has a2 s).bind fun v2 => if v2 = 0 then (some (-1 : Int32)) else ((f_Hb_isDay a3).bind fun v3 => if v3 = 0 then (some (-1 : Int32)) else ((f_Hb_fitsAllNights a1 a2 a3 (a3 + (1 : Int32)) s).bind fun v4 => if v4 = 0 then (some (0 : Int32)) else (some (1 : Int32)))))
theorem f_Hb_fits_w {l : Launch} {D : va_G} {cI cZ cJ : ClassId} {ad : Nat → Nat} (a1 a2 a3 : Int32) (s : MS) {Q : Int32 → MS → Prop} {Post : Int32 → Prop} (hR : ∀ (r9 : Int32), Post (r9) → Q r9 s) (h : Ok (f_Hb_fits a1 a2 a3 s) Post) : G (XX l D cI cZ cJ ad) "SmallHarbour" b_Hb_fits 4 (some .int) 3 0 [(0, .ref (ad 0)), (1, .int a1), (2, .int a2), (3, .int a3)] [] s Q := by
  unfold f_Hb_fits at h
  refine G_aload_n d_Hb_fits_0 rfl 0 rfl ?_
  refine gx_Hb_boats d_Hb_fits_1 w_349 ?_
  refine G_iload_n d_Hb_fits_4 rfl 1 rfl ?_
  refine G_callVp (st := []) (As := [.int a1]) (b := ad 3) d_Hb_fits_5 mi_Boats_has w_465 3 rfl rfl mv_Boats_has rfl (Nat.le_of_ble_eq_true rfl) (by decide) (c_Boats_has a1 s (Ok_bind h)) (fun v1 h hnv1 => ?_)
  refine G_if_eq (tgt := 29) d_Hb_fits_8 (by decide) (fun c => ?_) (fun c => ?_)
  · replace h := Ok_t c h
    refine G_iconst d_Hb_fits_29 lt_iconst_m1 ?_
    replace h := Ok_some h
    exact G_iret rfl (vp_nar_int _) d_Hb_fits_30 (hR _ h)
  replace h := Ok_f c h
  refine G_aload_n d_Hb_fits_11 rfl 0 rfl ?_
  refine gx_Hb_berths d_Hb_fits_12 w_348 ?_
  refine G_iload_n d_Hb_fits_15 rfl 2 rfl ?_
  refine G_callVp (st := []) (As := [.int a2]) (b := ad 2) d_Hb_fits_16 mi_Berths_has w_438 2 rfl rfl mv_Berths_has rfl (Nat.le_of_ble_eq_true rfl) (by decide) (c_Berths_has a2 s (Ok_bind h)) (fun v2 h hnv2 => ?_)
  refine G_if_eq (tgt := 29) d_Hb_fits_19 (by decide) (fun c => ?_) (fun c => ?_)
  · replace h := Ok_t c h
    refine G_iconst d_Hb_fits_29 lt_iconst_m1 ?_
    replace h := Ok_some h
    exact G_iret rfl (vp_nar_int _) d_Hb_fits_30 (hR _ h)
  replace h := Ok_f c h
  refine G_iload_n d_Hb_fits_22 rfl 3 rfl ?_
  refine G_callSp (st := []) (As := [.int a3]) d_Hb_fits_23 mi_Hb_isDay w_473 w_474 rfl (Nat.le_of_ble_eq_true rfl) (by decide) (c_Hb_isDay a3 s (Ok_bind h)) (fun v3 h hnv3 => ?_)
  refine G_if_ne (tgt := 31) d_Hb_fits_26 (by decide) (fun c => ?_) (fun c => ?_)
  · replace h := Ok_f c h
    refine G_aload_n d_Hb_fits_31 rfl 0 rfl ?_
    refine G_iload_n d_Hb_fits_32 rfl 1 rfl ?_
    refine G_iload_n d_Hb_fits_33 rfl 2 rfl ?_
    refine G_iload_n d_Hb_fits_34 rfl 3 rfl ?_
    refine G_iload_n d_Hb_fits_35 rfl 3 rfl ?_
    refine G_iconst d_Hb_fits_36 lt_iconst_1 ?_
    refine G_iadd d_Hb_fits_37 ?_
    refine G_callVp (st := []) (As := [.int a1, .int a2, .int a3, .int (a3 + (1 : Int32))]) (b := ad 0) d_Hb_fits_38 mi_Hb_fitsAllNights w_488 0 rfl rfl mv_Hb_fitsAllNights rfl (Nat.le_of_ble_eq_true rfl) (by decide) (c_Hb_fitsAllNights a1 a2 a3 (a3 + (1 : Int32)) s (Ok_bind h)) (fun v4 h hnv4 => ?_)
    refine G_if_eq (tgt := 48) d_Hb_fits_41 (by decide) (fun c => ?_) (fun c => ?_)
    · replace h := Ok_t c h
      refine G_iconst d_Hb_fits_48 lt_iconst_0 ?_
      replace h := Ok_some h
      exact G_iret rfl (vp_nar_int _) d_Hb_fits_49 (hR _ h)
    replace h := Ok_f c h
    refine G_iconst d_Hb_fits_44 lt_iconst_1 ?_
    refine G_goto (tgt := 49) d_Hb_fits_45 (by decide) ?_
    replace h := Ok_some h
    exact G_iret rfl (vp_nar_int _) d_Hb_fits_49 (hR _ h)
  replace h := Ok_t c h
  refine G_iconst d_Hb_fits_29 lt_iconst_m1 ?_
  replace h := Ok_some h
  exact G_iret rfl (vp_nar_int _) d_Hb_fits_30 (hR _ h)
theorem c_Hb_fits {l : Launch} {D : va_G} {cI cZ cJ : ClassId} {ad : Nat → Nat} (a1 a2 a3 : Int32) (s : MS) {P : Int32 → Prop} (h : Ok (f_Hb_fits a1 a2 a3 s) P) : Ct (XX l D cI cZ cJ ad) y_Hb_fits b_Hb_fits 4 (some .int) 3 [.ref (ad 0), .int a1, .int a2, .int a3] s (fun r9 s9 => s9 = s ∧ P r9) :=
  Ct.of mi_Hb_fits (Nat.le_of_ble_eq_true rfl) (f_Hb_fits_w a1 a2 a3 s (fun _ h => ⟨rfl, h⟩) h)
-- Hoist_set
noncomputable def f_Hoist_set (a1 a2 a3 : Int32) (s : MS) : Option (Int32 × MS) :=
  (f_Hb_isWithin a1 (0 : Int32) (40 : Int32)).bind fun v1 => if v1 = 0 then (some ((0 : Int32), s)) else ((f_Hb_isWithin a2 (1 : Int32) (500 : Int32)).bind fun v2 => if v2 = 0 then (some ((0 : Int32), s)) else ((f_Hb_isWithin a3 (1 : Int32) (600 : Int32)).bind fun v3 => if v3 = 0 then (some ((0 : Int32), s)) else (bnd (pf s 11 a1) fun s4 => bnd (pf s4 12 a2) fun s5 => bnd (pf s5 13 a3) fun s6 => some ((1 : Int32), s6))))
theorem f_Hoist_set_w {l : Launch} {D : va_G} {cI cZ cJ : ClassId} {ad : Nat → Nat} (a1 a2 a3 : Int32) (s : MS) {Q : Int32 → MS → Prop} {Post : (Int32 × MS) → Prop} (hR : ∀ (r9 : Int32) (s9 : MS), Post ((r9, s9)) → Q r9 s9) (h : Ok (f_Hoist_set a1 a2 a3 s) Post) : G (XX l D cI cZ cJ ad) "SmallHarbour$Hoist" b_Hoist_set 4 (some .boolean) 1 0 [(0, .ref (ad 7)), (1, .int a1), (2, .int a2), (3, .int a3)] [] s Q := by
  unfold f_Hoist_set at h
  refine G_iload_n d_Hoist_set_0 rfl 1 rfl ?_
  refine G_iconst d_Hoist_set_1 lt_iconst_0 ?_
  refine G_bipush d_Hoist_set_2 lt_bipush_40 ?_
  refine G_callNp (st := []) (As := [.int a1, .int (0 : Int32), .int (40 : Int32)]) d_Hoist_set_4 mi_Hb_isWithin w_647 w_423 rfl (Nat.le_of_ble_eq_true rfl) (by decide) (c_Hb_isWithin a1 (0 : Int32) (40 : Int32) s (Ok_bind h)) (fun v1 h hnv1 => ?_)
  refine G_if_eq (tgt := 21) d_Hoist_set_7 (by decide) (fun c => ?_) (fun c => ?_)
  · replace h := Ok_t c h
    refine G_iconst d_Hoist_set_21 lt_iconst_0 ?_
    replace h := Ok_some h
    exact G_iret rfl rfl d_Hoist_set_22 (hR _ _ h)
  replace h := Ok_f c h
  refine G_iload_n d_Hoist_set_10 rfl 2 rfl ?_
  refine G_iconst d_Hoist_set_11 lt_iconst_1 ?_
  refine G_sipush d_Hoist_set_12 lt_sipush_500 ?_
  refine G_callNp (st := []) (As := [.int a2, .int (1 : Int32), .int (500 : Int32)]) d_Hoist_set_15 mi_Hb_isWithin w_647 w_423 rfl (Nat.le_of_ble_eq_true rfl) (by decide) (c_Hb_isWithin a2 (1 : Int32) (500 : Int32) s (Ok_bind h)) (fun v2 h hnv2 => ?_)
  refine G_if_ne (tgt := 23) d_Hoist_set_18 (by decide) (fun c => ?_) (fun c => ?_)
  · replace h := Ok_f c h
    refine G_iload_n d_Hoist_set_23 rfl 3 rfl ?_
    refine G_iconst d_Hoist_set_24 lt_iconst_1 ?_
    refine G_sipush d_Hoist_set_25 lt_sipush_600 ?_
    refine G_callNp (st := []) (As := [.int a3, .int (1 : Int32), .int (600 : Int32)]) d_Hoist_set_28 mi_Hb_isWithin w_647 w_423 rfl (Nat.le_of_ble_eq_true rfl) (by decide) (c_Hb_isWithin a3 (1 : Int32) (600 : Int32) s (Ok_bind h)) (fun v3 h hnv3 => ?_)
    refine G_if_ne (tgt := 36) d_Hoist_set_31 (by decide) (fun c => ?_) (fun c => ?_)
    · replace h := Ok_f c h
      refine G_aload_n d_Hoist_set_36 rfl 0 rfl ?_
      refine G_iload_n d_Hoist_set_37 rfl 1 rfl ?_
      refine px_Hoist_leastLevel d_Hoist_set_38 w_195 (fun s4 e => ?_)
      replace h := Ok_bnd h s4 e
      clear e
      refine G_aload_n d_Hoist_set_41 rfl 0 rfl ?_
      refine G_iload_n d_Hoist_set_42 rfl 2 rfl ?_
      refine px_Hoist_mostWeight d_Hoist_set_43 w_196 (fun s5 e => ?_)
      replace h := Ok_bnd h s5 e
      clear e
      refine G_aload_n d_Hoist_set_46 rfl 0 rfl ?_
      refine G_iload_n d_Hoist_set_47 rfl 3 rfl ?_
      refine px_Hoist_minutesOfDay d_Hoist_set_48 w_197 (fun s6 e => ?_)
      replace h := Ok_bnd h s6 e
      clear e
      refine G_iconst d_Hoist_set_51 lt_iconst_1 ?_
      replace h := Ok_some h
      exact G_iret rfl rfl d_Hoist_set_52 (hR _ _ h)
    replace h := Ok_t c h
    refine G_iconst d_Hoist_set_34 lt_iconst_0 ?_
    replace h := Ok_some h
    exact G_iret rfl rfl d_Hoist_set_35 (hR _ _ h)
  replace h := Ok_t c h
  refine G_iconst d_Hoist_set_21 lt_iconst_0 ?_
  replace h := Ok_some h
  exact G_iret rfl rfl d_Hoist_set_22 (hR _ _ h)
theorem c_Hoist_set {l : Launch} {D : va_G} {cI cZ cJ : ClassId} {ad : Nat → Nat} (a1 a2 a3 : Int32) (s : MS) {P : Int32 → MS → Prop} (h : Ok2 (f_Hoist_set a1 a2 a3 s) P) : Ct (XX l D cI cZ cJ ad) y_Hoist_set b_Hoist_set 4 (some .boolean) 1 [.ref (ad 7), .int a1, .int a2, .int a3] s (P) :=
  Ct.of mi_Hoist_set (Nat.le_of_ble_eq_true rfl) (f_Hoist_set_w a1 a2 a3 s (Post := fun q => P q.1 q.2) (fun _ _ h => h) (Ok2_ok h))
-- Hb_hoist
noncomputable def f_Hb_hoist (a1 a2 a3 : Int32) (s : MS) : Option (Int32 × MS) :=
  bd2 (f_Hoist_set a1 a2 a3 s) fun v1 s2 => some (v1, s2)
theorem f_Hb_hoist_w {l : Launch} {D : va_G} {cI cZ cJ : ClassId} {ad : Nat → Nat} (a1 a2 a3 : Int32) (s : MS) {Q : Int32 → MS → Prop} {Post : (Int32 × MS) → Prop} (hR : ∀ (r9 : Int32) (s9 : MS), Post ((r9, s9)) → Q r9 s9) (h : Ok (f_Hb_hoist a1 a2 a3 s) Post) : G (XX l D cI cZ cJ ad) "SmallHarbour" b_Hb_hoist 4 (some .boolean) 2 0 [(0, .ref (ad 0)), (1, .int a1), (2, .int a2), (3, .int a3)] [] s Q := by
  unfold f_Hb_hoist at h
  refine G_aload_n d_Hb_hoist_0 rfl 0 rfl ?_
  refine gx_Hb_crane d_Hb_hoist_1 w_353 ?_
  refine G_iload_n d_Hb_hoist_4 rfl 1 rfl ?_
  refine G_iload_n d_Hb_hoist_5 rfl 2 rfl ?_
  refine G_iload_n d_Hb_hoist_6 rfl 3 rfl ?_
  refine G_callVi (st := []) (As := [.int a1, .int a2, .int a3]) (b := ad 7) d_Hb_hoist_7 mi_Hoist_set w_643 7 rfl rfl mv_Hoist_set rfl (Nat.le_of_ble_eq_true rfl) (by decide) (c_Hoist_set a1 a2 a3 s (Ok_bd2 h)) (fun v1 s2 h hnv1 => ?_)
  replace h := Ok_some h
  exact G_iret rfl hnv1 d_Hb_hoist_10 (hR _ _ h)
theorem c_Hb_hoist {l : Launch} {D : va_G} {cI cZ cJ : ClassId} {ad : Nat → Nat} (a1 a2 a3 : Int32) (s : MS) {P : Int32 → MS → Prop} (h : Ok2 (f_Hb_hoist a1 a2 a3 s) P) : Ct (XX l D cI cZ cJ ad) y_Hb_hoist b_Hb_hoist 4 (some .boolean) 2 [.ref (ad 0), .int a1, .int a2, .int a3] s (P) :=
  Ct.of mi_Hb_hoist (Nat.le_of_ble_eq_true rfl) (f_Hb_hoist_w a1 a2 a3 s (Post := fun q => P q.1 q.2) (fun _ _ h => h) (Ok2_ok h))
-- Spans_remove
noncomputable def f_Spans_remove (a1 : Int32) (s : MS) : Option MS :=
  if a1 < 0 then (some s) else (if a1 < (s.1 4) then (bnd (pf s 4 ((s.1 4) - (1 : Int32))) fun s1 => chk (inb (s1.1 4) 60) (bnd (s1.2 11 (s1.1 4).toNatClampNeg) fun v2 => chk (inb a1 60) (bnd (pa s1 11 a1.toNatClampNeg v2) fun s3 => chk (inb (s3.1 4) 60) (bnd (s3.2 12 (s3.1 4).toNatClampNeg) fun v4 => chk (inb a1 60) (bnd (pa s3 12 a1.toNatClampNeg v4) fun s5 => chk (inb (s5.1 4) 60) (bnd (s5.2 13 (s5.1 4).toNatClampNeg) fun v6 => chk (inb a1 60) (bnd (pa s5 13 a1.toNatClampNeg v6) fun s7 => some s7))))))) else (some s))
theorem f_Spans_remove_w {l : Launch} {D : va_G} {cI cZ cJ : ClassId} {ad : Nat → Nat} (a1 : Int32) (s : MS) {Q : Int32 → MS → Prop} {Post : MS → Prop} (hR : ∀ (s9 : MS), Post (s9) → Q 0 s9) (h : Ok (f_Spans_remove a1 s) Post) : G (XX l D cI cZ cJ ad) "SmallHarbour$Spans" b_Spans_remove 2 none 0 0 [(0, .ref (ad 4)), (1, .int a1)] [] s Q := by
  unfold f_Spans_remove at h
  refine G_iload_n d_Spans_remove_0 rfl 1 rfl ?_
  refine G_if_lt (tgt := 12) d_Spans_remove_1 (by decide) (fun c => ?_) (fun c => ?_)
  · replace h := Ok_t c h
    replace h := Ok_some h
    exact G_vret rfl d_Spans_remove_12 (hR _ h)
  replace h := Ok_f c h
  refine G_iload_n d_Spans_remove_4 rfl 1 rfl ?_
  refine G_aload_n d_Spans_remove_5 rfl 0 rfl ?_
  refine gx_Spans_count d_Spans_remove_6 w_98 ?_
  refine G_icmp_lt (tgt := 13) d_Spans_remove_9 (by decide) (fun c => ?_) (fun c => ?_)
  · replace h := Ok_t c h
    refine G_aload_n d_Spans_remove_13 rfl 0 rfl ?_
    refine G_dup d_Spans_remove_14 rfl ?_
    refine gx_Spans_count d_Spans_remove_15 w_98 ?_
    refine G_iconst d_Spans_remove_18 lt_iconst_1 ?_
    refine G_isub d_Spans_remove_19 ?_
    refine px_Spans_count d_Spans_remove_20 w_98 (fun s1 e => ?_)
    replace h := Ok_bnd h s1 e
    clear e
    refine G_aload_n d_Spans_remove_23 rfl 0 rfl ?_
    refine gx_Spans_boat d_Spans_remove_24 w_93 ?_
    refine G_iload_n d_Spans_remove_27 rfl 1 rfl ?_
    refine G_aload_n d_Spans_remove_28 rfl 0 rfl ?_
    refine gx_Spans_boat d_Spans_remove_29 w_93 ?_
    refine G_aload_n d_Spans_remove_32 rfl 0 rfl ?_
    refine gx_Spans_count d_Spans_remove_33 w_98 ?_
    refine lx_11 d_Spans_remove_36 (Ok_ld h).1 (fun v2 e => ?_)
    replace h := (Ok_ld h).2 v2 e
    clear e
    refine sx_11 d_Spans_remove_37 (Ok_ld h).1 (fun s3 e => ?_)
    replace h := (Ok_ld h).2 s3 e
    clear e
    refine G_aload_n d_Spans_remove_38 rfl 0 rfl ?_
    refine gx_Spans_from d_Spans_remove_39 w_94 ?_
    refine G_iload_n d_Spans_remove_42 rfl 1 rfl ?_
    refine G_aload_n d_Spans_remove_43 rfl 0 rfl ?_
    refine gx_Spans_from d_Spans_remove_44 w_94 ?_
    refine G_aload_n d_Spans_remove_47 rfl 0 rfl ?_
    refine gx_Spans_count d_Spans_remove_48 w_98 ?_
    refine lx_12 d_Spans_remove_51 (Ok_ld h).1 (fun v4 e => ?_)
    replace h := (Ok_ld h).2 v4 e
    clear e
    refine sx_12 d_Spans_remove_52 (Ok_ld h).1 (fun s5 e => ?_)
    replace h := (Ok_ld h).2 s5 e
    clear e
    refine G_aload_n d_Spans_remove_53 rfl 0 rfl ?_
    refine gx_Spans_to d_Spans_remove_54 w_96 ?_
    refine G_iload_n d_Spans_remove_57 rfl 1 rfl ?_
    refine G_aload_n d_Spans_remove_58 rfl 0 rfl ?_
    refine gx_Spans_to d_Spans_remove_59 w_96 ?_
    refine G_aload_n d_Spans_remove_62 rfl 0 rfl ?_
    refine gx_Spans_count d_Spans_remove_63 w_98 ?_
    refine lx_13 d_Spans_remove_66 (Ok_ld h).1 (fun v6 e => ?_)
    replace h := (Ok_ld h).2 v6 e
    clear e
    refine sx_13 d_Spans_remove_67 (Ok_ld h).1 (fun s7 e => ?_)
    replace h := (Ok_ld h).2 s7 e
    clear e
    replace h := Ok_some h
    exact G_vret rfl d_Spans_remove_68 (hR _ h)
  replace h := Ok_f c h
  replace h := Ok_some h
  exact G_vret rfl d_Spans_remove_12 (hR _ h)
theorem c_Spans_remove {l : Launch} {D : va_G} {cI cZ cJ : ClassId} {ad : Nat → Nat} (a1 : Int32) (s : MS) {P : MS → Prop} (h : Ok (f_Spans_remove a1 s) P) : Ct (XX l D cI cZ cJ ad) y_Spans_remove b_Spans_remove 2 none 0 [.ref (ad 4), .int a1] s (fun _ s9 => P s9) :=
  Ct.of mi_Spans_remove (Nat.le_of_ble_eq_true rfl) (f_Spans_remove_w a1 s (fun _ h => h) h)
-- Hb_home
noncomputable def f_Hb_home (a1 a2 : Int32) (s : MS) : Option (Int32 × MS) :=
  (f_Spans_find a1 a2 s).bind fun v1 => if v1 = (-1 : Int32) then (some ((-1 : Int32), s)) else (chk (inb v1 60) (bnd (s.2 13 v1.toNatClampNeg) fun v2 => chk (inb v1 60) (bnd (pa s 13 v1.toNatClampNeg a2) fun s3 => bd2 (f_Hb_findRoom a2 s3) fun v4 s5 => if 0 ≤ v4 then (chk (inb v1 60) (bnd (s5.2 12 v1.toNatClampNeg) fun v6 => if v6 = a2 then ((f_Spans_remove v1 s5).bind fun s7 => some (v4, s7)) else (some (v4, s5)))) else (chk (inb v1 60) (bnd (pa s5 13 v1.toNatClampNeg v2) fun s8 => some (v4, s8))))))
theorem f_Hb_home_w {l : Launch} {D : va_G} {cI cZ cJ : ClassId} {ad : Nat → Nat} (a1 a2 : Int32) (s : MS) {Q : Int32 → MS → Prop} {Post : (Int32 × MS) → Prop} (hR : ∀ (r9 : Int32) (s9 : MS), Post ((r9, s9)) → Q r9 s9) (h : Ok (f_Hb_home a1 a2 s) Post) : G (XX l D cI cZ cJ ad) "SmallHarbour" b_Hb_home 6 (some .int) 18 0 [(0, .ref (ad 0)), (1, .int a1), (2, .int a2)] [] s Q := by
  unfold f_Hb_home at h
  refine G_aload_n d_Hb_home_0 rfl 0 rfl ?_
  refine gx_Hb_spans d_Hb_home_1 w_350 ?_
  refine G_iload_n d_Hb_home_4 rfl 1 rfl ?_
  refine G_iload_n d_Hb_home_5 rfl 2 rfl ?_
  refine G_callVp (st := []) (As := [.int a1, .int a2]) (b := ad 4) d_Hb_home_6 mi_Spans_find w_476 4 rfl rfl mv_Spans_find rfl (Nat.le_of_ble_eq_true rfl) (by decide) (c_Spans_find a1 a2 s (Ok_bind h)) (fun v1 h hnv1 => ?_)
  refine G_istore_n d_Hb_home_9 rfl (Nat.le_of_ble_eq_true rfl) (fun x => [(3, .int x), (0, .ref (ad 0)), (1, .int a1), (2, .int a2)]) (fun _ => rfl) (fun x e => ?_)
  subst e
  refine G_iload_n d_Hb_home_10 rfl 0 rfl ?_
  refine G_iconst d_Hb_home_11 lt_iconst_m1 ?_
  refine G_icmp_ne (tgt := 17) d_Hb_home_12 (by decide) (fun c => ?_) (fun c => ?_)
  · replace h := Ok_f c h
    refine G_aload_n d_Hb_home_17 rfl 1 rfl ?_
    refine gx_Hb_spans d_Hb_home_18 w_350 ?_
    refine gx_Spans_to d_Hb_home_21 w_97 ?_
    refine G_iload_n d_Hb_home_24 rfl 0 rfl ?_
    refine lx_13 d_Hb_home_25 (Ok_ld h).1 (fun v2 e => ?_)
    replace h := (Ok_ld h).2 v2 e
    clear e
    refine G_istore d_Hb_home_26 (Nat.le_of_ble_eq_true rfl) (fun x => [(4, .int x), (3, .int v1), (0, .ref (ad 0)), (1, .int a1), (2, .int a2)]) (fun _ => rfl) (fun x e => ?_)
    subst e
    refine G_aload_n d_Hb_home_28 rfl 2 rfl ?_
    refine gx_Hb_spans d_Hb_home_29 w_350 ?_
    refine gx_Spans_to d_Hb_home_32 w_97 ?_
    refine G_iload_n d_Hb_home_35 rfl 1 rfl ?_
    refine G_iload_n d_Hb_home_36 rfl 4 rfl ?_
    refine sx_13 d_Hb_home_37 (Ok_ld h).1 (fun s3 e => ?_)
    replace h := (Ok_ld h).2 s3 e
    clear e
    refine G_aload_n d_Hb_home_38 rfl 2 rfl ?_
    refine G_iload_n d_Hb_home_39 rfl 4 rfl ?_
    refine G_callVi (st := []) (As := [.int a2]) (b := ad 0) d_Hb_home_40 mi_Hb_findRoom w_543 0 rfl rfl mv_Hb_findRoom rfl (Nat.le_of_ble_eq_true rfl) (by decide) (c_Hb_findRoom a2 s3 (Ok_bd2 h)) (fun v4 s5 h hnv4 => ?_)
    refine G_istore d_Hb_home_43 (Nat.le_of_ble_eq_true rfl) (fun x => [(5, .int x), (4, .int v2), (3, .int v1), (0, .ref (ad 0)), (1, .int a1), (2, .int a2)]) (fun _ => rfl) (fun x e => ?_)
    subst e
    refine G_iload d_Hb_home_45 0 rfl ?_
    refine G_if_ge (tgt := 64) d_Hb_home_47 (by decide) (fun c => ?_) (fun c => ?_)
    · replace h := Ok_t c h
      refine G_aload_n d_Hb_home_64 rfl 3 rfl ?_
      refine gx_Hb_spans d_Hb_home_65 w_350 ?_
      refine gx_Spans_from d_Hb_home_68 w_95 ?_
      refine G_iload_n d_Hb_home_71 rfl 2 rfl ?_
      refine lx_12 d_Hb_home_72 (Ok_ld h).1 (fun v6 e => ?_)
      replace h := (Ok_ld h).2 v6 e
      clear e
      refine G_iload_n d_Hb_home_73 rfl 5 rfl ?_
      refine G_icmp_ne (tgt := 85) d_Hb_home_74 (by decide) (fun c => ?_) (fun c => ?_)
      · replace h := Ok_f c h
        refine G_iload d_Hb_home_85 0 rfl ?_
        replace h := Ok_some h
        exact G_iret rfl (vp_nar_int _) d_Hb_home_87 (hR _ _ h)
      replace h := Ok_t c h
      refine G_aload_n d_Hb_home_77 rfl 3 rfl ?_
      refine gx_Hb_spans d_Hb_home_78 w_350 ?_
      refine G_iload_n d_Hb_home_81 rfl 2 rfl ?_
      refine G_callVv (st := []) (As := [.int v1]) (b := ad 4) d_Hb_home_82 mi_Spans_remove w_600 4 rfl rfl mv_Spans_remove rfl (Nat.le_of_ble_eq_true rfl) (by decide) (c_Spans_remove v1 s5 (Ok_bind h)) (fun s7 h => ?_)
      refine G_iload d_Hb_home_85 0 rfl ?_
      replace h := Ok_some h
      exact G_iret rfl (vp_nar_int _) d_Hb_home_87 (hR _ _ h)
    replace h := Ok_f c h
    refine G_aload_n d_Hb_home_50 rfl 3 rfl ?_
    refine gx_Hb_spans d_Hb_home_51 w_350 ?_
    refine gx_Spans_to d_Hb_home_54 w_97 ?_
    refine G_iload_n d_Hb_home_57 rfl 2 rfl ?_
    refine G_iload d_Hb_home_58 1 rfl ?_
    refine sx_13 d_Hb_home_60 (Ok_ld h).1 (fun s8 e => ?_)
    replace h := (Ok_ld h).2 s8 e
    clear e
    refine G_goto (tgt := 85) d_Hb_home_61 (by decide) ?_
    refine G_iload d_Hb_home_85 0 rfl ?_
    replace h := Ok_some h
    exact G_iret rfl (vp_nar_int _) d_Hb_home_87 (hR _ _ h)
  replace h := Ok_t c h
  refine G_iconst d_Hb_home_15 lt_iconst_m1 ?_
  replace h := Ok_some h
  exact G_iret rfl (vp_nar_int _) d_Hb_home_16 (hR _ _ h)
theorem c_Hb_home {l : Launch} {D : va_G} {cI cZ cJ : ClassId} {ad : Nat → Nat} (a1 a2 : Int32) (s : MS) {P : Int32 → MS → Prop} (h : Ok2 (f_Hb_home a1 a2 s) P) : Ct (XX l D cI cZ cJ ad) y_Hb_home b_Hb_home 6 (some .int) 18 [.ref (ad 0), .int a1, .int a2] s (P) :=
  Ct.of mi_Hb_home (Nat.le_of_ble_eq_true rfl) (f_Hb_home_w a1 a2 s (Post := fun q => P q.1 q.2) (fun _ _ h => h) (Ok2_ok h))
-- Hb_isTideFixed
noncomputable def f_Hb_isTideFixed (s : MS) : Option Int32 :=
  if 0 < (s.1 5) then (some (1 : Int32)) else ((f_Berths_isAnyHeld s).bind fun v1 => if v1 = 0 then (some (0 : Int32)) else (some (1 : Int32)))
theorem f_Hb_isTideFixed_w {l : Launch} {D : va_G} {cI cZ cJ : ClassId} {ad : Nat → Nat} (s : MS) {Q : Int32 → MS → Prop} {Post : Int32 → Prop} (hR : ∀ (r9 : Int32), Post (r9) → Q r9 s) (h : Ok (f_Hb_isTideFixed s) Post) : G (XX l D cI cZ cJ ad) "SmallHarbour" b_Hb_isTideFixed 1 (some .boolean) 1 0 [(0, .ref (ad 0))] [] s Q := by
  unfold f_Hb_isTideFixed at h
  refine G_aload_n d_Hb_isTideFixed_0 rfl 0 rfl ?_
  refine gx_Hb_stays d_Hb_isTideFixed_1 w_351 ?_
  refine gx_Stays_count d_Hb_isTideFixed_4 w_124 ?_
  refine G_if_gt (tgt := 20) d_Hb_isTideFixed_7 (by decide) (fun c => ?_) (fun c => ?_)
  · replace h := Ok_t c h
    refine G_iconst d_Hb_isTideFixed_20 lt_iconst_1 ?_
    refine G_goto (tgt := 25) d_Hb_isTideFixed_21 (by decide) ?_
    replace h := Ok_some h
    exact G_iret rfl rfl d_Hb_isTideFixed_25 (hR _ h)
  replace h := Ok_f c h
  refine G_aload_n d_Hb_isTideFixed_10 rfl 0 rfl ?_
  refine gx_Hb_berths d_Hb_isTideFixed_11 w_348 ?_
  refine G_callVp (st := []) (As := []) (b := ad 2) d_Hb_isTideFixed_14 mi_Berths_isAnyHeld w_395 2 rfl rfl mv_Berths_isAnyHeld rfl (Nat.le_of_ble_eq_true rfl) (by decide) (c_Berths_isAnyHeld  s (Ok_bind h)) (fun v1 h hnv1 => ?_)
  refine G_if_eq (tgt := 24) d_Hb_isTideFixed_17 (by decide) (fun c => ?_) (fun c => ?_)
  · replace h := Ok_t c h
    refine G_iconst d_Hb_isTideFixed_24 lt_iconst_0 ?_
    replace h := Ok_some h
    exact G_iret rfl rfl d_Hb_isTideFixed_25 (hR _ h)
  replace h := Ok_f c h
  refine G_iconst d_Hb_isTideFixed_20 lt_iconst_1 ?_
  refine G_goto (tgt := 25) d_Hb_isTideFixed_21 (by decide) ?_
  replace h := Ok_some h
  exact G_iret rfl rfl d_Hb_isTideFixed_25 (hR _ h)
theorem c_Hb_isTideFixed {l : Launch} {D : va_G} {cI cZ cJ : ClassId} {ad : Nat → Nat} (s : MS) {P : Int32 → Prop} (h : Ok (f_Hb_isTideFixed  s) P) : Ct (XX l D cI cZ cJ ad) y_Hb_isTideFixed b_Hb_isTideFixed 1 (some .boolean) 1 [.ref (ad 0)] s (fun r9 s9 => s9 = s ∧ P r9) :=
  Ct.of mi_Hb_isTideFixed (Nat.le_of_ble_eq_true rfl) (f_Hb_isTideFixed_w  s (fun _ h => ⟨rfl, h⟩) h)
-- Shed_isFilled
noncomputable def f_Shed_isFilled (s : MS) : Option Int32 :=
  if (s.1 15) = (81 : Int32) then (some (0 : Int32)) else (some (1 : Int32))
theorem f_Shed_isFilled_w {l : Launch} {D : va_G} {cI cZ cJ : ClassId} {ad : Nat → Nat} (s : MS) {Q : Int32 → MS → Prop} {Post : Int32 → Prop} (hR : ∀ (r9 : Int32), Post (r9) → Q r9 s) (h : Ok (f_Shed_isFilled s) Post) : G (XX l D cI cZ cJ ad) "SmallHarbour$Shed" b_Shed_isFilled 1 (some .boolean) 0 0 [(0, .ref (ad 8))] [] s Q := by
  unfold f_Shed_isFilled at h
  refine G_aload_n d_Shed_isFilled_0 rfl 0 rfl ?_
  refine gx_Shed_fewest d_Shed_isFilled_1 w_227 ?_
  refine G_bipush d_Shed_isFilled_4 lt_bipush_81 ?_
  refine G_icmp_eq (tgt := 13) d_Shed_isFilled_6 (by decide) (fun c => ?_) (fun c => ?_)
  · replace h := Ok_t c h
    refine G_iconst d_Shed_isFilled_13 lt_iconst_0 ?_
    replace h := Ok_some h
    exact G_iret rfl rfl d_Shed_isFilled_14 (hR _ h)
  replace h := Ok_f c h
  refine G_iconst d_Shed_isFilled_9 lt_iconst_1 ?_
  refine G_goto (tgt := 14) d_Shed_isFilled_10 (by decide) ?_
  replace h := Ok_some h
  exact G_iret rfl rfl d_Shed_isFilled_14 (hR _ h)
theorem c_Shed_isFilled {l : Launch} {D : va_G} {cI cZ cJ : ClassId} {ad : Nat → Nat} (s : MS) {P : Int32 → Prop} (h : Ok (f_Shed_isFilled  s) P) : Ct (XX l D cI cZ cJ ad) y_Shed_isFilled b_Shed_isFilled 1 (some .boolean) 0 [.ref (ad 8)] s (fun r9 s9 => s9 = s ∧ P r9) :=
  Ct.of mi_Shed_isFilled (Nat.le_of_ble_eq_true rfl) (f_Shed_isFilled_w  s (fun _ h => ⟨rfl, h⟩) h)
-- Hb_lane
noncomputable def f_Hb_lane (a1 : Int32) (s : MS) : Option Int32 :=
  if a1 < 0 then (some (-1 : Int32)) else (if (s.1 14) ≤ a1 then (some (-1 : Int32)) else ((f_Shed_isFilled s).bind fun v1 => if v1 = 0 then (some (-1 : Int32)) else (chk (inb a1 9) (bnd (s.2 31 a1.toNatClampNeg) fun v2 => some v2))))
theorem f_Hb_lane_w {l : Launch} {D : va_G} {cI cZ cJ : ClassId} {ad : Nat → Nat} (a1 : Int32) (s : MS) {Q : Int32 → MS → Prop} {Post : Int32 → Prop} (hR : ∀ (r9 : Int32), Post (r9) → Q r9 s) (h : Ok (f_Hb_lane a1 s) Post) : G (XX l D cI cZ cJ ad) "SmallHarbour" b_Hb_lane 2 (some .int) 1 0 [(0, .ref (ad 0)), (1, .int a1)] [] s Q := by
  unfold f_Hb_lane at h
  refine G_iload_n d_Hb_lane_0 rfl 1 rfl ?_
  refine G_if_lt (tgt := 25) d_Hb_lane_1 (by decide) (fun c => ?_) (fun c => ?_)
  · replace h := Ok_t c h
    refine G_iconst d_Hb_lane_25 lt_iconst_m1 ?_
    refine G_goto (tgt := 38) d_Hb_lane_26 (by decide) ?_
    replace h := Ok_some h
    exact G_iret rfl (vp_nar_int _) d_Hb_lane_38 (hR _ h)
  replace h := Ok_f c h
  refine G_iload_n d_Hb_lane_4 rfl 1 rfl ?_
  refine G_aload_n d_Hb_lane_5 rfl 0 rfl ?_
  refine gx_Hb_barn d_Hb_lane_6 w_354 ?_
  refine gx_Shed_count d_Hb_lane_9 w_226 ?_
  refine G_icmp_ge (tgt := 25) d_Hb_lane_12 (by decide) (fun c => ?_) (fun c => ?_)
  · replace h := Ok_t c h
    refine G_iconst d_Hb_lane_25 lt_iconst_m1 ?_
    refine G_goto (tgt := 38) d_Hb_lane_26 (by decide) ?_
    replace h := Ok_some h
    exact G_iret rfl (vp_nar_int _) d_Hb_lane_38 (hR _ h)
  replace h := Ok_f c h
  refine G_aload_n d_Hb_lane_15 rfl 0 rfl ?_
  refine gx_Hb_barn d_Hb_lane_16 w_354 ?_
  refine G_callVp (st := []) (As := []) (b := ad 8) d_Hb_lane_19 mi_Shed_isFilled w_709 8 rfl rfl mv_Shed_isFilled rfl (Nat.le_of_ble_eq_true rfl) (by decide) (c_Shed_isFilled  s (Ok_bind h)) (fun v1 h hnv1 => ?_)
  refine G_if_ne (tgt := 29) d_Hb_lane_22 (by decide) (fun c => ?_) (fun c => ?_)
  · replace h := Ok_f c h
    refine G_aload_n d_Hb_lane_29 rfl 0 rfl ?_
    refine gx_Hb_barn d_Hb_lane_30 w_354 ?_
    refine gx_Shed_best d_Hb_lane_33 w_230 ?_
    refine G_iload_n d_Hb_lane_36 rfl 1 rfl ?_
    refine lx_31 d_Hb_lane_37 (Ok_ld h).1 (fun v2 e => ?_)
    replace h := (Ok_ld h).2 v2 e
    clear e
    replace h := Ok_some h
    exact G_iret rfl (vp_nar_int _) d_Hb_lane_38 (hR _ h)
  replace h := Ok_t c h
  refine G_iconst d_Hb_lane_25 lt_iconst_m1 ?_
  refine G_goto (tgt := 38) d_Hb_lane_26 (by decide) ?_
  replace h := Ok_some h
  exact G_iret rfl (vp_nar_int _) d_Hb_lane_38 (hR _ h)
theorem c_Hb_lane {l : Launch} {D : va_G} {cI cZ cJ : ClassId} {ad : Nat → Nat} (a1 : Int32) (s : MS) {P : Int32 → Prop} (h : Ok (f_Hb_lane a1 s) P) : Ct (XX l D cI cZ cJ ad) y_Hb_lane b_Hb_lane 2 (some .int) 1 [.ref (ad 0), .int a1] s (fun r9 s9 => s9 = s ∧ P r9) :=
  Ct.of mi_Hb_lane (Nat.le_of_ble_eq_true rfl) (f_Hb_lane_w a1 s (fun _ h => ⟨rfl, h⟩) h)
