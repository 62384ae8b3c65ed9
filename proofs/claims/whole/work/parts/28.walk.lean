-- Reader_comeToNext
noncomputable def Reader_comeToNext_j44 (s : MS) : Option MS :=
  bnd (pf s 22 (s.1 23)) fun s1 => if (s1.1 23) < (s1.1 18) then (chk (inb (s1.1 23) 200) (bnd (s1.2 37 (s1.1 23).toNatClampNeg) fun v2 => (f_Reader_isDigit v2).bind fun v3 => if v3 = 0 then ((f_Reader_isLetter v2).bind fun v4 => if v4 = 0 then (bnd (pf s1 23 ((s1.1 23) + (1 : Int32))) fun s5 => (f_Reader_isSign v2).bind fun v6 => if v6 = 0 then (bnd (pf s5 24 (1 : Int32)) fun s7 => some s7) else (bnd (pf s5 24 v2) fun s8 => some s8)) else ((f_Reader_comeToWord s1).bind fun s9 => some s9)) else ((f_Reader_comeToNumber s1).bind fun s10 => some s10))) else (bnd (pf s1 24 (0 : Int32)) fun s11 => some s11)
theorem Reader_comeToNext_j44_w {l : Launch} {D : va_G} {cI cZ cJ : ClassId} {ad : Nat → Nat} (s : MS) {Q : Int32 → MS → Prop} {Post : MS → Prop} (hR : ∀ (s9 : MS), Post (s9) → Q 0 s9) (h : Ok (Reader_comeToNext_j44 s) Post) : G (XX l D cI cZ cJ ad) "SmallHarbour$Reader" b_Reader_comeToNext 2 none 2 44 [(0, .ref (ad 10))] [] s Q := by
  unfold Reader_comeToNext_j44 at h
  refine G_aload_n d_Reader_comeToNext_44 rfl 0 rfl ?_
  refine G_aload_n d_Reader_comeToNext_45 rfl 0 rfl ?_
  refine gx_Reader_next d_Reader_comeToNext_46 w_291 ?_
  refine px_Reader_start d_Reader_comeToNext_49 w_290 (fun s1 e => ?_)
  replace h := Ok_bnd h s1 e
  clear e
  refine G_aload_n d_Reader_comeToNext_52 rfl 0 rfl ?_
  refine gx_Reader_next d_Reader_comeToNext_53 w_291 ?_
  refine G_aload_n d_Reader_comeToNext_56 rfl 0 rfl ?_
  refine gx_Reader_tape d_Reader_comeToNext_57 w_289 ?_
  refine gx_Tape_count d_Reader_comeToNext_60 w_268 ?_
  refine G_icmp_lt (tgt := 72) d_Reader_comeToNext_63 (by decide) (fun c => ?_) (fun c => ?_)
  · replace h := Ok_t c h
    refine G_aload_n d_Reader_comeToNext_72 rfl 0 rfl ?_
    refine gx_Reader_tape d_Reader_comeToNext_73 w_289 ?_
    refine gx_Tape_bytes d_Reader_comeToNext_76 w_266 ?_
    refine G_aload_n d_Reader_comeToNext_79 rfl 0 rfl ?_
    refine gx_Reader_next d_Reader_comeToNext_80 w_291 ?_
    refine lx_37 d_Reader_comeToNext_83 (Ok_ld h).1 (fun v2 e => ?_)
    replace h := (Ok_ld h).2 v2 e
    clear e
    refine G_istore_n d_Reader_comeToNext_84 rfl (Nat.le_of_ble_eq_true rfl) (fun x => [(1, .int x), (0, .ref (ad 10))]) (fun _ => rfl) (fun x e => ?_)
    subst e
    refine G_iload_n d_Reader_comeToNext_85 rfl 0 rfl ?_
    refine G_callSp (st := []) (As := [.int v2]) d_Reader_comeToNext_86 mi_Reader_isDigit w_741 w_742 rfl (Nat.le_of_ble_eq_true rfl) (by decide) (c_Reader_isDigit v2 s1 (Ok_bind h)) (fun v3 h hnv3 => ?_)
    refine G_if_eq (tgt := 99) d_Reader_comeToNext_89 (by decide) (fun c => ?_) (fun c => ?_)
    · replace h := Ok_t c h
      refine G_iload_n d_Reader_comeToNext_99 rfl 0 rfl ?_
      refine G_callSp (st := []) (As := [.int v2]) d_Reader_comeToNext_100 mi_Reader_isLetter w_750 w_751 rfl (Nat.le_of_ble_eq_true rfl) (by decide) (c_Reader_isLetter v2 s1 (Ok_bind h)) (fun v4 h hnv4 => ?_)
      refine G_if_eq (tgt := 113) d_Reader_comeToNext_103 (by decide) (fun c => ?_) (fun c => ?_)
      · replace h := Ok_t c h
        refine G_aload_n d_Reader_comeToNext_113 rfl 1 rfl ?_
        refine G_dup d_Reader_comeToNext_114 rfl ?_
        refine gx_Reader_next d_Reader_comeToNext_115 w_291 ?_
        refine G_iconst d_Reader_comeToNext_118 lt_iconst_1 ?_
        refine G_iadd d_Reader_comeToNext_119 ?_
        refine px_Reader_next d_Reader_comeToNext_120 w_291 (fun s5 e => ?_)
        replace h := Ok_bnd h s5 e
        clear e
        refine G_aload_n d_Reader_comeToNext_123 rfl 1 rfl ?_
        refine G_iload_n d_Reader_comeToNext_124 rfl 0 rfl ?_
        refine G_callSp (st := [.ref (ad 10)]) (As := [.int v2]) d_Reader_comeToNext_125 mi_Reader_isSign w_760 w_761 rfl (Nat.le_of_ble_eq_true rfl) (by decide) (c_Reader_isSign v2 s5 (Ok_bind h)) (fun v6 h hnv6 => ?_)
        refine G_if_eq (tgt := 135) d_Reader_comeToNext_128 (by decide) (fun c => ?_) (fun c => ?_)
        · replace h := Ok_t c h
          refine G_iconst d_Reader_comeToNext_135 lt_iconst_1 ?_
          refine px_Reader_kind d_Reader_comeToNext_136 w_292 (fun s7 e => ?_)
          replace h := Ok_bnd h s7 e
          clear e
          replace h := Ok_some h
          exact G_vret rfl d_Reader_comeToNext_139 (hR _ h)
        replace h := Ok_f c h
        refine G_iload_n d_Reader_comeToNext_131 rfl 0 rfl ?_
        refine G_goto (tgt := 136) d_Reader_comeToNext_132 (by decide) ?_
        refine px_Reader_kind d_Reader_comeToNext_136 w_292 (fun s8 e => ?_)
        replace h := Ok_bnd h s8 e
        clear e
        replace h := Ok_some h
        exact G_vret rfl d_Reader_comeToNext_139 (hR _ h)
      replace h := Ok_f c h
      refine G_aload_n d_Reader_comeToNext_106 rfl 1 rfl ?_
      refine G_callVv (st := []) (As := []) (b := ad 10) d_Reader_comeToNext_107 mi_Reader_comeToWord w_753 10 rfl rfl mv_Reader_comeToWord rfl (Nat.le_of_ble_eq_true rfl) (by decide) (c_Reader_comeToWord  s1 (Ok_bind h)) (fun s9 h => ?_)
      refine G_goto (tgt := 139) d_Reader_comeToNext_110 (by decide) ?_
      replace h := Ok_some h
      exact G_vret rfl d_Reader_comeToNext_139 (hR _ h)
    replace h := Ok_f c h
    refine G_aload_n d_Reader_comeToNext_92 rfl 1 rfl ?_
    refine G_callVv (st := []) (As := []) (b := ad 10) d_Reader_comeToNext_93 mi_Reader_comeToNumber w_744 10 rfl rfl mv_Reader_comeToNumber rfl (Nat.le_of_ble_eq_true rfl) (by decide) (c_Reader_comeToNumber  s1 (Ok_bind h)) (fun s10 h => ?_)
    refine G_goto (tgt := 139) d_Reader_comeToNext_96 (by decide) ?_
    replace h := Ok_some h
    exact G_vret rfl d_Reader_comeToNext_139 (hR _ h)
  replace h := Ok_f c h
  refine G_aload_n d_Reader_comeToNext_66 rfl 0 rfl ?_
  refine G_iconst d_Reader_comeToNext_67 lt_iconst_0 ?_
  refine px_Reader_kind d_Reader_comeToNext_68 w_292 (fun s11 e => ?_)
  replace h := Ok_bnd h s11 e
  clear e
  replace h := Ok_some h
  exact G_vret rfl d_Reader_comeToNext_71 (hR _ h)
noncomputable def Reader_comeToNext_l0 (s : MS) : Option ((MS) ⊕ MS) :=
  if (s.1 18) ≤ (s.1 23) then (xit (Reader_comeToNext_j44 s)) else (chk (inb (s.1 23) 200) (bnd (s.2 37 (s.1 23).toNatClampNeg) fun v1 => if v1 = (32 : Int32) then (bnd (pf s 23 ((s.1 23) + (1 : Int32))) fun s2 => some (.inl s2)) else (xit (Reader_comeToNext_j44 s))))
theorem Reader_comeToNext_l0_w {l : Launch} {D : va_G} {cI cZ cJ : ClassId} {ad : Nat → Nat} (s : MS) {Q : Int32 → MS → Prop} {Post : ((MS) ⊕ MS) → Prop} (hR : ∀ (s9 : MS), Post (.inr (s9)) → Q 0 s9) (hL0 : ∀ (s9 : MS), Post (.inl s9) → G (XX l D cI cZ cJ ad) "SmallHarbour$Reader" b_Reader_comeToNext 2 none 2 0 [(0, .ref (ad 10))] [] s9 Q) (h : Ok (Reader_comeToNext_l0 s) Post) : G (XX l D cI cZ cJ ad) "SmallHarbour$Reader" b_Reader_comeToNext 2 none 2 0 [(0, .ref (ad 10))] [] s Q := by
  unfold Reader_comeToNext_l0 at h
  refine G_aload_n d_Reader_comeToNext_0 rfl 0 rfl ?_
  refine gx_Reader_next d_Reader_comeToNext_1 w_291 ?_
  refine G_aload_n d_Reader_comeToNext_4 rfl 0 rfl ?_
  refine gx_Reader_tape d_Reader_comeToNext_5 w_289 ?_
  refine gx_Tape_count d_Reader_comeToNext_8 w_268 ?_
  refine G_icmp_ge (tgt := 44) d_Reader_comeToNext_11 (by decide) (fun c => ?_) (fun c => ?_)
  · replace h := Ok_t c h
    replace h := Ok_xit h
    refine Reader_comeToNext_j44_w s ?_ h
    · exact hR
  replace h := Ok_f c h
  refine G_aload_n d_Reader_comeToNext_14 rfl 0 rfl ?_
  refine gx_Reader_tape d_Reader_comeToNext_15 w_289 ?_
  refine gx_Tape_bytes d_Reader_comeToNext_18 w_266 ?_
  refine G_aload_n d_Reader_comeToNext_21 rfl 0 rfl ?_
  refine gx_Reader_next d_Reader_comeToNext_22 w_291 ?_
  refine lx_37 d_Reader_comeToNext_25 (Ok_ld h).1 (fun v1 e => ?_)
  replace h := (Ok_ld h).2 v1 e
  clear e
  refine G_bipush d_Reader_comeToNext_26 lt_bipush_32 ?_
  refine G_icmp_ne (tgt := 44) d_Reader_comeToNext_28 (by decide) (fun c => ?_) (fun c => ?_)
  · replace h := Ok_f c h
    replace h := Ok_xit h
    refine Reader_comeToNext_j44_w s ?_ h
    · exact hR
  replace h := Ok_t c h
  refine G_aload_n d_Reader_comeToNext_31 rfl 0 rfl ?_
  refine G_dup d_Reader_comeToNext_32 rfl ?_
  refine gx_Reader_next d_Reader_comeToNext_33 w_291 ?_
  refine G_iconst d_Reader_comeToNext_36 lt_iconst_1 ?_
  refine G_iadd d_Reader_comeToNext_37 ?_
  refine px_Reader_next d_Reader_comeToNext_38 w_291 (fun s2 e => ?_)
  replace h := Ok_bnd h s2 e
  clear e
  refine G_goto (tgt := 0) d_Reader_comeToNext_41 (by decide) ?_
  replace h := Ok_some h
  exact hL0 s2 h
noncomputable def f_Reader_comeToNext (s : MS) : Option MS :=
  loop (fun z => Reader_comeToNext_l0 z) s
theorem f_Reader_comeToNext_w {l : Launch} {D : va_G} {cI cZ cJ : ClassId} {ad : Nat → Nat} (s : MS) {Q : Int32 → MS → Prop} {Post : MS → Prop} (hR : ∀ (s9 : MS), Post (s9) → Q 0 s9) (h : Ok (f_Reader_comeToNext s) Post) : G (XX l D cI cZ cJ ad) "SmallHarbour$Reader" b_Reader_comeToNext 2 none 2 0 [(0, .ref (ad 10))] [] s Q := by
  unfold f_Reader_comeToNext at h
  refine G_loop (J := (fun z => G (XX l D cI cZ cJ ad) "SmallHarbour$Reader" b_Reader_comeToNext 2 none 2 0 [(0, .ref (ad 10))] [] z Q)) (fun z h => ?_) s h
  refine Reader_comeToNext_l0_w z ?_ ?_ h
  · exact hR
  · exact (fun s9 h => h)
theorem c_Reader_comeToNext {l : Launch} {D : va_G} {cI cZ cJ : ClassId} {ad : Nat → Nat} (s : MS) {P : MS → Prop} (h : Ok (f_Reader_comeToNext  s) P) : Ct (XX l D cI cZ cJ ad) y_Reader_comeToNext b_Reader_comeToNext 2 none 2 [.ref (ad 10)] s (fun _ s9 => P s9) :=
  Ct.of mi_Reader_comeToNext (Nat.le_of_ble_eq_true rfl) (f_Reader_comeToNext_w  s (fun _ h => h) h)
-- Reader_emit
noncomputable def f_Reader_emit (a1 : Int32) (s : MS) : Option MS :=
  if (60 : Int32) ≤ (s.1 19) then (some s) else (chk (inb (s.1 19) 60) (bnd (pa s 38 (s.1 19).toNatClampNeg a1) fun s1 => bnd (pf s1 19 ((s1.1 19) + (1 : Int32))) fun s2 => some s2))
theorem f_Reader_emit_w {l : Launch} {D : va_G} {cI cZ cJ : ClassId} {ad : Nat → Nat} (a1 : Int32) (s : MS) {Q : Int32 → MS → Prop} {Post : MS → Prop} (hR : ∀ (s9 : MS), Post (s9) → Q 0 s9) (h : Ok (f_Reader_emit a1 s) Post) : G (XX l D cI cZ cJ ad) "SmallHarbour$Reader" b_Reader_emit 2 none 0 0 [(0, .ref (ad 10)), (1, .int a1)] [] s Q := by
  unfold f_Reader_emit at h
  refine G_aload_n d_Reader_emit_0 rfl 0 rfl ?_
  refine gx_Reader_size d_Reader_emit_1 w_283 ?_
  refine G_bipush d_Reader_emit_4 lt_bipush_60 ?_
  refine G_icmp_ge (tgt := 29) d_Reader_emit_6 (by decide) (fun c => ?_) (fun c => ?_)
  · replace h := Ok_t c h
    replace h := Ok_some h
    exact G_vret rfl d_Reader_emit_29 (hR _ h)
  replace h := Ok_f c h
  refine G_aload_n d_Reader_emit_9 rfl 0 rfl ?_
  refine gx_Reader_code d_Reader_emit_10 w_281 ?_
  refine G_aload_n d_Reader_emit_13 rfl 0 rfl ?_
  refine gx_Reader_size d_Reader_emit_14 w_283 ?_
  refine G_iload_n d_Reader_emit_17 rfl 1 rfl ?_
  refine sx_38 d_Reader_emit_18 (Ok_ld h).1 (fun s1 e => ?_)
  replace h := (Ok_ld h).2 s1 e
  clear e
  refine G_aload_n d_Reader_emit_19 rfl 0 rfl ?_
  refine G_dup d_Reader_emit_20 rfl ?_
  refine gx_Reader_size d_Reader_emit_21 w_283 ?_
  refine G_iconst d_Reader_emit_24 lt_iconst_1 ?_
  refine G_iadd d_Reader_emit_25 ?_
  refine px_Reader_size d_Reader_emit_26 w_283 (fun s2 e => ?_)
  replace h := Ok_bnd h s2 e
  clear e
  replace h := Ok_some h
  exact G_vret rfl d_Reader_emit_29 (hR _ h)
theorem c_Reader_emit {l : Launch} {D : va_G} {cI cZ cJ : ClassId} {ad : Nat → Nat} (a1 : Int32) (s : MS) {P : MS → Prop} (h : Ok (f_Reader_emit a1 s) P) : Ct (XX l D cI cZ cJ ad) y_Reader_emit b_Reader_emit 2 none 0 [.ref (ad 10), .int a1] s (fun _ s9 => P s9) :=
  Ct.of mi_Reader_emit (Nat.le_of_ble_eq_true rfl) (f_Reader_emit_w a1 s (fun _ h => h) h)
-- Reader_refuse
noncomputable def f_Reader_refuse (a1 : Int32) (s : MS) : Option MS :=
  if (s.1 20) = 0 then (bnd (pf s 20 a1) fun s1 => bnd (pf s1 21 (s1.1 22)) fun s2 => some s2) else (some s)
theorem f_Reader_refuse_w {l : Launch} {D : va_G} {cI cZ cJ : ClassId} {ad : Nat → Nat} (a1 : Int32) (s : MS) {Q : Int32 → MS → Prop} {Post : MS → Prop} (hR : ∀ (s9 : MS), Post (s9) → Q 0 s9) (h : Ok (f_Reader_refuse a1 s) Post) : G (XX l D cI cZ cJ ad) "SmallHarbour$Reader" b_Reader_refuse 2 none 0 0 [(0, .ref (ad 10)), (1, .int a1)] [] s Q := by
  unfold f_Reader_refuse at h
  refine G_aload_n d_Reader_refuse_0 rfl 0 rfl ?_
  refine gx_Reader_flaw d_Reader_refuse_1 w_285 ?_
  refine G_if_ne (tgt := 20) d_Reader_refuse_4 (by decide) (fun c => ?_) (fun c => ?_)
  · replace h := Ok_f c h
    replace h := Ok_some h
    exact G_vret rfl d_Reader_refuse_20 (hR _ h)
  replace h := Ok_t c h
  refine G_aload_n d_Reader_refuse_7 rfl 0 rfl ?_
  refine G_iload_n d_Reader_refuse_8 rfl 1 rfl ?_
  refine px_Reader_flaw d_Reader_refuse_9 w_285 (fun s1 e => ?_)
  replace h := Ok_bnd h s1 e
  clear e
  refine G_aload_n d_Reader_refuse_12 rfl 0 rfl ?_
  refine G_aload_n d_Reader_refuse_13 rfl 0 rfl ?_
  refine gx_Reader_start d_Reader_refuse_14 w_290 ?_
  refine px_Reader_place d_Reader_refuse_17 w_287 (fun s2 e => ?_)
  replace h := Ok_bnd h s2 e
  clear e
  replace h := Ok_some h
  exact G_vret rfl d_Reader_refuse_20 (hR _ h)
theorem c_Reader_refuse {l : Launch} {D : va_G} {cI cZ cJ : ClassId} {ad : Nat → Nat} (a1 : Int32) (s : MS) {P : MS → Prop} (h : Ok (f_Reader_refuse a1 s) P) : Ct (XX l D cI cZ cJ ad) y_Reader_refuse b_Reader_refuse 2 none 0 [.ref (ad 10), .int a1] s (fun _ s9 => P s9) :=
  Ct.of mi_Reader_refuse (Nat.le_of_ble_eq_true rfl) (f_Reader_refuse_w a1 s (fun _ h => h) h)
-- Reader_take
noncomputable def Reader_take_j44 (s : MS) : Option MS :=
  if (s.1 26) ≤ (60 : Int32) then ((f_Reader_comeToNext s).bind fun s1 => some s1) else ((f_Reader_refuse (3 : Int32) s).bind fun s2 => some s2)
theorem Reader_take_j44_w {l : Launch} {D : va_G} {cI cZ cJ : ClassId} {ad : Nat → Nat} (s : MS) {Q : Int32 → MS → Prop} {Post : MS → Prop} (hR : ∀ (s9 : MS), Post (s9) → Q 0 s9) (h : Ok (Reader_take_j44 s) Post) : G (XX l D cI cZ cJ ad) "SmallHarbour$Reader" b_Reader_take 1 none 3 44 [(0, .ref (ad 10))] [] s Q := by
  unfold Reader_take_j44 at h
  refine G_aload_n d_Reader_take_44 rfl 0 rfl ?_
  refine gx_Reader_taken d_Reader_take_45 w_294 ?_
  refine G_bipush d_Reader_take_48 lt_bipush_60 ?_
  refine G_icmp_le (tgt := 61) d_Reader_take_50 (by decide) (fun c => ?_) (fun c => ?_)
  · replace h := Ok_t c h
    refine G_aload_n d_Reader_take_61 rfl 0 rfl ?_
    refine G_callVv (st := []) (As := []) (b := ad 10) d_Reader_take_62 mi_Reader_comeToNext w_737 10 rfl rfl mv_Reader_comeToNext rfl (Nat.le_of_ble_eq_true rfl) (by decide) (c_Reader_comeToNext  s (Ok_bind h)) (fun s1 h => ?_)
    replace h := Ok_some h
    exact G_vret rfl d_Reader_take_65 (hR _ h)
  replace h := Ok_f c h
  refine G_aload_n d_Reader_take_53 rfl 0 rfl ?_
  refine G_iconst d_Reader_take_54 lt_iconst_3 ?_
  refine G_callVv (st := []) (As := [.int (3 : Int32)]) (b := ad 10) d_Reader_take_55 mi_Reader_refuse w_792 10 rfl rfl mv_Reader_refuse rfl (Nat.le_of_ble_eq_true rfl) (by decide) (c_Reader_refuse (3 : Int32) s (Ok_bind h)) (fun s2 h => ?_)
  refine G_goto (tgt := 65) d_Reader_take_58 (by decide) ?_
  replace h := Ok_some h
  exact G_vret rfl d_Reader_take_65 (hR _ h)
noncomputable def f_Reader_take (s : MS) : Option MS :=
  if (s.1 20) = 0 then (bnd (pf s 26 ((s.1 26) + (1 : Int32))) fun s1 => if (s1.1 24) = (48 : Int32) then (if (s1.1 25) ≤ (99999 : Int32) then (Reader_take_j44 s1) else ((f_Reader_refuse (2 : Int32) s1).bind fun s2 => some s2)) else (Reader_take_j44 s1)) else (some s)
theorem f_Reader_take_w {l : Launch} {D : va_G} {cI cZ cJ : ClassId} {ad : Nat → Nat} (s : MS) {Q : Int32 → MS → Prop} {Post : MS → Prop} (hR : ∀ (s9 : MS), Post (s9) → Q 0 s9) (h : Ok (f_Reader_take s) Post) : G (XX l D cI cZ cJ ad) "SmallHarbour$Reader" b_Reader_take 1 none 3 0 [(0, .ref (ad 10))] [] s Q := by
  unfold f_Reader_take at h
  refine G_aload_n d_Reader_take_0 rfl 0 rfl ?_
  refine gx_Reader_flaw d_Reader_take_1 w_285 ?_
  refine G_if_eq (tgt := 8) d_Reader_take_4 (by decide) (fun c => ?_) (fun c => ?_)
  · replace h := Ok_t c h
    refine G_aload_n d_Reader_take_8 rfl 0 rfl ?_
    refine G_dup d_Reader_take_9 rfl ?_
    refine gx_Reader_taken d_Reader_take_10 w_294 ?_
    refine G_iconst d_Reader_take_13 lt_iconst_1 ?_
    refine G_iadd d_Reader_take_14 ?_
    refine px_Reader_taken d_Reader_take_15 w_294 (fun s1 e => ?_)
    replace h := Ok_bnd h s1 e
    clear e
    refine G_aload_n d_Reader_take_18 rfl 0 rfl ?_
    refine gx_Reader_kind d_Reader_take_19 w_292 ?_
    refine G_bipush d_Reader_take_22 lt_bipush_48 ?_
    refine G_icmp_ne (tgt := 44) d_Reader_take_24 (by decide) (fun c => ?_) (fun c => ?_)
    · replace h := Ok_f c h
      refine Reader_take_j44_w s1 ?_ h
      · exact hR
    replace h := Ok_t c h
    refine G_aload_n d_Reader_take_27 rfl 0 rfl ?_
    refine gx_Reader_value d_Reader_take_28 w_293 ?_
    refine G_ldc d_Reader_take_31 w_791 ?_
    refine G_icmp_le (tgt := 44) d_Reader_take_33 (by decide) (fun c => ?_) (fun c => ?_)
    · replace h := Ok_t c h
      refine Reader_take_j44_w s1 ?_ h
      · exact hR
    replace h := Ok_f c h
    refine G_aload_n d_Reader_take_36 rfl 0 rfl ?_
    refine G_iconst d_Reader_take_37 lt_iconst_2 ?_
    refine G_callVv (st := []) (As := [.int (2 : Int32)]) (b := ad 10) d_Reader_take_38 mi_Reader_refuse w_792 10 rfl rfl mv_Reader_refuse rfl (Nat.le_of_ble_eq_true rfl) (by decide) (c_Reader_refuse (2 : Int32) s1 (Ok_bind h)) (fun s2 h => ?_)
    refine G_goto (tgt := 65) d_Reader_take_41 (by decide) ?_
    replace h := Ok_some h
    exact G_vret rfl d_Reader_take_65 (hR _ h)
  replace h := Ok_f c h
  replace h := Ok_some h
  exact G_vret rfl d_Reader_take_7 (hR _ h)
theorem c_Reader_take {l : Launch} {D : va_G} {cI cZ cJ : ClassId} {ad : Nat → Nat} (s : MS) {P : MS → Prop} (h : Ok (f_Reader_take  s) P) : Ct (XX l D cI cZ cJ ad) y_Reader_take b_Reader_take 1 none 3 [.ref (ad 10)] s (fun _ s9 => P s9) :=
  Ct.of mi_Reader_take (Nat.le_of_ble_eq_true rfl) (f_Reader_take_w  s (fun _ h => h) h)
-- Reader_expect
noncomputable def f_Reader_expect (a1 : Int32) (s : MS) : Option MS :=
  if (s.1 24) = a1 then ((f_Reader_take s).bind fun s2 => some s2) else ((f_Reader_refuse (1 : Int32) s).bind fun s1 => some s1)
theorem f_Reader_expect_w {l : Launch} {D : va_G} {cI cZ cJ : ClassId} {ad : Nat → Nat} (a1 : Int32) (s : MS) {Q : Int32 → MS → Prop} {Post : MS → Prop} (hR : ∀ (s9 : MS), Post (s9) → Q 0 s9) (h : Ok (f_Reader_expect a1 s) Post) : G (XX l D cI cZ cJ ad) "SmallHarbour$Reader" b_Reader_expect 2 none 4 0 [(0, .ref (ad 10)), (1, .int a1)] [] s Q := by
  unfold f_Reader_expect at h
  refine G_aload_n d_Reader_expect_0 rfl 0 rfl ?_
  refine gx_Reader_kind d_Reader_expect_1 w_292 ?_
  refine G_iload_n d_Reader_expect_4 rfl 1 rfl ?_
  refine G_icmp_ne (tgt := 15) d_Reader_expect_5 (by decide) (fun c => ?_) (fun c => ?_)
  · replace h := Ok_f c h
    refine G_aload_n d_Reader_expect_15 rfl 0 rfl ?_
    refine G_iconst d_Reader_expect_16 lt_iconst_1 ?_
    refine G_callVv (st := []) (As := [.int (1 : Int32)]) (b := ad 10) d_Reader_expect_17 mi_Reader_refuse w_792 10 rfl rfl mv_Reader_refuse rfl (Nat.le_of_ble_eq_true rfl) (by decide) (c_Reader_refuse (1 : Int32) s (Ok_bind h)) (fun s1 h => ?_)
    replace h := Ok_some h
    exact G_vret rfl d_Reader_expect_20 (hR _ h)
  replace h := Ok_t c h
  refine G_aload_n d_Reader_expect_8 rfl 0 rfl ?_
  refine G_callVv (st := []) (As := []) (b := ad 10) d_Reader_expect_9 mi_Reader_take w_787 10 rfl rfl mv_Reader_take rfl (Nat.le_of_ble_eq_true rfl) (by decide) (c_Reader_take  s (Ok_bind h)) (fun s2 h => ?_)
  refine G_goto (tgt := 20) d_Reader_expect_12 (by decide) ?_
  replace h := Ok_some h
  exact G_vret rfl d_Reader_expect_20 (hR _ h)
theorem c_Reader_expect {l : Launch} {D : va_G} {cI cZ cJ : ClassId} {ad : Nat → Nat} (a1 : Int32) (s : MS) {P : MS → Prop} (h : Ok (f_Reader_expect a1 s) P) : Ct (XX l D cI cZ cJ ad) y_Reader_expect b_Reader_expect 2 none 4 [.ref (ad 10), .int a1] s (fun _ s9 => P s9) :=
  Ct.of mi_Reader_expect (Nat.le_of_ble_eq_true rfl) (f_Reader_expect_w a1 s (fun _ h => h) h)
-- Reader_openOne
noncomputable def Reader_openOne_j14 (s : MS) : Option MS :=
  bnd (pf s 27 ((s.1 27) + (1 : Int32))) fun s1 => (f_Reader_take s1).bind fun s2 => some s2
theorem Reader_openOne_j14_w {l : Launch} {D : va_G} {cI cZ cJ : ClassId} {ad : Nat → Nat} (s : MS) {Q : Int32 → MS → Prop} {Post : MS → Prop} (hR : ∀ (s9 : MS), Post (s9) → Q 0 s9) (h : Ok (Reader_openOne_j14 s) Post) : G (XX l D cI cZ cJ ad) "SmallHarbour$Reader" b_Reader_openOne 1 none 4 14 [(0, .ref (ad 10))] [] s Q := by
  unfold Reader_openOne_j14 at h
  refine G_aload_n d_Reader_openOne_14 rfl 0 rfl ?_
  refine G_dup d_Reader_openOne_15 rfl ?_
  refine gx_Reader_open d_Reader_openOne_16 w_295 ?_
  refine G_iconst d_Reader_openOne_19 lt_iconst_1 ?_
  refine G_iadd d_Reader_openOne_20 ?_
  refine px_Reader_open d_Reader_openOne_21 w_295 (fun s1 e => ?_)
  replace h := Ok_bnd h s1 e
  clear e
  refine G_aload_n d_Reader_openOne_24 rfl 0 rfl ?_
  refine G_callVv (st := []) (As := []) (b := ad 10) d_Reader_openOne_25 mi_Reader_take w_787 10 rfl rfl mv_Reader_take rfl (Nat.le_of_ble_eq_true rfl) (by decide) (c_Reader_take  s1 (Ok_bind h)) (fun s2 h => ?_)
  replace h := Ok_some h
  exact G_vret rfl d_Reader_openOne_28 (hR _ h)
noncomputable def f_Reader_openOne (s : MS) : Option MS :=
  if (s.1 27) < (10 : Int32) then (Reader_openOne_j14 s) else ((f_Reader_refuse (3 : Int32) s).bind fun s1 => Reader_openOne_j14 s1)
theorem f_Reader_openOne_w {l : Launch} {D : va_G} {cI cZ cJ : ClassId} {ad : Nat → Nat} (s : MS) {Q : Int32 → MS → Prop} {Post : MS → Prop} (hR : ∀ (s9 : MS), Post (s9) → Q 0 s9) (h : Ok (f_Reader_openOne s) Post) : G (XX l D cI cZ cJ ad) "SmallHarbour$Reader" b_Reader_openOne 1 none 4 0 [(0, .ref (ad 10))] [] s Q := by
  unfold f_Reader_openOne at h
  refine G_aload_n d_Reader_openOne_0 rfl 0 rfl ?_
  refine gx_Reader_open d_Reader_openOne_1 w_295 ?_
  refine G_bipush d_Reader_openOne_4 lt_bipush_10 ?_
  refine G_icmp_lt (tgt := 14) d_Reader_openOne_6 (by decide) (fun c => ?_) (fun c => ?_)
  · replace h := Ok_t c h
    refine Reader_openOne_j14_w s ?_ h
    · exact hR
  replace h := Ok_f c h
  refine G_aload_n d_Reader_openOne_9 rfl 0 rfl ?_
  refine G_iconst d_Reader_openOne_10 lt_iconst_3 ?_
  refine G_callVv (st := []) (As := [.int (3 : Int32)]) (b := ad 10) d_Reader_openOne_11 mi_Reader_refuse w_792 10 rfl rfl mv_Reader_refuse rfl (Nat.le_of_ble_eq_true rfl) (by decide) (c_Reader_refuse (3 : Int32) s (Ok_bind h)) (fun s1 h => ?_)
  refine Reader_openOne_j14_w s1 ?_ h
  · exact hR
theorem c_Reader_openOne {l : Launch} {D : va_G} {cI cZ cJ : ClassId} {ad : Nat → Nat} (s : MS) {P : MS → Prop} (h : Ok (f_Reader_openOne  s) P) : Ct (XX l D cI cZ cJ ad) y_Reader_openOne b_Reader_openOne 1 none 4 [.ref (ad 10)] s (fun _ s9 => P s9) :=
  Ct.of mi_Reader_openOne (Nat.le_of_ble_eq_true rfl) (f_Reader_openOne_w  s (fun _ h => h) h)
-- Reader_isOfT
noncomputable def f_Reader_isOfT (a1 : Int32) : Option Int32 :=
  if a1 = (42 : Int32) then (some (1 : Int32)) else (if a1 = (47 : Int32) then (some (1 : Int32)) else (if a1 = (37 : Int32) then (some (1 : Int32)) else (some (0 : Int32))))
theorem f_Reader_isOfT_w {l : Launch} {D : va_G} {cI cZ cJ : ClassId} {ad : Nat → Nat} (a1 : Int32) (s : MS) {Q : Int32 → MS → Prop} {Post : Int32 → Prop} (hR : ∀ (r9 : Int32), Post (r9) → Q r9 s) (h : Ok (f_Reader_isOfT a1) Post) : G (XX l D cI cZ cJ ad) "SmallHarbour$Reader" b_Reader_isOfT 1 (some .boolean) 0 0 [(0, .int a1)] [] s Q := by
  unfold f_Reader_isOfT at h
  refine G_iload_n d_Reader_isOfT_0 rfl 0 rfl ?_
  refine G_bipush d_Reader_isOfT_1 lt_bipush_42 ?_
  refine G_icmp_eq (tgt := 18) d_Reader_isOfT_3 (by decide) (fun c => ?_) (fun c => ?_)
  · replace h := Ok_t c h
    refine G_iconst d_Reader_isOfT_18 lt_iconst_1 ?_
    refine G_goto (tgt := 23) d_Reader_isOfT_19 (by decide) ?_
    replace h := Ok_some h
    exact G_iret rfl rfl d_Reader_isOfT_23 (hR _ h)
  replace h := Ok_f c h
  refine G_iload_n d_Reader_isOfT_6 rfl 0 rfl ?_
  refine G_bipush d_Reader_isOfT_7 lt_bipush_47 ?_
  refine G_icmp_eq (tgt := 18) d_Reader_isOfT_9 (by decide) (fun c => ?_) (fun c => ?_)
  · replace h := Ok_t c h
    refine G_iconst d_Reader_isOfT_18 lt_iconst_1 ?_
    refine G_goto (tgt := 23) d_Reader_isOfT_19 (by decide) ?_
    replace h := Ok_some h
    exact G_iret rfl rfl d_Reader_isOfT_23 (hR _ h)
  replace h := Ok_f c h
  refine G_iload_n d_Reader_isOfT_12 rfl 0 rfl ?_
  refine G_bipush d_Reader_isOfT_13 lt_bipush_37 ?_
  refine G_icmp_ne (tgt := 22) d_Reader_isOfT_15 (by decide) (fun c => ?_) (fun c => ?_)
  · replace h := Ok_f c h
    refine G_iconst d_Reader_isOfT_22 lt_iconst_0 ?_
    replace h := Ok_some h
    exact G_iret rfl rfl d_Reader_isOfT_23 (hR _ h)
  replace h := Ok_t c h
  refine G_iconst d_Reader_isOfT_18 lt_iconst_1 ?_
  refine G_goto (tgt := 23) d_Reader_isOfT_19 (by decide) ?_
  replace h := Ok_some h
  exact G_iret rfl rfl d_Reader_isOfT_23 (hR _ h)
theorem c_Reader_isOfT {l : Launch} {D : va_G} {cI cZ cJ : ClassId} {ad : Nat → Nat} (a1 : Int32) (s : MS) {P : Int32 → Prop} (h : Ok (f_Reader_isOfT a1) P) : Ct (XX l D cI cZ cJ ad) y_Reader_isOfT b_Reader_isOfT 1 (some .boolean) 0 [.int a1] s (fun r9 s9 => s9 = s ∧ P r9) :=
  Ct.of mi_Reader_isOfT (Nat.le_of_ble_eq_true rfl) (f_Reader_isOfT_w a1 s (fun _ h => ⟨rfl, h⟩) h)
-- Reader_readU
noncomputable def Reader_readU_j87 (rc : Nat → MS → Option MS) (s : MS) : Option MS :=
  (f_Reader_emit (-(s.1 24)) s).bind fun s1 => (f_Reader_take s1).bind fun s2 => some s2
theorem Reader_readU_j87_w {l : Launch} {D : va_G} {cI cZ cJ : ClassId} {ad : Nat → Nat} (rc : Nat → MS → Option MS) {d d2 : Nat} (hd : d2 + 1 ≤ d) (hd0 : 5 ≤ d) (hrc0 : ∀ (s : MS) (P : MS → Prop), Ok (rc 0 s) P → Ct (XX l D cI cZ cJ ad) y_Reader_readE b_Reader_readE 1 none d2 [.ref (ad 10)] s (fun _ s9 => P s9)) (hrc1 : ∀ (s : MS) (P : MS → Prop), Ok (rc 1 s) P → Ct (XX l D cI cZ cJ ad) y_Reader_readC b_Reader_readC 2 none d2 [.ref (ad 10)] s (fun _ s9 => P s9)) (hrc2 : ∀ (s : MS) (P : MS → Prop), Ok (rc 2 s) P → Ct (XX l D cI cZ cJ ad) y_Reader_readS b_Reader_readS 3 none d2 [.ref (ad 10)] s (fun _ s9 => P s9)) (hrc3 : ∀ (s : MS) (P : MS → Prop), Ok (rc 3 s) P → Ct (XX l D cI cZ cJ ad) y_Reader_readT b_Reader_readT 3 none d2 [.ref (ad 10)] s (fun _ s9 => P s9)) (hrc4 : ∀ (s : MS) (P : MS → Prop), Ok (rc 4 s) P → Ct (XX l D cI cZ cJ ad) y_Reader_readU b_Reader_readU 1 none d2 [.ref (ad 10)] s (fun _ s9 => P s9)) (s : MS) {Q : Int32 → MS → Prop} {Post : MS → Prop} (hR : ∀ (s9 : MS), Post (s9) → Q 0 s9) (h : Ok (Reader_readU_j87 rc s) Post) : G (XX l D cI cZ cJ ad) "SmallHarbour$Reader" b_Reader_readU 1 none d 87 [(0, .ref (ad 10))] [] s Q := by
  unfold Reader_readU_j87 at h
  refine G_aload_n d_Reader_readU_87 rfl 0 rfl ?_
  refine G_aload_n d_Reader_readU_88 rfl 0 rfl ?_
  refine gx_Reader_kind d_Reader_readU_89 w_292 ?_
  refine G_ineg d_Reader_readU_92 ?_
  refine G_callVv (st := []) (As := [.int (-(s.1 24))]) (b := ad 10) d_Reader_readU_93 mi_Reader_emit w_783 10 rfl rfl mv_Reader_emit rfl (Nat.le_of_ble_eq_true rfl) (by omega) (c_Reader_emit (-(s.1 24)) s (Ok_bind h)) (fun s1 h => ?_)
  refine G_aload_n d_Reader_readU_96 rfl 0 rfl ?_
  refine G_callVv (st := []) (As := []) (b := ad 10) d_Reader_readU_97 mi_Reader_take w_787 10 rfl rfl mv_Reader_take rfl (Nat.le_of_ble_eq_true rfl) (by omega) (c_Reader_take  s1 (Ok_bind h)) (fun s2 h => ?_)
  refine G_goto (tgt := 162) d_Reader_readU_100 (by decide) ?_
  replace h := Ok_some h
  exact G_vret rfl d_Reader_readU_162 (hR _ h)
noncomputable def b_f_Reader_readU (rc : Nat → MS → Option MS) (s : MS) : Option MS :=
  if (s.1 20) = 0 then (bnd (s.1 24) fun v1 => if v1 = (40 : Int32) then ((f_Reader_openOne s).bind fun s2 => (rc 0 s2).bind fun s3 => (f_Reader_expect (41 : Int32) s3).bind fun s4 => bnd (pf s4 27 ((s4.1 27) - (1 : Int32))) fun s5 => some s5) else (if v1 = (45 : Int32) then ((f_Reader_openOne s).bind fun s6 => (rc 4 s6).bind fun s7 => (f_Reader_emit (-126 : Int32) s7).bind fun s8 => bnd (pf s8 27 ((s8.1 27) - (1 : Int32))) fun s9 => some s9) else (if v1 = (48 : Int32) then ((f_Reader_emit (s.1 25) s).bind fun s10 => (f_Reader_take s10).bind fun s11 => some s11) else (if v1 = (100 : Int32) then (Reader_readU_j87 rc s) else (if v1 = (102 : Int32) then (Reader_readU_j87 rc s) else (if v1 = (110 : Int32) then (Reader_readU_j87 rc s) else ((f_Reader_refuse (1 : Int32) s).bind fun s12 => some s12))))))) else (some s)
theorem b_f_Reader_readU_w {l : Launch} {D : va_G} {cI cZ cJ : ClassId} {ad : Nat → Nat} (rc : Nat → MS → Option MS) {d d2 : Nat} (hd : d2 + 1 ≤ d) (hd0 : 5 ≤ d) (hrc0 : ∀ (s : MS) (P : MS → Prop), Ok (rc 0 s) P → Ct (XX l D cI cZ cJ ad) y_Reader_readE b_Reader_readE 1 none d2 [.ref (ad 10)] s (fun _ s9 => P s9)) (hrc1 : ∀ (s : MS) (P : MS → Prop), Ok (rc 1 s) P → Ct (XX l D cI cZ cJ ad) y_Reader_readC b_Reader_readC 2 none d2 [.ref (ad 10)] s (fun _ s9 => P s9)) (hrc2 : ∀ (s : MS) (P : MS → Prop), Ok (rc 2 s) P → Ct (XX l D cI cZ cJ ad) y_Reader_readS b_Reader_readS 3 none d2 [.ref (ad 10)] s (fun _ s9 => P s9)) (hrc3 : ∀ (s : MS) (P : MS → Prop), Ok (rc 3 s) P → Ct (XX l D cI cZ cJ ad) y_Reader_readT b_Reader_readT 3 none d2 [.ref (ad 10)] s (fun _ s9 => P s9)) (hrc4 : ∀ (s : MS) (P : MS → Prop), Ok (rc 4 s) P → Ct (XX l D cI cZ cJ ad) y_Reader_readU b_Reader_readU 1 none d2 [.ref (ad 10)] s (fun _ s9 => P s9)) (s : MS) {Q : Int32 → MS → Prop} {Post : MS → Prop} (hR : ∀ (s9 : MS), Post (s9) → Q 0 s9) (h : Ok (b_f_Reader_readU rc s) Post) : G (XX l D cI cZ cJ ad) "SmallHarbour$Reader" b_Reader_readU 1 none d 0 [(0, .ref (ad 10))] [] s Q := by
  unfold b_f_Reader_readU at h
  refine G_aload_n d_Reader_readU_0 rfl 0 rfl ?_
  refine gx_Reader_flaw d_Reader_readU_1 w_285 ?_
  refine G_if_eq (tgt := 8) d_Reader_readU_4 (by decide) (fun c => ?_) (fun c => ?_)
  · replace h := Ok_t c h
    refine G_aload_n d_Reader_readU_8 rfl 0 rfl ?_
    refine gx_Reader_kind d_Reader_readU_9 w_292 ?_
    refine G_topi (fun v1 e => ?_)
    replace h := Ok_bnd h v1 e
    clear e
    by_cases c0 : v1 = (40 : Int32)
    · replace h := Ok_t c0 h
      refine G_lookup (tgt := 130) d_Reader_readU_12 (by decide) (by rw [c0]; try decide) (by decide) ?_
      refine G_aload_n d_Reader_readU_130 rfl 0 rfl ?_
      refine G_callVv (st := []) (As := []) (b := ad 10) d_Reader_readU_131 mi_Reader_openOne w_796 10 rfl rfl mv_Reader_openOne rfl (Nat.le_of_ble_eq_true rfl) (by omega) (c_Reader_openOne  s (Ok_bind h)) (fun s2 h => ?_)
      refine G_aload_n d_Reader_readU_134 rfl 0 rfl ?_
      refine G_callVv (st := []) (As := []) (b := ad 10) d_Reader_readU_135 mi_Reader_readE w_763 10 rfl rfl mv_Reader_readE rfl (Nat.le_of_ble_eq_true rfl) hd (hrc0 s2 _ (Ok_bind h)) (fun s3 h => ?_)
      refine G_aload_n d_Reader_readU_138 rfl 0 rfl ?_
      refine G_bipush d_Reader_readU_139 lt_bipush_41 ?_
      refine G_callVv (st := []) (As := [.int (41 : Int32)]) (b := ad 10) d_Reader_readU_141 mi_Reader_expect w_800 10 rfl rfl mv_Reader_expect rfl (Nat.le_of_ble_eq_true rfl) (by omega) (c_Reader_expect (41 : Int32) s3 (Ok_bind h)) (fun s4 h => ?_)
      refine G_aload_n d_Reader_readU_144 rfl 0 rfl ?_
      refine G_dup d_Reader_readU_145 rfl ?_
      refine gx_Reader_open d_Reader_readU_146 w_295 ?_
      refine G_iconst d_Reader_readU_149 lt_iconst_1 ?_
      refine G_isub d_Reader_readU_150 ?_
      refine px_Reader_open d_Reader_readU_151 w_295 (fun s5 e => ?_)
      replace h := Ok_bnd h s5 e
      clear e
      refine G_goto (tgt := 162) d_Reader_readU_154 (by decide) ?_
      replace h := Ok_some h
      exact G_vret rfl d_Reader_readU_162 (hR _ h)
    replace h := Ok_f c0 h
    have n0 := ne_ti (z := 40) (by decide) c0
    by_cases c1 : v1 = (45 : Int32)
    · replace h := Ok_t c1 h
      refine G_lookup (tgt := 103) d_Reader_readU_12 (by decide) (by rw [c1]; try decide) (by decide) ?_
      refine G_aload_n d_Reader_readU_103 rfl 0 rfl ?_
      refine G_callVv (st := []) (As := []) (b := ad 10) d_Reader_readU_104 mi_Reader_openOne w_796 10 rfl rfl mv_Reader_openOne rfl (Nat.le_of_ble_eq_true rfl) (by omega) (c_Reader_openOne  s (Ok_bind h)) (fun s6 h => ?_)
      refine G_aload_n d_Reader_readU_107 rfl 0 rfl ?_
      refine G_callVv (st := []) (As := []) (b := ad 10) d_Reader_readU_108 mi_Reader_readU w_779 10 rfl rfl mv_Reader_readU rfl (Nat.le_of_ble_eq_true rfl) hd (hrc4 s6 _ (Ok_bind h)) (fun s7 h => ?_)
      refine G_aload_n d_Reader_readU_111 rfl 0 rfl ?_
      refine G_bipush d_Reader_readU_112 lt_bipush_m126 ?_
      refine G_callVv (st := []) (As := [.int (-126 : Int32)]) (b := ad 10) d_Reader_readU_114 mi_Reader_emit w_783 10 rfl rfl mv_Reader_emit rfl (Nat.le_of_ble_eq_true rfl) (by omega) (c_Reader_emit (-126 : Int32) s7 (Ok_bind h)) (fun s8 h => ?_)
      refine G_aload_n d_Reader_readU_117 rfl 0 rfl ?_
      refine G_dup d_Reader_readU_118 rfl ?_
      refine gx_Reader_open d_Reader_readU_119 w_295 ?_
      refine G_iconst d_Reader_readU_122 lt_iconst_1 ?_
      refine G_isub d_Reader_readU_123 ?_
      refine px_Reader_open d_Reader_readU_124 w_295 (fun s9 e => ?_)
      replace h := Ok_bnd h s9 e
      clear e
      refine G_goto (tgt := 162) d_Reader_readU_127 (by decide) ?_
      replace h := Ok_some h
      exact G_vret rfl d_Reader_readU_162 (hR _ h)
    replace h := Ok_f c1 h
    have n1 := ne_ti (z := 45) (by decide) c1
    by_cases c2 : v1 = (48 : Int32)
    · replace h := Ok_t c2 h
      refine G_lookup (tgt := 72) d_Reader_readU_12 (by decide) (by rw [c2]; try decide) (by decide) ?_
      refine G_aload_n d_Reader_readU_72 rfl 0 rfl ?_
      refine G_aload_n d_Reader_readU_73 rfl 0 rfl ?_
      refine gx_Reader_value d_Reader_readU_74 w_293 ?_
      refine G_callVv (st := []) (As := [.int (s.1 25)]) (b := ad 10) d_Reader_readU_77 mi_Reader_emit w_783 10 rfl rfl mv_Reader_emit rfl (Nat.le_of_ble_eq_true rfl) (by omega) (c_Reader_emit (s.1 25) s (Ok_bind h)) (fun s10 h => ?_)
      refine G_aload_n d_Reader_readU_80 rfl 0 rfl ?_
      refine G_callVv (st := []) (As := []) (b := ad 10) d_Reader_readU_81 mi_Reader_take w_787 10 rfl rfl mv_Reader_take rfl (Nat.le_of_ble_eq_true rfl) (by omega) (c_Reader_take  s10 (Ok_bind h)) (fun s11 h => ?_)
      refine G_goto (tgt := 162) d_Reader_readU_84 (by decide) ?_
      replace h := Ok_some h
      exact G_vret rfl d_Reader_readU_162 (hR _ h)
    replace h := Ok_f c2 h
    have n2 := ne_ti (z := 48) (by decide) c2
    by_cases c3 : v1 = (100 : Int32)
    · replace h := Ok_t c3 h
      refine G_lookup (tgt := 87) d_Reader_readU_12 (by decide) (by rw [c3]; try decide) (by decide) ?_
      refine Reader_readU_j87_w rc hd hd0 hrc0 hrc1 hrc2 hrc3 hrc4 s ?_ h
      · exact hR
    replace h := Ok_f c3 h
    have n3 := ne_ti (z := 100) (by decide) c3
    by_cases c4 : v1 = (102 : Int32)
    · replace h := Ok_t c4 h
      refine G_lookup (tgt := 87) d_Reader_readU_12 (by decide) (by rw [c4]; try decide) (by decide) ?_
      refine Reader_readU_j87_w rc hd hd0 hrc0 hrc1 hrc2 hrc3 hrc4 s ?_ h
      · exact hR
    replace h := Ok_f c4 h
    have n4 := ne_ti (z := 102) (by decide) c4
    by_cases c5 : v1 = (110 : Int32)
    · replace h := Ok_t c5 h
      refine G_lookup (tgt := 87) d_Reader_readU_12 (by decide) (by rw [c5]; try decide) (by decide) ?_
      refine Reader_readU_j87_w rc hd hd0 hrc0 hrc1 hrc2 hrc3 hrc4 s ?_ h
      · exact hR
    replace h := Ok_f c5 h
    have n5 := ne_ti (z := 110) (by decide) c5
    refine G_lookup (off := 145) (tgt := 157) d_Reader_readU_12 (by decide) (by simp [Op.lookupswitch.offset, n0, n1, n2, n3, n4, n5]) (by decide) ?_
    refine G_aload_n d_Reader_readU_157 rfl 0 rfl ?_
    refine G_iconst d_Reader_readU_158 lt_iconst_1 ?_
    refine G_callVv (st := []) (As := [.int (1 : Int32)]) (b := ad 10) d_Reader_readU_159 mi_Reader_refuse w_792 10 rfl rfl mv_Reader_refuse rfl (Nat.le_of_ble_eq_true rfl) (by omega) (c_Reader_refuse (1 : Int32) s (Ok_bind h)) (fun s12 h => ?_)
    replace h := Ok_some h
    exact G_vret rfl d_Reader_readU_162 (hR _ h)
  replace h := Ok_f c h
  replace h := Ok_some h
  exact G_vret rfl d_Reader_readU_7 (hR _ h)
theorem b_c_Reader_readU {l : Launch} {D : va_G} {cI cZ cJ : ClassId} {ad : Nat → Nat} (rc : Nat → MS → Option MS) {d d2 : Nat} (hd : d2 + 1 ≤ d) (hd0 : 5 ≤ d) (hrc0 : ∀ (s : MS) (P : MS → Prop), Ok (rc 0 s) P → Ct (XX l D cI cZ cJ ad) y_Reader_readE b_Reader_readE 1 none d2 [.ref (ad 10)] s (fun _ s9 => P s9)) (hrc1 : ∀ (s : MS) (P : MS → Prop), Ok (rc 1 s) P → Ct (XX l D cI cZ cJ ad) y_Reader_readC b_Reader_readC 2 none d2 [.ref (ad 10)] s (fun _ s9 => P s9)) (hrc2 : ∀ (s : MS) (P : MS → Prop), Ok (rc 2 s) P → Ct (XX l D cI cZ cJ ad) y_Reader_readS b_Reader_readS 3 none d2 [.ref (ad 10)] s (fun _ s9 => P s9)) (hrc3 : ∀ (s : MS) (P : MS → Prop), Ok (rc 3 s) P → Ct (XX l D cI cZ cJ ad) y_Reader_readT b_Reader_readT 3 none d2 [.ref (ad 10)] s (fun _ s9 => P s9)) (hrc4 : ∀ (s : MS) (P : MS → Prop), Ok (rc 4 s) P → Ct (XX l D cI cZ cJ ad) y_Reader_readU b_Reader_readU 1 none d2 [.ref (ad 10)] s (fun _ s9 => P s9)) (s : MS) {P : MS → Prop} (h : Ok (b_f_Reader_readU rc  s) P) : Ct (XX l D cI cZ cJ ad) y_Reader_readU b_Reader_readU 1 none d [.ref (ad 10)] s (fun _ s9 => P s9) :=
  Ct.of mi_Reader_readU (Nat.le_of_ble_eq_true rfl) (b_f_Reader_readU_w rc hd hd0 hrc0 hrc1 hrc2 hrc3 hrc4  s (fun _ h => h) h)
-- Reader_readT
noncomputable def Reader_readT_l6 (rc : Nat → MS → Option MS) (x1 : Int32) (s : MS) : Option ((Int32 × MS) ⊕ MS) :=
  if (60 : Int32) ≤ x1 then (xit (some s)) else (if (s.1 20) = 0 then ((f_Reader_isOfT (s.1 24)).bind fun v1 => if v1 = 0 then (xit (some s)) else (bnd (s.1 24) fun v2 => (f_Reader_take s).bind fun s3 => (rc 4 s3).bind fun s4 => (f_Reader_emit (-v2) s4).bind fun s5 => bnd (x1 + (1 : Int32)) fun v6 => some (.inl (v6, s5)))) else (xit (some s)))
theorem Reader_readT_l6_w {l : Launch} {D : va_G} {cI cZ cJ : ClassId} {ad : Nat → Nat} (rc : Nat → MS → Option MS) {d d2 : Nat} (hd : d2 + 1 ≤ d) (hd0 : 5 ≤ d) (hrc0 : ∀ (s : MS) (P : MS → Prop), Ok (rc 0 s) P → Ct (XX l D cI cZ cJ ad) y_Reader_readE b_Reader_readE 1 none d2 [.ref (ad 10)] s (fun _ s9 => P s9)) (hrc1 : ∀ (s : MS) (P : MS → Prop), Ok (rc 1 s) P → Ct (XX l D cI cZ cJ ad) y_Reader_readC b_Reader_readC 2 none d2 [.ref (ad 10)] s (fun _ s9 => P s9)) (hrc2 : ∀ (s : MS) (P : MS → Prop), Ok (rc 2 s) P → Ct (XX l D cI cZ cJ ad) y_Reader_readS b_Reader_readS 3 none d2 [.ref (ad 10)] s (fun _ s9 => P s9)) (hrc3 : ∀ (s : MS) (P : MS → Prop), Ok (rc 3 s) P → Ct (XX l D cI cZ cJ ad) y_Reader_readT b_Reader_readT 3 none d2 [.ref (ad 10)] s (fun _ s9 => P s9)) (hrc4 : ∀ (s : MS) (P : MS → Prop), Ok (rc 4 s) P → Ct (XX l D cI cZ cJ ad) y_Reader_readU b_Reader_readU 1 none d2 [.ref (ad 10)] s (fun _ s9 => P s9)) (x1 : Int32) (s : MS) {Q : Int32 → MS → Prop} {Post : ((Int32 × MS) ⊕ MS) → Prop} (hR : ∀ (s9 : MS), Post (.inr (s9)) → Q 0 s9) (hL6 : ∀ (z1 : Int32) (s9 : MS), Post (.inl (z1, s9)) → G (XX l D cI cZ cJ ad) "SmallHarbour$Reader" b_Reader_readT 3 none d 6 [(0, .ref (ad 10)), (1, .int z1)] [] s9 Q) (h : Ok (Reader_readT_l6 rc x1 s) Post) : G (XX l D cI cZ cJ ad) "SmallHarbour$Reader" b_Reader_readT 3 none d 6 [(0, .ref (ad 10)), (1, .int x1)] [] s Q := by
  unfold Reader_readT_l6 at h
  refine G_iload_n d_Reader_readT_6 rfl 1 rfl ?_
  refine G_bipush d_Reader_readT_7 lt_bipush_60 ?_
  refine G_icmp_ge (tgt := 54) d_Reader_readT_9 (by decide) (fun c => ?_) (fun c => ?_)
  · replace h := Ok_t c h
    replace h := Ok_xit h
    replace h := Ok_some h
    exact G_vret rfl d_Reader_readT_54 (hR _ h)
  replace h := Ok_f c h
  refine G_aload_n d_Reader_readT_12 rfl 0 rfl ?_
  refine gx_Reader_flaw d_Reader_readT_13 w_285 ?_
  refine G_if_ne (tgt := 54) d_Reader_readT_16 (by decide) (fun c => ?_) (fun c => ?_)
  · replace h := Ok_f c h
    replace h := Ok_xit h
    replace h := Ok_some h
    exact G_vret rfl d_Reader_readT_54 (hR _ h)
  replace h := Ok_t c h
  refine G_aload_n d_Reader_readT_19 rfl 0 rfl ?_
  refine gx_Reader_kind d_Reader_readT_20 w_292 ?_
  refine G_callSp (st := []) (As := [.int (s.1 24)]) d_Reader_readT_23 mi_Reader_isOfT w_804 w_805 rfl (Nat.le_of_ble_eq_true rfl) (by omega) (c_Reader_isOfT (s.1 24) s (Ok_bind h)) (fun v1 h hnv1 => ?_)
  refine G_if_eq (tgt := 54) d_Reader_readT_26 (by decide) (fun c => ?_) (fun c => ?_)
  · replace h := Ok_t c h
    replace h := Ok_xit h
    replace h := Ok_some h
    exact G_vret rfl d_Reader_readT_54 (hR _ h)
  replace h := Ok_f c h
  refine G_aload_n d_Reader_readT_29 rfl 0 rfl ?_
  refine gx_Reader_kind d_Reader_readT_30 w_292 ?_
  refine G_istore_n d_Reader_readT_33 rfl (Nat.le_of_ble_eq_true rfl) (fun x => [(2, .int x), (0, .ref (ad 10)), (1, .int x1)]) (fun _ => rfl) (fun v2 e => ?_)
  replace h := Ok_bnd h v2 e.symm
  clear e
  refine G_aload_n d_Reader_readT_34 rfl 1 rfl ?_
  refine G_callVv (st := []) (As := []) (b := ad 10) d_Reader_readT_35 mi_Reader_take w_787 10 rfl rfl mv_Reader_take rfl (Nat.le_of_ble_eq_true rfl) (by omega) (c_Reader_take  s (Ok_bind h)) (fun s3 h => ?_)
  refine G_aload_n d_Reader_readT_38 rfl 1 rfl ?_
  refine G_callVv (st := []) (As := []) (b := ad 10) d_Reader_readT_39 mi_Reader_readU w_779 10 rfl rfl mv_Reader_readU rfl (Nat.le_of_ble_eq_true rfl) hd (hrc4 s3 _ (Ok_bind h)) (fun s4 h => ?_)
  refine G_aload_n d_Reader_readT_42 rfl 1 rfl ?_
  refine G_iload_n d_Reader_readT_43 rfl 0 rfl ?_
  refine G_ineg d_Reader_readT_44 ?_
  refine G_callVv (st := []) (As := [.int (-v2)]) (b := ad 10) d_Reader_readT_45 mi_Reader_emit w_783 10 rfl rfl mv_Reader_emit rfl (Nat.le_of_ble_eq_true rfl) (by omega) (c_Reader_emit (-v2) s4 (Ok_bind h)) (fun s5 h => ?_)
  refine G_iinc d_Reader_readT_48 2 rfl lt_iconst_1 rfl (Nat.le_of_ble_eq_true rfl) (fun x => [(1, .int x), (2, .int v2), (0, .ref (ad 10))]) (fun _ => rfl) (fun v6 e => ?_)
  replace h := Ok_bnd h v6 e
  clear e
  refine G_goto (tgt := 6) d_Reader_readT_51 (by decide) ?_
  refine G_lv [2, 0] rfl ?_
  replace h := Ok_some h
  exact hL6 v6 s5 h
noncomputable def b_f_Reader_readT (rc : Nat → MS → Option MS) (s : MS) : Option MS :=
  (rc 4 s).bind fun s1 => loop (fun z => Reader_readT_l6 rc z.1 z.2) ((0 : Int32), s1)
theorem b_f_Reader_readT_w {l : Launch} {D : va_G} {cI cZ cJ : ClassId} {ad : Nat → Nat} (rc : Nat → MS → Option MS) {d d2 : Nat} (hd : d2 + 1 ≤ d) (hd0 : 5 ≤ d) (hrc0 : ∀ (s : MS) (P : MS → Prop), Ok (rc 0 s) P → Ct (XX l D cI cZ cJ ad) y_Reader_readE b_Reader_readE 1 none d2 [.ref (ad 10)] s (fun _ s9 => P s9)) (hrc1 : ∀ (s : MS) (P : MS → Prop), Ok (rc 1 s) P → Ct (XX l D cI cZ cJ ad) y_Reader_readC b_Reader_readC 2 none d2 [.ref (ad 10)] s (fun _ s9 => P s9)) (hrc2 : ∀ (s : MS) (P : MS → Prop), Ok (rc 2 s) P → Ct (XX l D cI cZ cJ ad) y_Reader_readS b_Reader_readS 3 none d2 [.ref (ad 10)] s (fun _ s9 => P s9)) (hrc3 : ∀ (s : MS) (P : MS → Prop), Ok (rc 3 s) P → Ct (XX l D cI cZ cJ ad) y_Reader_readT b_Reader_readT 3 none d2 [.ref (ad 10)] s (fun _ s9 => P s9)) (hrc4 : ∀ (s : MS) (P : MS → Prop), Ok (rc 4 s) P → Ct (XX l D cI cZ cJ ad) y_Reader_readU b_Reader_readU 1 none d2 [.ref (ad 10)] s (fun _ s9 => P s9)) (s : MS) {Q : Int32 → MS → Prop} {Post : MS → Prop} (hR : ∀ (s9 : MS), Post (s9) → Q 0 s9) (h : Ok (b_f_Reader_readT rc s) Post) : G (XX l D cI cZ cJ ad) "SmallHarbour$Reader" b_Reader_readT 3 none d 0 [(0, .ref (ad 10))] [] s Q := by
  unfold b_f_Reader_readT at h
  refine G_aload_n d_Reader_readT_0 rfl 0 rfl ?_
  refine G_callVv (st := []) (As := []) (b := ad 10) d_Reader_readT_1 mi_Reader_readU w_779 10 rfl rfl mv_Reader_readU rfl (Nat.le_of_ble_eq_true rfl) hd (hrc4 s _ (Ok_bind h)) (fun s1 h => ?_)
  refine G_iconst d_Reader_readT_4 lt_iconst_0 ?_
  refine G_istore_n d_Reader_readT_5 rfl (Nat.le_of_ble_eq_true rfl) (fun x => [(1, .int x), (0, .ref (ad 10))]) (fun _ => rfl) (fun x e => ?_)
  subst e
  refine G_lv [1, 0] rfl ?_
  refine G_loop (J := (fun z => G (XX l D cI cZ cJ ad) "SmallHarbour$Reader" b_Reader_readT 3 none d 6 [(0, .ref (ad 10)), (1, .int (z.1))] [] z.2 Q)) (fun z h => ?_) ((0 : Int32), s1) h
  refine Reader_readT_l6_w rc hd hd0 hrc0 hrc1 hrc2 hrc3 hrc4 z.1 z.2 ?_ ?_ h
  · exact hR
  · exact (fun z1 s9 h => h)
theorem b_c_Reader_readT {l : Launch} {D : va_G} {cI cZ cJ : ClassId} {ad : Nat → Nat} (rc : Nat → MS → Option MS) {d d2 : Nat} (hd : d2 + 1 ≤ d) (hd0 : 5 ≤ d) (hrc0 : ∀ (s : MS) (P : MS → Prop), Ok (rc 0 s) P → Ct (XX l D cI cZ cJ ad) y_Reader_readE b_Reader_readE 1 none d2 [.ref (ad 10)] s (fun _ s9 => P s9)) (hrc1 : ∀ (s : MS) (P : MS → Prop), Ok (rc 1 s) P → Ct (XX l D cI cZ cJ ad) y_Reader_readC b_Reader_readC 2 none d2 [.ref (ad 10)] s (fun _ s9 => P s9)) (hrc2 : ∀ (s : MS) (P : MS → Prop), Ok (rc 2 s) P → Ct (XX l D cI cZ cJ ad) y_Reader_readS b_Reader_readS 3 none d2 [.ref (ad 10)] s (fun _ s9 => P s9)) (hrc3 : ∀ (s : MS) (P : MS → Prop), Ok (rc 3 s) P → Ct (XX l D cI cZ cJ ad) y_Reader_readT b_Reader_readT 3 none d2 [.ref (ad 10)] s (fun _ s9 => P s9)) (hrc4 : ∀ (s : MS) (P : MS → Prop), Ok (rc 4 s) P → Ct (XX l D cI cZ cJ ad) y_Reader_readU b_Reader_readU 1 none d2 [.ref (ad 10)] s (fun _ s9 => P s9)) (s : MS) {P : MS → Prop} (h : Ok (b_f_Reader_readT rc  s) P) : Ct (XX l D cI cZ cJ ad) y_Reader_readT b_Reader_readT 3 none d [.ref (ad 10)] s (fun _ s9 => P s9) :=
  Ct.of mi_Reader_readT (Nat.le_of_ble_eq_true rfl) (b_f_Reader_readT_w rc hd hd0 hrc0 hrc1 hrc2 hrc3 hrc4  s (fun _ h => h) h)
-- Reader_readS
noncomputable def Reader_readS_j37 (rc : Nat → MS → Option MS) (x1 : Int32) (s : MS) : Option ((Int32 × MS) ⊕ MS) :=
  bnd (s.1 24) fun v1 => (f_Reader_take s).bind fun s2 => (rc 3 s2).bind fun s3 => (f_Reader_emit (-v1) s3).bind fun s4 => bnd (x1 + (1 : Int32)) fun v5 => some (.inl (v5, s4))
theorem Reader_readS_j37_w {l : Launch} {D : va_G} {cI cZ cJ : ClassId} {ad : Nat → Nat} (rc : Nat → MS → Option MS) {d d2 : Nat} (hd : d2 + 1 ≤ d) (hd0 : 5 ≤ d) (hrc0 : ∀ (s : MS) (P : MS → Prop), Ok (rc 0 s) P → Ct (XX l D cI cZ cJ ad) y_Reader_readE b_Reader_readE 1 none d2 [.ref (ad 10)] s (fun _ s9 => P s9)) (hrc1 : ∀ (s : MS) (P : MS → Prop), Ok (rc 1 s) P → Ct (XX l D cI cZ cJ ad) y_Reader_readC b_Reader_readC 2 none d2 [.ref (ad 10)] s (fun _ s9 => P s9)) (hrc2 : ∀ (s : MS) (P : MS → Prop), Ok (rc 2 s) P → Ct (XX l D cI cZ cJ ad) y_Reader_readS b_Reader_readS 3 none d2 [.ref (ad 10)] s (fun _ s9 => P s9)) (hrc3 : ∀ (s : MS) (P : MS → Prop), Ok (rc 3 s) P → Ct (XX l D cI cZ cJ ad) y_Reader_readT b_Reader_readT 3 none d2 [.ref (ad 10)] s (fun _ s9 => P s9)) (hrc4 : ∀ (s : MS) (P : MS → Prop), Ok (rc 4 s) P → Ct (XX l D cI cZ cJ ad) y_Reader_readU b_Reader_readU 1 none d2 [.ref (ad 10)] s (fun _ s9 => P s9)) (x1 : Int32) (s : MS) {Q : Int32 → MS → Prop} {Post : ((Int32 × MS) ⊕ MS) → Prop} (hR : ∀ (s9 : MS), Post (.inr (s9)) → Q 0 s9) (hL6 : ∀ (z1 : Int32) (s9 : MS), Post (.inl (z1, s9)) → G (XX l D cI cZ cJ ad) "SmallHarbour$Reader" b_Reader_readS 3 none d 6 [(0, .ref (ad 10)), (1, .int z1)] [] s9 Q) (h : Ok (Reader_readS_j37 rc x1 s) Post) : G (XX l D cI cZ cJ ad) "SmallHarbour$Reader" b_Reader_readS 3 none d 37 [(0, .ref (ad 10)), (1, .int x1)] [] s Q := by
  unfold Reader_readS_j37 at h
  refine G_aload_n d_Reader_readS_37 rfl 0 rfl ?_
  refine gx_Reader_kind d_Reader_readS_38 w_292 ?_
  refine G_istore_n d_Reader_readS_41 rfl (Nat.le_of_ble_eq_true rfl) (fun x => [(2, .int x), (0, .ref (ad 10)), (1, .int x1)]) (fun _ => rfl) (fun v1 e => ?_)
  replace h := Ok_bnd h v1 e.symm
  clear e
  refine G_aload_n d_Reader_readS_42 rfl 1 rfl ?_
  refine G_callVv (st := []) (As := []) (b := ad 10) d_Reader_readS_43 mi_Reader_take w_787 10 rfl rfl mv_Reader_take rfl (Nat.le_of_ble_eq_true rfl) (by omega) (c_Reader_take  s (Ok_bind h)) (fun s2 h => ?_)
  refine G_aload_n d_Reader_readS_46 rfl 1 rfl ?_
  refine G_callVv (st := []) (As := []) (b := ad 10) d_Reader_readS_47 mi_Reader_readT w_775 10 rfl rfl mv_Reader_readT rfl (Nat.le_of_ble_eq_true rfl) hd (hrc3 s2 _ (Ok_bind h)) (fun s3 h => ?_)
  refine G_aload_n d_Reader_readS_50 rfl 1 rfl ?_
  refine G_iload_n d_Reader_readS_51 rfl 0 rfl ?_
  refine G_ineg d_Reader_readS_52 ?_
  refine G_callVv (st := []) (As := [.int (-v1)]) (b := ad 10) d_Reader_readS_53 mi_Reader_emit w_783 10 rfl rfl mv_Reader_emit rfl (Nat.le_of_ble_eq_true rfl) (by omega) (c_Reader_emit (-v1) s3 (Ok_bind h)) (fun s4 h => ?_)
  refine G_iinc d_Reader_readS_56 2 rfl lt_iconst_1 rfl (Nat.le_of_ble_eq_true rfl) (fun x => [(1, .int x), (2, .int v1), (0, .ref (ad 10))]) (fun _ => rfl) (fun v5 e => ?_)
  replace h := Ok_bnd h v5 e
  clear e
  refine G_goto (tgt := 6) d_Reader_readS_59 (by decide) ?_
  refine G_lv [2, 0] rfl ?_
  replace h := Ok_some h
  exact hL6 v5 s4 h
noncomputable def Reader_readS_l6 (rc : Nat → MS → Option MS) (x1 : Int32) (s : MS) : Option ((Int32 × MS) ⊕ MS) :=
  if (60 : Int32) ≤ x1 then (xit (some s)) else (if (s.1 20) = 0 then (if (s.1 24) = (43 : Int32) then (Reader_readS_j37 rc x1 s) else (if (s.1 24) = (45 : Int32) then (Reader_readS_j37 rc x1 s) else (xit (some s)))) else (xit (some s)))
theorem Reader_readS_l6_w {l : Launch} {D : va_G} {cI cZ cJ : ClassId} {ad : Nat → Nat} (rc : Nat → MS → Option MS) {d d2 : Nat} (hd : d2 + 1 ≤ d) (hd0 : 5 ≤ d) (hrc0 : ∀ (s : MS) (P : MS → Prop), Ok (rc 0 s) P → Ct (XX l D cI cZ cJ ad) y_Reader_readE b_Reader_readE 1 none d2 [.ref (ad 10)] s (fun _ s9 => P s9)) (hrc1 : ∀ (s : MS) (P : MS → Prop), Ok (rc 1 s) P → Ct (XX l D cI cZ cJ ad) y_Reader_readC b_Reader_readC 2 none d2 [.ref (ad 10)] s (fun _ s9 => P s9)) (hrc2 : ∀ (s : MS) (P : MS → Prop), Ok (rc 2 s) P → Ct (XX l D cI cZ cJ ad) y_Reader_readS b_Reader_readS 3 none d2 [.ref (ad 10)] s (fun _ s9 => P s9)) (hrc3 : ∀ (s : MS) (P : MS → Prop), Ok (rc 3 s) P → Ct (XX l D cI cZ cJ ad) y_Reader_readT b_Reader_readT 3 none d2 [.ref (ad 10)] s (fun _ s9 => P s9)) (hrc4 : ∀ (s : MS) (P : MS → Prop), Ok (rc 4 s) P → Ct (XX l D cI cZ cJ ad) y_Reader_readU b_Reader_readU 1 none d2 [.ref (ad 10)] s (fun _ s9 => P s9)) (x1 : Int32) (s : MS) {Q : Int32 → MS → Prop} {Post : ((Int32 × MS) ⊕ MS) → Prop} (hR : ∀ (s9 : MS), Post (.inr (s9)) → Q 0 s9) (hL6 : ∀ (z1 : Int32) (s9 : MS), Post (.inl (z1, s9)) → G (XX l D cI cZ cJ ad) "SmallHarbour$Reader" b_Reader_readS 3 none d 6 [(0, .ref (ad 10)), (1, .int z1)] [] s9 Q) (h : Ok (Reader_readS_l6 rc x1 s) Post) : G (XX l D cI cZ cJ ad) "SmallHarbour$Reader" b_Reader_readS 3 none d 6 [(0, .ref (ad 10)), (1, .int x1)] [] s Q := by
  unfold Reader_readS_l6 at h
  refine G_iload_n d_Reader_readS_6 rfl 1 rfl ?_
  refine G_bipush d_Reader_readS_7 lt_bipush_60 ?_
  refine G_icmp_ge (tgt := 62) d_Reader_readS_9 (by decide) (fun c => ?_) (fun c => ?_)
  · replace h := Ok_t c h
    replace h := Ok_xit h
    replace h := Ok_some h
    exact G_vret rfl d_Reader_readS_62 (hR _ h)
  replace h := Ok_f c h
  refine G_aload_n d_Reader_readS_12 rfl 0 rfl ?_
  refine gx_Reader_flaw d_Reader_readS_13 w_285 ?_
  refine G_if_ne (tgt := 62) d_Reader_readS_16 (by decide) (fun c => ?_) (fun c => ?_)
  · replace h := Ok_f c h
    replace h := Ok_xit h
    replace h := Ok_some h
    exact G_vret rfl d_Reader_readS_62 (hR _ h)
  replace h := Ok_t c h
  refine G_aload_n d_Reader_readS_19 rfl 0 rfl ?_
  refine gx_Reader_kind d_Reader_readS_20 w_292 ?_
  refine G_bipush d_Reader_readS_23 lt_bipush_43 ?_
  refine G_icmp_eq (tgt := 37) d_Reader_readS_25 (by decide) (fun c => ?_) (fun c => ?_)
  · replace h := Ok_t c h
    refine Reader_readS_j37_w rc hd hd0 hrc0 hrc1 hrc2 hrc3 hrc4 x1 s ?_ ?_ h
    · exact hR
    · exact hL6
  replace h := Ok_f c h
  refine G_aload_n d_Reader_readS_28 rfl 0 rfl ?_
  refine gx_Reader_kind d_Reader_readS_29 w_292 ?_
  refine G_bipush d_Reader_readS_32 lt_bipush_45 ?_
  refine G_icmp_ne (tgt := 62) d_Reader_readS_34 (by decide) (fun c => ?_) (fun c => ?_)
  · replace h := Ok_f c h
    replace h := Ok_xit h
    replace h := Ok_some h
    exact G_vret rfl d_Reader_readS_62 (hR _ h)
  replace h := Ok_t c h
  refine Reader_readS_j37_w rc hd hd0 hrc0 hrc1 hrc2 hrc3 hrc4 x1 s ?_ ?_ h
  · exact hR
  · exact hL6
noncomputable def b_f_Reader_readS (rc : Nat → MS → Option MS) (s : MS) : Option MS :=
  (rc 3 s).bind fun s1 => loop (fun z => Reader_readS_l6 rc z.1 z.2) ((0 : Int32), s1)
theorem b_f_Reader_readS_w {l : Launch} {D : va_G} {cI cZ cJ : ClassId} {ad : Nat → Nat} (rc : Nat → MS → Option MS) {d d2 : Nat} (hd : d2 + 1 ≤ d) (hd0 : 5 ≤ d) (hrc0 : ∀ (s : MS) (P : MS → Prop), Ok (rc 0 s) P → Ct (XX l D cI cZ cJ ad) y_Reader_readE b_Reader_readE 1 none d2 [.ref (ad 10)] s (fun _ s9 => P s9)) (hrc1 : ∀ (s : MS) (P : MS → Prop), Ok (rc 1 s) P → Ct (XX l D cI cZ cJ ad) y_Reader_readC b_Reader_readC 2 none d2 [.ref (ad 10)] s (fun _ s9 => P s9)) (hrc2 : ∀ (s : MS) (P : MS → Prop), Ok (rc 2 s) P → Ct (XX l D cI cZ cJ ad) y_Reader_readS b_Reader_readS 3 none d2 [.ref (ad 10)] s (fun _ s9 => P s9)) (hrc3 : ∀ (s : MS) (P : MS → Prop), Ok (rc 3 s) P → Ct (XX l D cI cZ cJ ad) y_Reader_readT b_Reader_readT 3 none d2 [.ref (ad 10)] s (fun _ s9 => P s9)) (hrc4 : ∀ (s : MS) (P : MS → Prop), Ok (rc 4 s) P → Ct (XX l D cI cZ cJ ad) y_Reader_readU b_Reader_readU 1 none d2 [.ref (ad 10)] s (fun _ s9 => P s9)) (s : MS) {Q : Int32 → MS → Prop} {Post : MS → Prop} (hR : ∀ (s9 : MS), Post (s9) → Q 0 s9) (h : Ok (b_f_Reader_readS rc s) Post) : G (XX l D cI cZ cJ ad) "SmallHarbour$Reader" b_Reader_readS 3 none d 0 [(0, .ref (ad 10))] [] s Q := by
  unfold b_f_Reader_readS at h
  refine G_aload_n d_Reader_readS_0 rfl 0 rfl ?_
  refine G_callVv (st := []) (As := []) (b := ad 10) d_Reader_readS_1 mi_Reader_readT w_775 10 rfl rfl mv_Reader_readT rfl (Nat.le_of_ble_eq_true rfl) hd (hrc3 s _ (Ok_bind h)) (fun s1 h => ?_)
  refine G_iconst d_Reader_readS_4 lt_iconst_0 ?_
  refine G_istore_n d_Reader_readS_5 rfl (Nat.le_of_ble_eq_true rfl) (fun x => [(1, .int x), (0, .ref (ad 10))]) (fun _ => rfl) (fun x e => ?_)
  subst e
  refine G_lv [1, 0] rfl ?_
  refine G_loop (J := (fun z => G (XX l D cI cZ cJ ad) "SmallHarbour$Reader" b_Reader_readS 3 none d 6 [(0, .ref (ad 10)), (1, .int (z.1))] [] z.2 Q)) (fun z h => ?_) ((0 : Int32), s1) h
  refine Reader_readS_l6_w rc hd hd0 hrc0 hrc1 hrc2 hrc3 hrc4 z.1 z.2 ?_ ?_ h
  · exact hR
  · exact (fun z1 s9 h => h)
theorem b_c_Reader_readS {l : Launch} {D : va_G} {cI cZ cJ : ClassId} {ad : Nat → Nat} (rc : Nat → MS → Option MS) {d d2 : Nat} (hd : d2 + 1 ≤ d) (hd0 : 5 ≤ d) (hrc0 : ∀ (s : MS) (P : MS → Prop), Ok (rc 0 s) P → Ct (XX l D cI cZ cJ ad) y_Reader_readE b_Reader_readE 1 none d2 [.ref (ad 10)] s (fun _ s9 => P s9)) (hrc1 : ∀ (s : MS) (P : MS → Prop), Ok (rc 1 s) P → Ct (XX l D cI cZ cJ ad) y_Reader_readC b_Reader_readC 2 none d2 [.ref (ad 10)] s (fun _ s9 => P s9)) (hrc2 : ∀ (s : MS) (P : MS → Prop), Ok (rc 2 s) P → Ct (XX l D cI cZ cJ ad) y_Reader_readS b_Reader_readS 3 none d2 [.ref (ad 10)] s (fun _ s9 => P s9)) (hrc3 : ∀ (s : MS) (P : MS → Prop), Ok (rc 3 s) P → Ct (XX l D cI cZ cJ ad) y_Reader_readT b_Reader_readT 3 none d2 [.ref (ad 10)] s (fun _ s9 => P s9)) (hrc4 : ∀ (s : MS) (P : MS → Prop), Ok (rc 4 s) P → Ct (XX l D cI cZ cJ ad) y_Reader_readU b_Reader_readU 1 none d2 [.ref (ad 10)] s (fun _ s9 => P s9)) (s : MS) {P : MS → Prop} (h : Ok (b_f_Reader_readS rc  s) P) : Ct (XX l D cI cZ cJ ad) y_Reader_readS b_Reader_readS 3 none d [.ref (ad 10)] s (fun _ s9 => P s9) :=
  Ct.of mi_Reader_readS (Nat.le_of_ble_eq_true rfl) (b_f_Reader_readS_w rc hd hd0 hrc0 hrc1 hrc2 hrc3 hrc4  s (fun _ h => h) h)
-- Reader_readC
noncomputable def Reader_readC_j29 (rc : Nat → MS → Option MS) (s : MS) : Option MS :=
  bnd (s.1 24) fun v1 => (f_Reader_take s).bind fun s2 => (rc 2 s2).bind fun s3 => (f_Reader_emit (-v1) s3).bind fun s4 => some s4
theorem Reader_readC_j29_w {l : Launch} {D : va_G} {cI cZ cJ : ClassId} {ad : Nat → Nat} (rc : Nat → MS → Option MS) {d d2 : Nat} (hd : d2 + 1 ≤ d) (hd0 : 5 ≤ d) (hrc0 : ∀ (s : MS) (P : MS → Prop), Ok (rc 0 s) P → Ct (XX l D cI cZ cJ ad) y_Reader_readE b_Reader_readE 1 none d2 [.ref (ad 10)] s (fun _ s9 => P s9)) (hrc1 : ∀ (s : MS) (P : MS → Prop), Ok (rc 1 s) P → Ct (XX l D cI cZ cJ ad) y_Reader_readC b_Reader_readC 2 none d2 [.ref (ad 10)] s (fun _ s9 => P s9)) (hrc2 : ∀ (s : MS) (P : MS → Prop), Ok (rc 2 s) P → Ct (XX l D cI cZ cJ ad) y_Reader_readS b_Reader_readS 3 none d2 [.ref (ad 10)] s (fun _ s9 => P s9)) (hrc3 : ∀ (s : MS) (P : MS → Prop), Ok (rc 3 s) P → Ct (XX l D cI cZ cJ ad) y_Reader_readT b_Reader_readT 3 none d2 [.ref (ad 10)] s (fun _ s9 => P s9)) (hrc4 : ∀ (s : MS) (P : MS → Prop), Ok (rc 4 s) P → Ct (XX l D cI cZ cJ ad) y_Reader_readU b_Reader_readU 1 none d2 [.ref (ad 10)] s (fun _ s9 => P s9)) (s : MS) {Q : Int32 → MS → Prop} {Post : MS → Prop} (hR : ∀ (s9 : MS), Post (s9) → Q 0 s9) (h : Ok (Reader_readC_j29 rc s) Post) : G (XX l D cI cZ cJ ad) "SmallHarbour$Reader" b_Reader_readC 2 none d 29 [(0, .ref (ad 10))] [] s Q := by
  unfold Reader_readC_j29 at h
  refine G_aload_n d_Reader_readC_29 rfl 0 rfl ?_
  refine gx_Reader_kind d_Reader_readC_30 w_292 ?_
  refine G_istore_n d_Reader_readC_33 rfl (Nat.le_of_ble_eq_true rfl) (fun x => [(1, .int x), (0, .ref (ad 10))]) (fun _ => rfl) (fun v1 e => ?_)
  replace h := Ok_bnd h v1 e.symm
  clear e
  refine G_aload_n d_Reader_readC_34 rfl 1 rfl ?_
  refine G_callVv (st := []) (As := []) (b := ad 10) d_Reader_readC_35 mi_Reader_take w_787 10 rfl rfl mv_Reader_take rfl (Nat.le_of_ble_eq_true rfl) (by omega) (c_Reader_take  s (Ok_bind h)) (fun s2 h => ?_)
  refine G_aload_n d_Reader_readC_38 rfl 1 rfl ?_
  refine G_callVv (st := []) (As := []) (b := ad 10) d_Reader_readC_39 mi_Reader_readS w_771 10 rfl rfl mv_Reader_readS rfl (Nat.le_of_ble_eq_true rfl) hd (hrc2 s2 _ (Ok_bind h)) (fun s3 h => ?_)
  refine G_aload_n d_Reader_readC_42 rfl 1 rfl ?_
  refine G_iload_n d_Reader_readC_43 rfl 0 rfl ?_
  refine G_ineg d_Reader_readC_44 ?_
  refine G_callVv (st := []) (As := [.int (-v1)]) (b := ad 10) d_Reader_readC_45 mi_Reader_emit w_783 10 rfl rfl mv_Reader_emit rfl (Nat.le_of_ble_eq_true rfl) (by omega) (c_Reader_emit (-v1) s3 (Ok_bind h)) (fun s4 h => ?_)
  replace h := Ok_some h
  exact G_vret rfl d_Reader_readC_48 (hR _ h)
noncomputable def b_f_Reader_readC (rc : Nat → MS → Option MS) (s : MS) : Option MS :=
  (rc 2 s).bind fun s1 => if (s1.1 20) = 0 then (if (s1.1 24) = (60 : Int32) then (Reader_readC_j29 rc s1) else (if (s1.1 24) = (61 : Int32) then (Reader_readC_j29 rc s1) else (some s1))) else (some s1)
theorem b_f_Reader_readC_w {l : Launch} {D : va_G} {cI cZ cJ : ClassId} {ad : Nat → Nat} (rc : Nat → MS → Option MS) {d d2 : Nat} (hd : d2 + 1 ≤ d) (hd0 : 5 ≤ d) (hrc0 : ∀ (s : MS) (P : MS → Prop), Ok (rc 0 s) P → Ct (XX l D cI cZ cJ ad) y_Reader_readE b_Reader_readE 1 none d2 [.ref (ad 10)] s (fun _ s9 => P s9)) (hrc1 : ∀ (s : MS) (P : MS → Prop), Ok (rc 1 s) P → Ct (XX l D cI cZ cJ ad) y_Reader_readC b_Reader_readC 2 none d2 [.ref (ad 10)] s (fun _ s9 => P s9)) (hrc2 : ∀ (s : MS) (P : MS → Prop), Ok (rc 2 s) P → Ct (XX l D cI cZ cJ ad) y_Reader_readS b_Reader_readS 3 none d2 [.ref (ad 10)] s (fun _ s9 => P s9)) (hrc3 : ∀ (s : MS) (P : MS → Prop), Ok (rc 3 s) P → Ct (XX l D cI cZ cJ ad) y_Reader_readT b_Reader_readT 3 none d2 [.ref (ad 10)] s (fun _ s9 => P s9)) (hrc4 : ∀ (s : MS) (P : MS → Prop), Ok (rc 4 s) P → Ct (XX l D cI cZ cJ ad) y_Reader_readU b_Reader_readU 1 none d2 [.ref (ad 10)] s (fun _ s9 => P s9)) (s : MS) {Q : Int32 → MS → Prop} {Post : MS → Prop} (hR : ∀ (s9 : MS), Post (s9) → Q 0 s9) (h : Ok (b_f_Reader_readC rc s) Post) : G (XX l D cI cZ cJ ad) "SmallHarbour$Reader" b_Reader_readC 2 none d 0 [(0, .ref (ad 10))] [] s Q := by
  unfold b_f_Reader_readC at h
  refine G_aload_n d_Reader_readC_0 rfl 0 rfl ?_
  refine G_callVv (st := []) (As := []) (b := ad 10) d_Reader_readC_1 mi_Reader_readS w_771 10 rfl rfl mv_Reader_readS rfl (Nat.le_of_ble_eq_true rfl) hd (hrc2 s _ (Ok_bind h)) (fun s1 h => ?_)
  refine G_aload_n d_Reader_readC_4 rfl 0 rfl ?_
  refine gx_Reader_flaw d_Reader_readC_5 w_285 ?_
  refine G_if_ne (tgt := 48) d_Reader_readC_8 (by decide) (fun c => ?_) (fun c => ?_)
  · replace h := Ok_f c h
    replace h := Ok_some h
    exact G_vret rfl d_Reader_readC_48 (hR _ h)
  replace h := Ok_t c h
  refine G_aload_n d_Reader_readC_11 rfl 0 rfl ?_
  refine gx_Reader_kind d_Reader_readC_12 w_292 ?_
  refine G_bipush d_Reader_readC_15 lt_bipush_60 ?_
  refine G_icmp_eq (tgt := 29) d_Reader_readC_17 (by decide) (fun c => ?_) (fun c => ?_)
  · replace h := Ok_t c h
    refine Reader_readC_j29_w rc hd hd0 hrc0 hrc1 hrc2 hrc3 hrc4 s1 ?_ h
    · exact hR
  replace h := Ok_f c h
  refine G_aload_n d_Reader_readC_20 rfl 0 rfl ?_
  refine gx_Reader_kind d_Reader_readC_21 w_292 ?_
  refine G_bipush d_Reader_readC_24 lt_bipush_61 ?_
  refine G_icmp_ne (tgt := 48) d_Reader_readC_26 (by decide) (fun c => ?_) (fun c => ?_)
  · replace h := Ok_f c h
    replace h := Ok_some h
    exact G_vret rfl d_Reader_readC_48 (hR _ h)
  replace h := Ok_t c h
  refine Reader_readC_j29_w rc hd hd0 hrc0 hrc1 hrc2 hrc3 hrc4 s1 ?_ h
  · exact hR
theorem b_c_Reader_readC {l : Launch} {D : va_G} {cI cZ cJ : ClassId} {ad : Nat → Nat} (rc : Nat → MS → Option MS) {d d2 : Nat} (hd : d2 + 1 ≤ d) (hd0 : 5 ≤ d) (hrc0 : ∀ (s : MS) (P : MS → Prop), Ok (rc 0 s) P → Ct (XX l D cI cZ cJ ad) y_Reader_readE b_Reader_readE 1 none d2 [.ref (ad 10)] s (fun _ s9 => P s9)) (hrc1 : ∀ (s : MS) (P : MS → Prop), Ok (rc 1 s) P → Ct (XX l D cI cZ cJ ad) y_Reader_readC b_Reader_readC 2 none d2 [.ref (ad 10)] s (fun _ s9 => P s9)) (hrc2 : ∀ (s : MS) (P : MS → Prop), Ok (rc 2 s) P → Ct (XX l D cI cZ cJ ad) y_Reader_readS b_Reader_readS 3 none d2 [.ref (ad 10)] s (fun _ s9 => P s9)) (hrc3 : ∀ (s : MS) (P : MS → Prop), Ok (rc 3 s) P → Ct (XX l D cI cZ cJ ad) y_Reader_readT b_Reader_readT 3 none d2 [.ref (ad 10)] s (fun _ s9 => P s9)) (hrc4 : ∀ (s : MS) (P : MS → Prop), Ok (rc 4 s) P → Ct (XX l D cI cZ cJ ad) y_Reader_readU b_Reader_readU 1 none d2 [.ref (ad 10)] s (fun _ s9 => P s9)) (s : MS) {P : MS → Prop} (h : Ok (b_f_Reader_readC rc  s) P) : Ct (XX l D cI cZ cJ ad) y_Reader_readC b_Reader_readC 2 none d [.ref (ad 10)] s (fun _ s9 => P s9) :=
  Ct.of mi_Reader_readC (Nat.le_of_ble_eq_true rfl) (b_f_Reader_readC_w rc hd hd0 hrc0 hrc1 hrc2 hrc3 hrc4  s (fun _ h => h) h)
-- Reader_readE
noncomputable def b_f_Reader_readE (rc : Nat → MS → Option MS) (s : MS) : Option MS :=
  if (s.1 20) = 0 then (if (s.1 24) = (26982 : Int32) then ((f_Reader_openOne s).bind fun s1 => (rc 0 s1).bind fun s2 => (f_Reader_expect (1952998766 : Int32) s2).bind fun s3 => (rc 0 s3).bind fun s4 => (f_Reader_expect (1701606245 : Int32) s4).bind fun s5 => (rc 0 s5).bind fun s6 => (f_Reader_emit (-63 : Int32) s6).bind fun s7 => bnd (pf s7 27 ((s7.1 27) - (1 : Int32))) fun s8 => some s8) else ((rc 1 s).bind fun s9 => some s9)) else (some s)
theorem b_f_Reader_readE_w {l : Launch} {D : va_G} {cI cZ cJ : ClassId} {ad : Nat → Nat} (rc : Nat → MS → Option MS) {d d2 : Nat} (hd : d2 + 1 ≤ d) (hd0 : 5 ≤ d) (hrc0 : ∀ (s : MS) (P : MS → Prop), Ok (rc 0 s) P → Ct (XX l D cI cZ cJ ad) y_Reader_readE b_Reader_readE 1 none d2 [.ref (ad 10)] s (fun _ s9 => P s9)) (hrc1 : ∀ (s : MS) (P : MS → Prop), Ok (rc 1 s) P → Ct (XX l D cI cZ cJ ad) y_Reader_readC b_Reader_readC 2 none d2 [.ref (ad 10)] s (fun _ s9 => P s9)) (hrc2 : ∀ (s : MS) (P : MS → Prop), Ok (rc 2 s) P → Ct (XX l D cI cZ cJ ad) y_Reader_readS b_Reader_readS 3 none d2 [.ref (ad 10)] s (fun _ s9 => P s9)) (hrc3 : ∀ (s : MS) (P : MS → Prop), Ok (rc 3 s) P → Ct (XX l D cI cZ cJ ad) y_Reader_readT b_Reader_readT 3 none d2 [.ref (ad 10)] s (fun _ s9 => P s9)) (hrc4 : ∀ (s : MS) (P : MS → Prop), Ok (rc 4 s) P → Ct (XX l D cI cZ cJ ad) y_Reader_readU b_Reader_readU 1 none d2 [.ref (ad 10)] s (fun _ s9 => P s9)) (s : MS) {Q : Int32 → MS → Prop} {Post : MS → Prop} (hR : ∀ (s9 : MS), Post (s9) → Q 0 s9) (h : Ok (b_f_Reader_readE rc s) Post) : G (XX l D cI cZ cJ ad) "SmallHarbour$Reader" b_Reader_readE 1 none d 0 [(0, .ref (ad 10))] [] s Q := by
  unfold b_f_Reader_readE at h
  refine G_aload_n d_Reader_readE_0 rfl 0 rfl ?_
  refine gx_Reader_flaw d_Reader_readE_1 w_285 ?_
  refine G_if_eq (tgt := 8) d_Reader_readE_4 (by decide) (fun c => ?_) (fun c => ?_)
  · replace h := Ok_t c h
    refine G_aload_n d_Reader_readE_8 rfl 0 rfl ?_
    refine gx_Reader_kind d_Reader_readE_9 w_292 ?_
    refine G_sipush d_Reader_readE_12 lt_sipush_26982 ?_
    refine G_icmp_eq (tgt := 23) d_Reader_readE_15 (by decide) (fun c => ?_) (fun c => ?_)
    · replace h := Ok_t c h
      refine G_aload_n d_Reader_readE_23 rfl 0 rfl ?_
      refine G_callVv (st := []) (As := []) (b := ad 10) d_Reader_readE_24 mi_Reader_openOne w_796 10 rfl rfl mv_Reader_openOne rfl (Nat.le_of_ble_eq_true rfl) (by omega) (c_Reader_openOne  s (Ok_bind h)) (fun s1 h => ?_)
      refine G_aload_n d_Reader_readE_27 rfl 0 rfl ?_
      refine G_callVv (st := []) (As := []) (b := ad 10) d_Reader_readE_28 mi_Reader_readE w_763 10 rfl rfl mv_Reader_readE rfl (Nat.le_of_ble_eq_true rfl) hd (hrc0 s1 _ (Ok_bind h)) (fun s2 h => ?_)
      refine G_aload_n d_Reader_readE_31 rfl 0 rfl ?_
      refine G_ldc d_Reader_readE_32 w_807 ?_
      refine G_callVv (st := []) (As := [.int (1952998766 : Int32)]) (b := ad 10) d_Reader_readE_34 mi_Reader_expect w_800 10 rfl rfl mv_Reader_expect rfl (Nat.le_of_ble_eq_true rfl) (by omega) (c_Reader_expect (1952998766 : Int32) s2 (Ok_bind h)) (fun s3 h => ?_)
      refine G_aload_n d_Reader_readE_37 rfl 0 rfl ?_
      refine G_callVv (st := []) (As := []) (b := ad 10) d_Reader_readE_38 mi_Reader_readE w_763 10 rfl rfl mv_Reader_readE rfl (Nat.le_of_ble_eq_true rfl) hd (hrc0 s3 _ (Ok_bind h)) (fun s4 h => ?_)
      refine G_aload_n d_Reader_readE_41 rfl 0 rfl ?_
      refine G_ldc d_Reader_readE_42 w_808 ?_
      refine G_callVv (st := []) (As := [.int (1701606245 : Int32)]) (b := ad 10) d_Reader_readE_44 mi_Reader_expect w_800 10 rfl rfl mv_Reader_expect rfl (Nat.le_of_ble_eq_true rfl) (by omega) (c_Reader_expect (1701606245 : Int32) s4 (Ok_bind h)) (fun s5 h => ?_)
      refine G_aload_n d_Reader_readE_47 rfl 0 rfl ?_
      refine G_callVv (st := []) (As := []) (b := ad 10) d_Reader_readE_48 mi_Reader_readE w_763 10 rfl rfl mv_Reader_readE rfl (Nat.le_of_ble_eq_true rfl) hd (hrc0 s5 _ (Ok_bind h)) (fun s6 h => ?_)
      refine G_aload_n d_Reader_readE_51 rfl 0 rfl ?_
      refine G_bipush d_Reader_readE_52 lt_bipush_m63 ?_
      refine G_callVv (st := []) (As := [.int (-63 : Int32)]) (b := ad 10) d_Reader_readE_54 mi_Reader_emit w_783 10 rfl rfl mv_Reader_emit rfl (Nat.le_of_ble_eq_true rfl) (by omega) (c_Reader_emit (-63 : Int32) s6 (Ok_bind h)) (fun s7 h => ?_)
      refine G_aload_n d_Reader_readE_57 rfl 0 rfl ?_
      refine G_dup d_Reader_readE_58 rfl ?_
      refine gx_Reader_open d_Reader_readE_59 w_295 ?_
      refine G_iconst d_Reader_readE_62 lt_iconst_1 ?_
      refine G_isub d_Reader_readE_63 ?_
      refine px_Reader_open d_Reader_readE_64 w_295 (fun s8 e => ?_)
      replace h := Ok_bnd h s8 e
      clear e
      replace h := Ok_some h
      exact G_vret rfl d_Reader_readE_67 (hR _ h)
    replace h := Ok_f c h
    refine G_aload_n d_Reader_readE_18 rfl 0 rfl ?_
    refine G_callVv (st := []) (As := []) (b := ad 10) d_Reader_readE_19 mi_Reader_readC w_767 10 rfl rfl mv_Reader_readC rfl (Nat.le_of_ble_eq_true rfl) hd (hrc1 s _ (Ok_bind h)) (fun s9 h => ?_)
    replace h := Ok_some h
    exact G_vret rfl d_Reader_readE_22 (hR _ h)
  replace h := Ok_f c h
  replace h := Ok_some h
  exact G_vret rfl d_Reader_readE_7 (hR _ h)
theorem b_c_Reader_readE {l : Launch} {D : va_G} {cI cZ cJ : ClassId} {ad : Nat → Nat} (rc : Nat → MS → Option MS) {d d2 : Nat} (hd : d2 + 1 ≤ d) (hd0 : 5 ≤ d) (hrc0 : ∀ (s : MS) (P : MS → Prop), Ok (rc 0 s) P → Ct (XX l D cI cZ cJ ad) y_Reader_readE b_Reader_readE 1 none d2 [.ref (ad 10)] s (fun _ s9 => P s9)) (hrc1 : ∀ (s : MS) (P : MS → Prop), Ok (rc 1 s) P → Ct (XX l D cI cZ cJ ad) y_Reader_readC b_Reader_readC 2 none d2 [.ref (ad 10)] s (fun _ s9 => P s9)) (hrc2 : ∀ (s : MS) (P : MS → Prop), Ok (rc 2 s) P → Ct (XX l D cI cZ cJ ad) y_Reader_readS b_Reader_readS 3 none d2 [.ref (ad 10)] s (fun _ s9 => P s9)) (hrc3 : ∀ (s : MS) (P : MS → Prop), Ok (rc 3 s) P → Ct (XX l D cI cZ cJ ad) y_Reader_readT b_Reader_readT 3 none d2 [.ref (ad 10)] s (fun _ s9 => P s9)) (hrc4 : ∀ (s : MS) (P : MS → Prop), Ok (rc 4 s) P → Ct (XX l D cI cZ cJ ad) y_Reader_readU b_Reader_readU 1 none d2 [.ref (ad 10)] s (fun _ s9 => P s9)) (s : MS) {P : MS → Prop} (h : Ok (b_f_Reader_readE rc  s) P) : Ct (XX l D cI cZ cJ ad) y_Reader_readE b_Reader_readE 1 none d [.ref (ad 10)] s (fun _ s9 => P s9) :=
  Ct.of mi_Reader_readE (Nat.le_of_ble_eq_true rfl) (b_f_Reader_readE_w rc hd hd0 hrc0 hrc1 hrc2 hrc3 hrc4  s (fun _ h => h) h)
-- Reader.grp
noncomputable def f_Reader_rd : Nat → Nat → MS → Option MS
  | 0, _, _ => none
  | n + 1, w, s => if w = 0 then b_f_Reader_readE (f_Reader_rd n) s else if w = 1 then b_f_Reader_readC (f_Reader_rd n) s else if w = 2 then b_f_Reader_readS (f_Reader_rd n) s else if w = 3 then b_f_Reader_readT (f_Reader_rd n) s else if w = 4 then b_f_Reader_readU (f_Reader_rd n) s else none
theorem c_Reader_rd {l : Launch} {D : va_G} {cI cZ cJ : ClassId} {ad : Nat → Nat} : ∀ n : Nat, (∀ (s : MS) (P : MS → Prop), Ok (f_Reader_rd n 0 s) P → Ct (XX l D cI cZ cJ ad) y_Reader_readE b_Reader_readE 1 none (5 + n) [.ref (ad 10)] s (fun _ s9 => P s9)) ∧ (∀ (s : MS) (P : MS → Prop), Ok (f_Reader_rd n 1 s) P → Ct (XX l D cI cZ cJ ad) y_Reader_readC b_Reader_readC 2 none (5 + n) [.ref (ad 10)] s (fun _ s9 => P s9)) ∧ (∀ (s : MS) (P : MS → Prop), Ok (f_Reader_rd n 2 s) P → Ct (XX l D cI cZ cJ ad) y_Reader_readS b_Reader_readS 3 none (5 + n) [.ref (ad 10)] s (fun _ s9 => P s9)) ∧ (∀ (s : MS) (P : MS → Prop), Ok (f_Reader_rd n 3 s) P → Ct (XX l D cI cZ cJ ad) y_Reader_readT b_Reader_readT 3 none (5 + n) [.ref (ad 10)] s (fun _ s9 => P s9)) ∧ (∀ (s : MS) (P : MS → Prop), Ok (f_Reader_rd n 4 s) P → Ct (XX l D cI cZ cJ ad) y_Reader_readU b_Reader_readU 1 none (5 + n) [.ref (ad 10)] s (fun _ s9 => P s9))
  | 0 => ⟨fun _ _ h => Ok_none h, fun _ _ h => Ok_none h, fun _ _ h => Ok_none h, fun _ _ h => Ok_none h, fun _ _ h => Ok_none h⟩
  | n + 1 => by
    obtain ⟨h0, h1, h2, h3, h4⟩ := c_Reader_rd (l := l) (D := D) (cI := cI) (cZ := cZ) (cJ := cJ) (ad := ad) n
    exact ⟨fun s P h => b_c_Reader_readE (f_Reader_rd n) (d := 5 + (n + 1)) (d2 := 5 + n) (by omega) (by omega) h0 h1 h2 h3 h4 s h, fun s P h => b_c_Reader_readC (f_Reader_rd n) (d := 5 + (n + 1)) (d2 := 5 + n) (by omega) (by omega) h0 h1 h2 h3 h4 s h, fun s P h => b_c_Reader_readS (f_Reader_rd n) (d := 5 + (n + 1)) (d2 := 5 + n) (by omega) (by omega) h0 h1 h2 h3 h4 s h, fun s P h => b_c_Reader_readT (f_Reader_rd n) (d := 5 + (n + 1)) (d2 := 5 + n) (by omega) (by omega) h0 h1 h2 h3 h4 s h, fun s P h => b_c_Reader_readU (f_Reader_rd n) (d := 5 + (n + 1)) (d2 := 5 + n) (by omega) (by omega) h0 h1 h2 h3 h4 s h⟩
noncomputable def f_Reader_readE (n : Nat) (s : MS) : Option MS := f_Reader_rd n 0 s
theorem c_Reader_readE {l : Launch} {D : va_G} {cI cZ cJ : ClassId} {ad : Nat → Nat} (n : Nat) (s : MS) {P : MS → Prop} (h : Ok (f_Reader_readE n s) P) : Ct (XX l D cI cZ cJ ad) y_Reader_readE b_Reader_readE 1 none (5 + n) [.ref (ad 10)] s (fun _ s9 => P s9) := (c_Reader_rd n).1 s P h
noncomputable def f_Reader_readC (n : Nat) (s : MS) : Option MS := f_Reader_rd n 1 s
theorem c_Reader_readC {l : Launch} {D : va_G} {cI cZ cJ : ClassId} {ad : Nat → Nat} (n : Nat) (s : MS) {P : MS → Prop} (h : Ok (f_Reader_readC n s) P) : Ct (XX l D cI cZ cJ ad) y_Reader_readC b_Reader_readC 2 none (5 + n) [.ref (ad 10)] s (fun _ s9 => P s9) := (c_Reader_rd n).2.1 s P h
noncomputable def f_Reader_readS (n : Nat) (s : MS) : Option MS := f_Reader_rd n 2 s
theorem c_Reader_readS {l : Launch} {D : va_G} {cI cZ cJ : ClassId} {ad : Nat → Nat} (n : Nat) (s : MS) {P : MS → Prop} (h : Ok (f_Reader_readS n s) P) : Ct (XX l D cI cZ cJ ad) y_Reader_readS b_Reader_readS 3 none (5 + n) [.ref (ad 10)] s (fun _ s9 => P s9) := (c_Reader_rd n).2.2.1 s P h
noncomputable def f_Reader_readT (n : Nat) (s : MS) : Option MS := f_Reader_rd n 3 s
theorem c_Reader_readT {l : Launch} {D : va_G} {cI cZ cJ : ClassId} {ad : Nat → Nat} (n : Nat) (s : MS) {P : MS → Prop} (h : Ok (f_Reader_readT n s) P) : Ct (XX l D cI cZ cJ ad) y_Reader_readT b_Reader_readT 3 none (5 + n) [.ref (ad 10)] s (fun _ s9 => P s9) := (c_Reader_rd n).2.2.2.1 s P h
noncomputable def f_Reader_readU (n : Nat) (s : MS) : Option MS := f_Reader_rd n 4 s
theorem c_Reader_readU {l : Launch} {D : va_G} {cI cZ cJ : ClassId} {ad : Nat → Nat} (n : Nat) (s : MS) {P : MS → Prop} (h : Ok (f_Reader_readU n s) P) : Ct (XX l D cI cZ cJ ad) y_Reader_readU b_Reader_readU 1 none (5 + n) [.ref (ad 10)] s (fun _ s9 => P s9) := (c_Reader_rd n).2.2.2.2 s P h
-- Reader_readTape
noncomputable def f_Reader_readTape (s : MS) : Option (Int32 × MS) :=
  bnd (pf s 19 (0 : Int32)) fun s1 => bnd (pf s1 20 (0 : Int32)) fun s2 => bnd (pf s2 21 (-1 : Int32)) fun s3 => bnd (pf s3 23 (0 : Int32)) fun s4 => bnd (pf s4 26 (0 : Int32)) fun s5 => bnd (pf s5 27 (0 : Int32)) fun s6 => (f_Reader_comeToNext s6).bind fun s7 => (f_Reader_readE 80 s7).bind fun s8 => if (s8.1 20) = 0 then (if (s8.1 24) = 0 then (if (s8.1 20) = 0 then (some ((1 : Int32), s8)) else (some ((0 : Int32), s8))) else ((f_Reader_refuse (1 : Int32) s8).bind fun s9 => if (s9.1 20) = 0 then (some ((1 : Int32), s9)) else (some ((0 : Int32), s9)))) else (if (s8.1 20) = 0 then (some ((1 : Int32), s8)) else (some ((0 : Int32), s8)))
theorem f_Reader_readTape_w {l : Launch} {D : va_G} {cI cZ cJ : ClassId} {ad : Nat → Nat} (s : MS) {Q : Int32 → MS → Prop} {Post : (Int32 × MS) → Prop} (hR : ∀ (r9 : Int32) (s9 : MS), Post ((r9, s9)) → Q r9 s9) (h : Ok (f_Reader_readTape s) Post) : G (XX l D cI cZ cJ ad) "SmallHarbour$Reader" b_Reader_readTape 1 (some .boolean) 86 0 [(0, .ref (ad 10))] [] s Q := by
  unfold f_Reader_readTape at h
  refine G_aload_n d_Reader_readTape_0 rfl 0 rfl ?_
  refine G_iconst d_Reader_readTape_1 lt_iconst_0 ?_
  refine px_Reader_size d_Reader_readTape_2 w_283 (fun s1 e => ?_)
  replace h := Ok_bnd h s1 e
  clear e
  refine G_aload_n d_Reader_readTape_5 rfl 0 rfl ?_
  refine G_iconst d_Reader_readTape_6 lt_iconst_0 ?_
  refine px_Reader_flaw d_Reader_readTape_7 w_285 (fun s2 e => ?_)
  replace h := Ok_bnd h s2 e
  clear e
  refine G_aload_n d_Reader_readTape_10 rfl 0 rfl ?_
  refine G_iconst d_Reader_readTape_11 lt_iconst_m1 ?_
  refine px_Reader_place d_Reader_readTape_12 w_287 (fun s3 e => ?_)
  replace h := Ok_bnd h s3 e
  clear e
  refine G_aload_n d_Reader_readTape_15 rfl 0 rfl ?_
  refine G_iconst d_Reader_readTape_16 lt_iconst_0 ?_
  refine px_Reader_next d_Reader_readTape_17 w_291 (fun s4 e => ?_)
  replace h := Ok_bnd h s4 e
  clear e
  refine G_aload_n d_Reader_readTape_20 rfl 0 rfl ?_
  refine G_iconst d_Reader_readTape_21 lt_iconst_0 ?_
  refine px_Reader_taken d_Reader_readTape_22 w_294 (fun s5 e => ?_)
  replace h := Ok_bnd h s5 e
  clear e
  refine G_aload_n d_Reader_readTape_25 rfl 0 rfl ?_
  refine G_iconst d_Reader_readTape_26 lt_iconst_0 ?_
  refine px_Reader_open d_Reader_readTape_27 w_295 (fun s6 e => ?_)
  replace h := Ok_bnd h s6 e
  clear e
  refine G_aload_n d_Reader_readTape_30 rfl 0 rfl ?_
  refine G_callVv (st := []) (As := []) (b := ad 10) d_Reader_readTape_31 mi_Reader_comeToNext w_737 10 rfl rfl mv_Reader_comeToNext rfl (Nat.le_of_ble_eq_true rfl) (by decide) (c_Reader_comeToNext  s6 (Ok_bind h)) (fun s7 h => ?_)
  refine G_aload_n d_Reader_readTape_34 rfl 0 rfl ?_
  refine G_callVv (st := []) (As := []) (b := ad 10) d_Reader_readTape_35 mi_Reader_readE w_763 10 rfl rfl mv_Reader_readE rfl (Nat.le_of_ble_eq_true rfl) (by decide) (c_Reader_readE 80  s7 (Ok_bind h)) (fun s8 h => ?_)
  refine G_aload_n d_Reader_readTape_38 rfl 0 rfl ?_
  refine gx_Reader_flaw d_Reader_readTape_39 w_285 ?_
  refine G_if_ne (tgt := 57) d_Reader_readTape_42 (by decide) (fun c => ?_) (fun c => ?_)
  · replace h := Ok_f c h
    refine G_aload_n d_Reader_readTape_57 rfl 0 rfl ?_
    refine gx_Reader_flaw d_Reader_readTape_58 w_285 ?_
    refine G_if_ne (tgt := 68) d_Reader_readTape_61 (by decide) (fun c => ?_) (fun c => ?_)
    · replace h := Ok_f c h
      refine G_iconst d_Reader_readTape_68 lt_iconst_0 ?_
      replace h := Ok_some h
      exact G_iret rfl rfl d_Reader_readTape_69 (hR _ _ h)
    replace h := Ok_t c h
    refine G_iconst d_Reader_readTape_64 lt_iconst_1 ?_
    refine G_goto (tgt := 69) d_Reader_readTape_65 (by decide) ?_
    replace h := Ok_some h
    exact G_iret rfl rfl d_Reader_readTape_69 (hR _ _ h)
  replace h := Ok_t c h
  refine G_aload_n d_Reader_readTape_45 rfl 0 rfl ?_
  refine gx_Reader_kind d_Reader_readTape_46 w_292 ?_
  refine G_if_eq (tgt := 57) d_Reader_readTape_49 (by decide) (fun c => ?_) (fun c => ?_)
  · replace h := Ok_t c h
    refine G_aload_n d_Reader_readTape_57 rfl 0 rfl ?_
    refine gx_Reader_flaw d_Reader_readTape_58 w_285 ?_
    refine G_if_ne (tgt := 68) d_Reader_readTape_61 (by decide) (fun c => ?_) (fun c => ?_)
    · replace h := Ok_f c h
      refine G_iconst d_Reader_readTape_68 lt_iconst_0 ?_
      replace h := Ok_some h
      exact G_iret rfl rfl d_Reader_readTape_69 (hR _ _ h)
    replace h := Ok_t c h
    refine G_iconst d_Reader_readTape_64 lt_iconst_1 ?_
    refine G_goto (tgt := 69) d_Reader_readTape_65 (by decide) ?_
    replace h := Ok_some h
    exact G_iret rfl rfl d_Reader_readTape_69 (hR _ _ h)
  replace h := Ok_f c h
  refine G_aload_n d_Reader_readTape_52 rfl 0 rfl ?_
  refine G_iconst d_Reader_readTape_53 lt_iconst_1 ?_
  refine G_callVv (st := []) (As := [.int (1 : Int32)]) (b := ad 10) d_Reader_readTape_54 mi_Reader_refuse w_792 10 rfl rfl mv_Reader_refuse rfl (Nat.le_of_ble_eq_true rfl) (by decide) (c_Reader_refuse (1 : Int32) s8 (Ok_bind h)) (fun s9 h => ?_)
  refine G_aload_n d_Reader_readTape_57 rfl 0 rfl ?_
  refine gx_Reader_flaw d_Reader_readTape_58 w_285 ?_
  refine G_if_ne (tgt := 68) d_Reader_readTape_61 (by decide) (fun c => ?_) (fun c => ?_)
  · replace h := Ok_f c h
    refine G_iconst d_Reader_readTape_68 lt_iconst_0 ?_
    replace h := Ok_some h
    exact G_iret rfl rfl d_Reader_readTape_69 (hR _ _ h)
  replace h := Ok_t c h
  refine G_iconst d_Reader_readTape_64 lt_iconst_1 ?_
  refine G_goto (tgt := 69) d_Reader_readTape_65 (by decide) ?_
  replace h := Ok_some h
  exact G_iret rfl rfl d_Reader_readTape_69 (hR _ _ h)
theorem c_Reader_readTape {l : Launch} {D : va_G} {cI cZ cJ : ClassId} {ad : Nat → Nat} (s : MS) {P : Int32 → MS → Prop} (h : Ok2 (f_Reader_readTape  s) P) : Ct (XX l D cI cZ cJ ad) y_Reader_readTape b_Reader_readTape 1 (some .boolean) 86 [.ref (ad 10)] s (P) :=
  Ct.of mi_Reader_readTape (Nat.le_of_ble_eq_true rfl) (f_Reader_readTape_w  s (Post := fun q => P q.1 q.2) (fun _ _ h => h) (Ok2_ok h))
-- Rules_add
noncomputable def f_Rules_add (a1 a3 : Int32) (s : MS) : Option (Int32 × MS) :=
  if (8 : Int32) ≤ (s.1 28) then (some ((-1 : Int32), s)) else (if a3 ≤ (60 : Int32) then (chk (inb (s.1 28) 8) (bnd (pa s 39 (s.1 28).toNatClampNeg a1) fun s1 => chk (inb (s1.1 28) 8) (bnd (pa s1 40 (s1.1 28).toNatClampNeg a3) fun s2 => chk (decide (0 ≤ (0 : Int32).toInt ∧ 0 ≤ ((s2.1 28) * (60 : Int32)).toInt ∧ 0 ≤ a3.toInt ∧ (0 : Int32).toInt + a3.toInt ≤ (60 : Int) ∧ ((s2.1 28) * (60 : Int32)).toInt + a3.toInt ≤ (480 : Int))) (bnd (pr s2 41 (va_cpy (s2.2 38) (s2.2 41) (0 : Int32).toNatClampNeg ((s2.1 28) * (60 : Int32)).toNatClampNeg a3.toNatClampNeg)) fun s3 => bnd (pf s3 28 ((s3.1 28) + (1 : Int32))) fun s4 => some ((s3.1 28), s4))))) else (some ((-1 : Int32), s)))
theorem f_Rules_add_w {l : Launch} {D : va_G} {cI cZ cJ : ClassId} {ad : Nat → Nat} (a1 a3 : Int32) (s : MS) {Q : Int32 → MS → Prop} {Post : (Int32 × MS) → Prop} (hR : ∀ (r9 : Int32) (s9 : MS), Post ((r9, s9)) → Q r9 s9) (h : Ok (f_Rules_add a1 a3 s) Post) : G (XX l D cI cZ cJ ad) "SmallHarbour$Rules" b_Rules_add 4 (some .int) 1 0 [(0, .ref (ad 11)), (1, .int a1), (2, .ref (ad 51)), (3, .int a3)] [] s Q := by
  unfold f_Rules_add at h
  refine G_aload_n d_Rules_add_0 rfl 0 rfl ?_
  refine gx_Rules_count d_Rules_add_1 w_325 ?_
  refine G_bipush d_Rules_add_4 lt_bipush_8 ?_
  refine G_icmp_ge (tgt := 15) d_Rules_add_6 (by decide) (fun c => ?_) (fun c => ?_)
  · replace h := Ok_t c h
    refine G_iconst d_Rules_add_15 lt_iconst_m1 ?_
    replace h := Ok_some h
    exact G_iret rfl (vp_nar_int _) d_Rules_add_16 (hR _ _ h)
  replace h := Ok_f c h
  refine G_iload_n d_Rules_add_9 rfl 3 rfl ?_
  refine G_bipush d_Rules_add_10 lt_bipush_60 ?_
  refine G_icmp_le (tgt := 17) d_Rules_add_12 (by decide) (fun c => ?_) (fun c => ?_)
  · replace h := Ok_t c h
    refine G_aload_n d_Rules_add_17 rfl 0 rfl ?_
    refine gx_Rules_from d_Rules_add_18 w_327 ?_
    refine G_aload_n d_Rules_add_21 rfl 0 rfl ?_
    refine gx_Rules_count d_Rules_add_22 w_325 ?_
    refine G_iload_n d_Rules_add_25 rfl 1 rfl ?_
    refine sx_39 d_Rules_add_26 (Ok_ld h).1 (fun s1 e => ?_)
    replace h := (Ok_ld h).2 s1 e
    clear e
    refine G_aload_n d_Rules_add_27 rfl 0 rfl ?_
    refine gx_Rules_sizes d_Rules_add_28 w_328 ?_
    refine G_aload_n d_Rules_add_31 rfl 0 rfl ?_
    refine gx_Rules_count d_Rules_add_32 w_325 ?_
    refine G_iload_n d_Rules_add_35 rfl 3 rfl ?_
    refine sx_40 d_Rules_add_36 (Ok_ld h).1 (fun s2 e => ?_)
    replace h := (Ok_ld h).2 s2 e
    clear e
    refine G_aload_n d_Rules_add_37 rfl 2 rfl ?_
    refine G_iconst d_Rules_add_38 lt_iconst_0 ?_
    refine G_aload_n d_Rules_add_39 rfl 0 rfl ?_
    refine gx_Rules_codes d_Rules_add_40 w_329 ?_
    refine G_aload_n d_Rules_add_43 rfl 0 rfl ?_
    refine gx_Rules_count d_Rules_add_44 w_325 ?_
    refine G_bipush d_Rules_add_47 lt_bipush_60 ?_
    refine G_imul d_Rules_add_49 ?_
    refine G_iload_n d_Rules_add_50 rfl 3 rfl ?_
    refine G_copy d_Rules_add_51 w_813 w_576 w_575 w_16 (by decide) (Nat.le_of_ble_eq_true rfl) 51 54 0 0 rfl rfl rfl rfl (Ok_ld h).1 (s2 := (pr s2 41 (va_cpy (s2.2 38) (s2.2 41) (0 : Int32).toNatClampNeg ((s2.1 28) * (60 : Int32)).toNatClampNeg a3.toNatClampNeg))) rfl ?_
    obtain ⟨s3, e⟩ : ∃ z, z = (pr s2 41 (va_cpy (s2.2 38) (s2.2 41) (0 : Int32).toNatClampNeg ((s2.1 28) * (60 : Int32)).toNatClampNeg a3.toNatClampNeg)) := ⟨_, rfl⟩
    rw [← e]
    replace h := (Ok_ld h).2 s3 e
    clear e
    refine G_aload_n d_Rules_add_54 rfl 0 rfl ?_
    refine G_dup d_Rules_add_55 rfl ?_
    refine gx_Rules_count d_Rules_add_56 w_325 ?_
    refine G_dup_x1 d_Rules_add_59 rfl rfl ?_
    refine G_iconst d_Rules_add_60 lt_iconst_1 ?_
    refine G_iadd d_Rules_add_61 ?_
    refine px_Rules_count d_Rules_add_62 w_325 (fun s4 e => ?_)
    replace h := Ok_bnd h s4 e
    clear e
    replace h := Ok_some h
    exact G_iret rfl (vp_nar_int _) d_Rules_add_65 (hR _ _ h)
  replace h := Ok_f c h
  refine G_iconst d_Rules_add_15 lt_iconst_m1 ?_
  replace h := Ok_some h
  exact G_iret rfl (vp_nar_int _) d_Rules_add_16 (hR _ _ h)
theorem c_Rules_add {l : Launch} {D : va_G} {cI cZ cJ : ClassId} {ad : Nat → Nat} (a1 a3 : Int32) (s : MS) {P : Int32 → MS → Prop} (h : Ok2 (f_Rules_add a1 a3 s) P) : Ct (XX l D cI cZ cJ ad) y_Rules_add b_Rules_add 4 (some .int) 1 [.ref (ad 11), .int a1, .ref (ad 51), .int a3] s (P) :=
  Ct.of mi_Rules_add (Nat.le_of_ble_eq_true rfl) (f_Rules_add_w a1 a3 s (Post := fun q => P q.1 q.2) (fun _ _ h => h) (Ok2_ok h))
-- Hb_rule
noncomputable def f_Hb_rule (a1 : Int32) (s : MS) : Option (Int32 × MS) :=
  (f_Hb_isDay a1).bind fun v1 => if v1 = 0 then (some ((-1 : Int32), s)) else (if (s.1 28) < (8 : Int32) then (bd2 (f_Reader_readTape s) fun v2 s3 => bnd (pf s3 18 (0 : Int32)) fun s4 => if v2 = 0 then (some ((-1 : Int32), s4)) else (bd2 (f_Rules_add a1 (s4.1 19) s4) fun v5 s6 => some (v5, s6))) else (some ((-1 : Int32), s)))
theorem f_Hb_rule_w {l : Launch} {D : va_G} {cI cZ cJ : ClassId} {ad : Nat → Nat} (a1 : Int32) (s : MS) {Q : Int32 → MS → Prop} {Post : (Int32 × MS) → Prop} (hR : ∀ (r9 : Int32) (s9 : MS), Post ((r9, s9)) → Q r9 s9) (h : Ok (f_Hb_rule a1 s) Post) : G (XX l D cI cZ cJ ad) "SmallHarbour" b_Hb_rule 3 (some .int) 87 0 [(0, .ref (ad 0)), (1, .int a1)] [] s Q := by
  unfold f_Hb_rule at h
  refine G_iload_n d_Hb_rule_0 rfl 1 rfl ?_
  refine G_callSp (st := []) (As := [.int a1]) d_Hb_rule_1 mi_Hb_isDay w_473 w_474 rfl (Nat.le_of_ble_eq_true rfl) (by decide) (c_Hb_isDay a1 s (Ok_bind h)) (fun v1 h hnv1 => ?_)
  refine G_if_eq (tgt := 19) d_Hb_rule_4 (by decide) (fun c => ?_) (fun c => ?_)
  · replace h := Ok_t c h
    refine G_iconst d_Hb_rule_19 lt_iconst_m1 ?_
    replace h := Ok_some h
    exact G_iret rfl (vp_nar_int _) d_Hb_rule_20 (hR _ _ h)
  replace h := Ok_f c h
  refine G_aload_n d_Hb_rule_7 rfl 0 rfl ?_
  refine gx_Hb_rules d_Hb_rule_8 w_357 ?_
  refine gx_Rules_count d_Hb_rule_11 w_326 ?_
  refine G_bipush d_Hb_rule_14 lt_bipush_8 ?_
  refine G_icmp_lt (tgt := 21) d_Hb_rule_16 (by decide) (fun c => ?_) (fun c => ?_)
  · replace h := Ok_t c h
    refine G_aload_n d_Hb_rule_21 rfl 0 rfl ?_
    refine gx_Hb_reader d_Hb_rule_22 w_356 ?_
    refine G_callVi (st := []) (As := []) (b := ad 10) d_Hb_rule_25 mi_Reader_readTape w_733 10 rfl rfl mv_Reader_readTape rfl (Nat.le_of_ble_eq_true rfl) (by decide) (c_Reader_readTape  s (Ok_bd2 h)) (fun v2 s3 h hnv2 => ?_)
    refine G_istore_n d_Hb_rule_28 rfl (Nat.le_of_ble_eq_true rfl) (fun x => [(2, .int x), (0, .ref (ad 0)), (1, .int a1)]) (fun _ => rfl) (fun x e => ?_)
    subst e
    refine G_aload_n d_Hb_rule_29 rfl 1 rfl ?_
    refine gx_Hb_tape d_Hb_rule_30 w_355 ?_
    refine G_iconst d_Hb_rule_33 lt_iconst_0 ?_
    refine px_Tape_count d_Hb_rule_34 w_269 (fun s4 e => ?_)
    replace h := Ok_bnd h s4 e
    clear e
    refine G_iload_n d_Hb_rule_37 rfl 0 rfl ?_
    refine G_if_eq (tgt := 66) d_Hb_rule_38 (by decide) (fun c => ?_) (fun c => ?_)
    · replace h := Ok_t c h
      refine G_iconst d_Hb_rule_66 lt_iconst_m1 ?_
      replace h := Ok_some h
      exact G_iret rfl (vp_nar_int _) d_Hb_rule_67 (hR _ _ h)
    replace h := Ok_f c h
    refine G_aload_n d_Hb_rule_41 rfl 1 rfl ?_
    refine gx_Hb_rules d_Hb_rule_42 w_357 ?_
    refine G_iload_n d_Hb_rule_45 rfl 2 rfl ?_
    refine G_aload_n d_Hb_rule_46 rfl 1 rfl ?_
    refine gx_Hb_reader d_Hb_rule_47 w_356 ?_
    refine gx_Reader_code d_Hb_rule_50 w_282 ?_
    refine G_aload_n d_Hb_rule_53 rfl 1 rfl ?_
    refine gx_Hb_reader d_Hb_rule_54 w_356 ?_
    refine gx_Reader_size d_Hb_rule_57 w_284 ?_
    refine G_callVi (st := []) (As := [.int a1, .ref (ad 51), .int (s4.1 19)]) (b := ad 11) d_Hb_rule_60 mi_Rules_add w_809 11 rfl rfl mv_Rules_add rfl (Nat.le_of_ble_eq_true rfl) (by decide) (c_Rules_add a1 (s4.1 19) s4 (Ok_bd2 h)) (fun v5 s6 h hnv5 => ?_)
    refine G_goto (tgt := 67) d_Hb_rule_63 (by decide) ?_
    replace h := Ok_some h
    exact G_iret rfl (vp_nar_int _) d_Hb_rule_67 (hR _ _ h)
  replace h := Ok_f c h
  refine G_iconst d_Hb_rule_19 lt_iconst_m1 ?_
  replace h := Ok_some h
  exact G_iret rfl (vp_nar_int _) d_Hb_rule_20 (hR _ _ h)
theorem c_Hb_rule {l : Launch} {D : va_G} {cI cZ cJ : ClassId} {ad : Nat → Nat} (a1 : Int32) (s : MS) {P : Int32 → MS → Prop} (h : Ok2 (f_Hb_rule a1 s) P) : Ct (XX l D cI cZ cJ ad) y_Hb_rule b_Hb_rule 3 (some .int) 87 [.ref (ad 0), .int a1] s (P) :=
  Ct.of mi_Hb_rule (Nat.le_of_ble_eq_true rfl) (f_Hb_rule_w a1 s (Post := fun q => P q.1 q.2) (fun _ _ h => h) (Ok2_ok h))
-- Hb_says
noncomputable def f_Hb_says (a1 a2 a3 a4 : Int32) (s : MS) : Option (Int32 × MS) :=
  bd2 (f_Rules_reckon a1 a2 a3 a4 s) fun v1 s2 => some (v1, s2)
theorem f_Hb_says_w {l : Launch} {D : va_G} {cI cZ cJ : ClassId} {ad : Nat → Nat} (a1 a2 a3 a4 : Int32) (s : MS) {Q : Int32 → MS → Prop} {Post : (Int32 × MS) → Prop} (hR : ∀ (r9 : Int32) (s9 : MS), Post ((r9, s9)) → Q r9 s9) (h : Ok (f_Hb_says a1 a2 a3 a4 s) Post) : G (XX l D cI cZ cJ ad) "SmallHarbour" b_Hb_says 5 (some .int) 3 0 [(0, .ref (ad 0)), (1, .int a1), (2, .int a2), (3, .int a3), (4, .int a4)] [] s Q := by
  unfold f_Hb_says at h
  refine G_aload_n d_Hb_says_0 rfl 0 rfl ?_
  refine gx_Hb_rules d_Hb_says_1 w_357 ?_
  refine G_iload_n d_Hb_says_4 rfl 1 rfl ?_
  refine G_iload_n d_Hb_says_5 rfl 2 rfl ?_
  refine G_iload_n d_Hb_says_6 rfl 3 rfl ?_
  refine G_iload d_Hb_says_7 4 rfl ?_
  refine G_callVi (st := []) (As := [.int a1, .int a2, .int a3, .int a4]) (b := ad 11) d_Hb_says_9 mi_Rules_reckon w_620 11 rfl rfl mv_Rules_reckon rfl (Nat.le_of_ble_eq_true rfl) (by decide) (c_Rules_reckon a1 a2 a3 a4 s (Ok_bd2 h)) (fun v1 s2 h hnv1 => ?_)
  replace h := Ok_some h
  exact G_iret rfl (vp_nar_int _) d_Hb_says_12 (hR _ _ h)
theorem c_Hb_says {l : Launch} {D : va_G} {cI cZ cJ : ClassId} {ad : Nat → Nat} (a1 a2 a3 a4 : Int32) (s : MS) {P : Int32 → MS → Prop} (h : Ok2 (f_Hb_says a1 a2 a3 a4 s) P) : Ct (XX l D cI cZ cJ ad) y_Hb_says b_Hb_says 5 (some .int) 3 [.ref (ad 0), .int a1, .int a2, .int a3, .int a4] s (P) :=
  Ct.of mi_Hb_says (Nat.le_of_ble_eq_true rfl) (f_Hb_says_w a1 a2 a3 a4 s (Post := fun q => P q.1 q.2) (fun _ _ h => h) (Ok2_ok h))
-- Shed_restart
noncomputable def f_Shed_restart (a1 a2 : Int32) (s : MS) : Option (Int32 × MS) :=
  (f_Hb_isWithin a1 (1 : Int32) (4 : Int32)).bind fun v1 => if v1 = 0 then (some ((0 : Int32), s)) else ((f_Hb_isWithin a2 (10 : Int32) (2000 : Int32)).bind fun v2 => if v2 = 0 then (some ((0 : Int32), s)) else (bnd (pf s 16 a1) fun s3 => bnd (pf s3 17 a2) fun s4 => bnd (pf s4 14 (0 : Int32)) fun s5 => bnd (pf s5 15 (0 : Int32)) fun s6 => some ((1 : Int32), s6)))
theorem f_Shed_restart_w {l : Launch} {D : va_G} {cI cZ cJ : ClassId} {ad : Nat → Nat} (a1 a2 : Int32) (s : MS) {Q : Int32 → MS → Prop} {Post : (Int32 × MS) → Prop} (hR : ∀ (r9 : Int32) (s9 : MS), Post ((r9, s9)) → Q r9 s9) (h : Ok (f_Shed_restart a1 a2 s) Post) : G (XX l D cI cZ cJ ad) "SmallHarbour$Shed" b_Shed_restart 3 (some .boolean) 1 0 [(0, .ref (ad 8)), (1, .int a1), (2, .int a2)] [] s Q := by
  unfold f_Shed_restart at h
  refine G_iload_n d_Shed_restart_0 rfl 1 rfl ?_
  refine G_iconst d_Shed_restart_1 lt_iconst_1 ?_
  refine G_iconst d_Shed_restart_2 lt_iconst_4 ?_
  refine G_callNp (st := []) (As := [.int a1, .int (1 : Int32), .int (4 : Int32)]) d_Shed_restart_3 mi_Hb_isWithin w_682 w_423 rfl (Nat.le_of_ble_eq_true rfl) (by decide) (c_Hb_isWithin a1 (1 : Int32) (4 : Int32) s (Ok_bind h)) (fun v1 h hnv1 => ?_)
  refine G_if_eq (tgt := 21) d_Shed_restart_6 (by decide) (fun c => ?_) (fun c => ?_)
  · replace h := Ok_t c h
    refine G_iconst d_Shed_restart_21 lt_iconst_0 ?_
    replace h := Ok_some h
    exact G_iret rfl rfl d_Shed_restart_22 (hR _ _ h)
  replace h := Ok_f c h
  refine G_iload_n d_Shed_restart_9 rfl 2 rfl ?_
  refine G_bipush d_Shed_restart_10 lt_bipush_10 ?_
  refine G_sipush d_Shed_restart_12 lt_sipush_2000 ?_
  refine G_callNp (st := []) (As := [.int a2, .int (10 : Int32), .int (2000 : Int32)]) d_Shed_restart_15 mi_Hb_isWithin w_682 w_423 rfl (Nat.le_of_ble_eq_true rfl) (by decide) (c_Hb_isWithin a2 (10 : Int32) (2000 : Int32) s (Ok_bind h)) (fun v2 h hnv2 => ?_)
  refine G_if_ne (tgt := 23) d_Shed_restart_18 (by decide) (fun c => ?_) (fun c => ?_)
  · replace h := Ok_f c h
    refine G_aload_n d_Shed_restart_23 rfl 0 rfl ?_
    refine G_iload_n d_Shed_restart_24 rfl 1 rfl ?_
    refine px_Shed_lanes d_Shed_restart_25 w_231 (fun s3 e => ?_)
    replace h := Ok_bnd h s3 e
    clear e
    refine G_aload_n d_Shed_restart_28 rfl 0 rfl ?_
    refine G_iload_n d_Shed_restart_29 rfl 2 rfl ?_
    refine px_Shed_laneLength d_Shed_restart_30 w_232 (fun s4 e => ?_)
    replace h := Ok_bnd h s4 e
    clear e
    refine G_aload_n d_Shed_restart_33 rfl 0 rfl ?_
    refine G_iconst d_Shed_restart_34 lt_iconst_0 ?_
    refine px_Shed_count d_Shed_restart_35 w_225 (fun s5 e => ?_)
    replace h := Ok_bnd h s5 e
    clear e
    refine G_aload_n d_Shed_restart_38 rfl 0 rfl ?_
    refine G_iconst d_Shed_restart_39 lt_iconst_0 ?_
    refine px_Shed_fewest d_Shed_restart_40 w_227 (fun s6 e => ?_)
    replace h := Ok_bnd h s6 e
    clear e
    refine G_iconst d_Shed_restart_43 lt_iconst_1 ?_
    replace h := Ok_some h
    exact G_iret rfl rfl d_Shed_restart_44 (hR _ _ h)
  replace h := Ok_t c h
  refine G_iconst d_Shed_restart_21 lt_iconst_0 ?_
  replace h := Ok_some h
  exact G_iret rfl rfl d_Shed_restart_22 (hR _ _ h)
theorem c_Shed_restart {l : Launch} {D : va_G} {cI cZ cJ : ClassId} {ad : Nat → Nat} (a1 a2 : Int32) (s : MS) {P : Int32 → MS → Prop} (h : Ok2 (f_Shed_restart a1 a2 s) P) : Ct (XX l D cI cZ cJ ad) y_Shed_restart b_Shed_restart 3 (some .boolean) 1 [.ref (ad 8), .int a1, .int a2] s (P) :=
  Ct.of mi_Shed_restart (Nat.le_of_ble_eq_true rfl) (f_Shed_restart_w a1 a2 s (Post := fun q => P q.1 q.2) (fun _ _ h => h) (Ok2_ok h))
-- Hb_shed
noncomputable def f_Hb_shed (a1 a2 : Int32) (s : MS) : Option (Int32 × MS) :=
  bd2 (f_Shed_restart a1 a2 s) fun v1 s2 => some (v1, s2)
theorem f_Hb_shed_w {l : Launch} {D : va_G} {cI cZ cJ : ClassId} {ad : Nat → Nat} (a1 a2 : Int32) (s : MS) {Q : Int32 → MS → Prop} {Post : (Int32 × MS) → Prop} (hR : ∀ (r9 : Int32) (s9 : MS), Post ((r9, s9)) → Q r9 s9) (h : Ok (f_Hb_shed a1 a2 s) Post) : G (XX l D cI cZ cJ ad) "SmallHarbour" b_Hb_shed 3 (some .boolean) 2 0 [(0, .ref (ad 0)), (1, .int a1), (2, .int a2)] [] s Q := by
  unfold f_Hb_shed at h
  refine G_aload_n d_Hb_shed_0 rfl 0 rfl ?_
  refine gx_Hb_barn d_Hb_shed_1 w_354 ?_
  refine G_iload_n d_Hb_shed_4 rfl 1 rfl ?_
  refine G_iload_n d_Hb_shed_5 rfl 2 rfl ?_
  refine G_callVi (st := []) (As := [.int a1, .int a2]) (b := ad 8) d_Hb_shed_6 mi_Shed_restart w_678 8 rfl rfl mv_Shed_restart rfl (Nat.le_of_ble_eq_true rfl) (by decide) (c_Shed_restart a1 a2 s (Ok_bd2 h)) (fun v1 s2 h hnv1 => ?_)
  replace h := Ok_some h
  exact G_iret rfl hnv1 d_Hb_shed_9 (hR _ _ h)
theorem c_Hb_shed {l : Launch} {D : va_G} {cI cZ cJ : ClassId} {ad : Nat → Nat} (a1 a2 : Int32) (s : MS) {P : Int32 → MS → Prop} (h : Ok2 (f_Hb_shed a1 a2 s) P) : Ct (XX l D cI cZ cJ ad) y_Hb_shed b_Hb_shed 3 (some .boolean) 2 [.ref (ad 0), .int a1, .int a2] s (P) :=
  Ct.of mi_Hb_shed (Nat.le_of_ble_eq_true rfl) (f_Hb_shed_w a1 a2 s (Post := fun q => P q.1 q.2) (fun _ _ h => h) (Ok2_ok h))
-- Hb_stay
noncomputable def Hb_stay_l53 (x1 x2 x3 : Int32) (s : MS) (x4 : Int32) : Option ((Int32) ⊕ (Int32 × MS)) :=
  if (s.1 2) ≤ x4 then (xit (some ((-1 : Int32), s))) else ((f_Hb_canLie x1 x4 x2 x3 s).bind fun v1 => if v1 = 0 then (bnd (x4 + (1 : Int32)) fun v2 => some (.inl v2)) else ((f_Stays_atBerth x4 x2 x3 s).bind fun v3 => if v3 = (-1 : Int32) then (xit (bd2 (f_Stays_add x1 x4 x2 x3 s) fun v5 s6 => some (v5, s6))) else (bnd (x4 + (1 : Int32)) fun v4 => some (.inl v4))))
theorem Hb_stay_l53_w {l : Launch} {D : va_G} {cI cZ cJ : ClassId} {ad : Nat → Nat} (x1 x2 x3 x4 : Int32) (s : MS) {Q : Int32 → MS → Prop} {Post : ((Int32) ⊕ (Int32 × MS)) → Prop} (hR : ∀ (r9 : Int32) (s9 : MS), Post (.inr ((r9, s9))) → Q r9 s9) (hL53 : ∀ (z4 : Int32) , Post (.inl z4) → G (XX l D cI cZ cJ ad) "SmallHarbour" b_Hb_stay 5 (some .int) 4 53 [(0, .ref (ad 0)), (1, .int x1), (2, .int x2), (3, .int x3), (4, .int z4)] [] s Q) (h : Ok (Hb_stay_l53 x1 x2 x3 s x4) Post) : G (XX l D cI cZ cJ ad) "SmallHarbour" b_Hb_stay 5 (some .int) 4 53 [(0, .ref (ad 0)), (1, .int x1), (2, .int x2), (3, .int x3), (4, .int x4)] [] s Q := by
  unfold Hb_stay_l53 at h
  refine G_iload d_Hb_stay_53 4 rfl ?_
  refine G_aload_n d_Hb_stay_55 rfl 0 rfl ?_
  refine gx_Hb_berths d_Hb_stay_56 w_348 ?_
  refine gx_Berths_count d_Hb_stay_59 w_50 ?_
  refine G_icmp_ge (tgt := 111) d_Hb_stay_62 (by decide) (fun c => ?_) (fun c => ?_)
  · replace h := Ok_t c h
    replace h := Ok_xit h
    refine G_iconst d_Hb_stay_111 lt_iconst_m1 ?_
    replace h := Ok_some h
    exact G_iret rfl (vp_nar_int _) d_Hb_stay_112 (hR _ _ h)
  replace h := Ok_f c h
  refine G_aload_n d_Hb_stay_65 rfl 0 rfl ?_
  refine G_iload_n d_Hb_stay_66 rfl 1 rfl ?_
  refine G_iload d_Hb_stay_67 4 rfl ?_
  refine G_iload_n d_Hb_stay_69 rfl 2 rfl ?_
  refine G_iload_n d_Hb_stay_70 rfl 3 rfl ?_
  refine G_callVp (st := []) (As := [.int x1, .int x4, .int x2, .int x3]) (b := ad 0) d_Hb_stay_71 mi_Hb_canLie w_523 0 rfl rfl mv_Hb_canLie rfl (Nat.le_of_ble_eq_true rfl) (by decide) (c_Hb_canLie x1 x4 x2 x3 s (Ok_bind h)) (fun v1 h hnv1 => ?_)
  refine G_if_eq (tgt := 105) d_Hb_stay_74 (by decide) (fun c => ?_) (fun c => ?_)
  · replace h := Ok_t c h
    refine G_iinc d_Hb_stay_105 4 rfl lt_iconst_1 rfl (Nat.le_of_ble_eq_true rfl) (fun x => [(4, .int x), (0, .ref (ad 0)), (1, .int x1), (2, .int x2), (3, .int x3)]) (fun _ => rfl) (fun v2 e => ?_)
    replace h := Ok_bnd h v2 e
    clear e
    refine G_goto (tgt := 53) d_Hb_stay_108 (by decide) ?_
    refine G_lv [1, 2, 3, 4, 0] rfl ?_
    replace h := Ok_some h
    exact hL53 v2 h
  replace h := Ok_f c h
  refine G_aload_n d_Hb_stay_77 rfl 0 rfl ?_
  refine gx_Hb_stays d_Hb_stay_78 w_351 ?_
  refine G_iload d_Hb_stay_81 4 rfl ?_
  refine G_iload_n d_Hb_stay_83 rfl 2 rfl ?_
  refine G_iload_n d_Hb_stay_84 rfl 3 rfl ?_
  refine G_callVp (st := []) (As := [.int x4, .int x2, .int x3]) (b := ad 5) d_Hb_stay_85 mi_Stays_atBerth w_442 5 rfl rfl mv_Stays_atBerth rfl (Nat.le_of_ble_eq_true rfl) (by decide) (c_Stays_atBerth x4 x2 x3 s (Ok_bind h)) (fun v3 h hnv3 => ?_)
  refine G_iconst d_Hb_stay_88 lt_iconst_m1 ?_
  refine G_icmp_ne (tgt := 105) d_Hb_stay_89 (by decide) (fun c => ?_) (fun c => ?_)
  · replace h := Ok_f c h
    refine G_iinc d_Hb_stay_105 4 rfl lt_iconst_1 rfl (Nat.le_of_ble_eq_true rfl) (fun x => [(4, .int x), (0, .ref (ad 0)), (1, .int x1), (2, .int x2), (3, .int x3)]) (fun _ => rfl) (fun v4 e => ?_)
    replace h := Ok_bnd h v4 e
    clear e
    refine G_goto (tgt := 53) d_Hb_stay_108 (by decide) ?_
    refine G_lv [1, 2, 3, 4, 0] rfl ?_
    replace h := Ok_some h
    exact hL53 v4 h
  replace h := Ok_t c h
  replace h := Ok_xit h
  refine G_aload_n d_Hb_stay_92 rfl 0 rfl ?_
  refine gx_Hb_stays d_Hb_stay_93 w_351 ?_
  refine G_iload_n d_Hb_stay_96 rfl 1 rfl ?_
  refine G_iload d_Hb_stay_97 4 rfl ?_
  refine G_iload_n d_Hb_stay_99 rfl 2 rfl ?_
  refine G_iload_n d_Hb_stay_100 rfl 3 rfl ?_
  refine G_callVi (st := []) (As := [.int x1, .int x4, .int x2, .int x3]) (b := ad 5) d_Hb_stay_101 mi_Stays_add w_527 5 rfl rfl mv_Stays_add rfl (Nat.le_of_ble_eq_true rfl) (by decide) (c_Stays_add x1 x4 x2 x3 s (Ok_bd2 h)) (fun v5 s6 h hnv5 => ?_)
  replace h := Ok_some h
  exact G_iret rfl (vp_nar_int _) d_Hb_stay_104 (hR _ _ h)
noncomputable def f_Hb_stay (a1 a2 a3 : Int32) (s : MS) : Option (Int32 × MS) :=
  (f_Boats_has a1 s).bind fun v1 => if v1 = 0 then (some ((-1 : Int32), s)) else (chk (inb a1 30) (bnd (s.2 10 a1.toNatClampNeg) fun v2 => if v2 = (-1 : Int32) then ((f_Hb_areNights a2 a3).bind fun v3 => if v3 = 0 then (some ((-1 : Int32), s)) else ((f_Stays_ofBoat a1 a2 a3 s).bind fun v4 => if v4 = (-1 : Int32) then (loop (fun z => Hb_stay_l53 a1 a2 a3 s z) (0 : Int32)) else (some ((-1 : Int32), s)))) else (some ((-1 : Int32), s))))
theorem f_Hb_stay_w {l : Launch} {D : va_G} {cI cZ cJ : ClassId} {ad : Nat → Nat} (a1 a2 a3 : Int32) (s : MS) {Q : Int32 → MS → Prop} {Post : (Int32 × MS) → Prop} (hR : ∀ (r9 : Int32) (s9 : MS), Post ((r9, s9)) → Q r9 s9) (h : Ok (f_Hb_stay a1 a2 a3 s) Post) : G (XX l D cI cZ cJ ad) "SmallHarbour" b_Hb_stay 5 (some .int) 4 0 [(0, .ref (ad 0)), (1, .int a1), (2, .int a2), (3, .int a3)] [] s Q := by
  unfold f_Hb_stay at h
  refine G_aload_n d_Hb_stay_0 rfl 0 rfl ?_
  refine gx_Hb_boats d_Hb_stay_1 w_349 ?_
  refine G_iload_n d_Hb_stay_4 rfl 1 rfl ?_
  refine G_callVp (st := []) (As := [.int a1]) (b := ad 3) d_Hb_stay_5 mi_Boats_has w_465 3 rfl rfl mv_Boats_has rfl (Nat.le_of_ble_eq_true rfl) (by decide) (c_Boats_has a1 s (Ok_bind h)) (fun v1 h hnv1 => ?_)
  refine G_if_eq (tgt := 32) d_Hb_stay_8 (by decide) (fun c => ?_) (fun c => ?_)
  · replace h := Ok_t c h
    refine G_iconst d_Hb_stay_32 lt_iconst_m1 ?_
    replace h := Ok_some h
    exact G_iret rfl (vp_nar_int _) d_Hb_stay_33 (hR _ _ h)
  replace h := Ok_f c h
  refine G_aload_n d_Hb_stay_11 rfl 0 rfl ?_
  refine gx_Hb_boats d_Hb_stay_12 w_349 ?_
  refine gx_Boats_home d_Hb_stay_15 w_73 ?_
  refine G_iload_n d_Hb_stay_18 rfl 1 rfl ?_
  refine lx_10 d_Hb_stay_19 (Ok_ld h).1 (fun v2 e => ?_)
  replace h := (Ok_ld h).2 v2 e
  clear e
  refine G_iconst d_Hb_stay_20 lt_iconst_m1 ?_
  refine G_icmp_ne (tgt := 32) d_Hb_stay_21 (by decide) (fun c => ?_) (fun c => ?_)
  · replace h := Ok_f c h
    refine G_iconst d_Hb_stay_32 lt_iconst_m1 ?_
    replace h := Ok_some h
    exact G_iret rfl (vp_nar_int _) d_Hb_stay_33 (hR _ _ h)
  replace h := Ok_t c h
  refine G_iload_n d_Hb_stay_24 rfl 2 rfl ?_
  refine G_iload_n d_Hb_stay_25 rfl 3 rfl ?_
  refine G_callSp (st := []) (As := [.int a2, .int a3]) d_Hb_stay_26 mi_Hb_areNights w_512 w_513 rfl (Nat.le_of_ble_eq_true rfl) (by decide) (c_Hb_areNights a2 a3 s (Ok_bind h)) (fun v3 h hnv3 => ?_)
  refine G_if_ne (tgt := 34) d_Hb_stay_29 (by decide) (fun c => ?_) (fun c => ?_)
  · replace h := Ok_f c h
    refine G_aload_n d_Hb_stay_34 rfl 0 rfl ?_
    refine gx_Hb_stays d_Hb_stay_35 w_351 ?_
    refine G_iload_n d_Hb_stay_38 rfl 1 rfl ?_
    refine G_iload_n d_Hb_stay_39 rfl 2 rfl ?_
    refine G_iload_n d_Hb_stay_40 rfl 3 rfl ?_
    refine G_callVp (st := []) (As := [.int a1, .int a2, .int a3]) (b := ad 5) d_Hb_stay_41 mi_Stays_ofBoat w_480 5 rfl rfl mv_Stays_ofBoat rfl (Nat.le_of_ble_eq_true rfl) (by decide) (c_Stays_ofBoat a1 a2 a3 s (Ok_bind h)) (fun v4 h hnv4 => ?_)
    refine G_iconst d_Hb_stay_44 lt_iconst_m1 ?_
    refine G_icmp_eq (tgt := 50) d_Hb_stay_45 (by decide) (fun c => ?_) (fun c => ?_)
    · replace h := Ok_t c h
      refine G_iconst d_Hb_stay_50 lt_iconst_0 ?_
      refine G_istore d_Hb_stay_51 (Nat.le_of_ble_eq_true rfl) (fun x => [(4, .int x), (0, .ref (ad 0)), (1, .int a1), (2, .int a2), (3, .int a3)]) (fun _ => rfl) (fun x e => ?_)
      subst e
      refine G_lv [1, 2, 3, 4, 0] rfl ?_
      refine G_loop (J := (fun z => G (XX l D cI cZ cJ ad) "SmallHarbour" b_Hb_stay 5 (some .int) 4 53 [(0, .ref (ad 0)), (1, .int a1), (2, .int a2), (3, .int a3), (4, .int z)] [] s Q)) (fun z h => ?_) (0 : Int32) h
      refine Hb_stay_l53_w a1 a2 a3 z s ?_ ?_ h
      · exact hR
      · exact (fun z4 h => h)
    replace h := Ok_f c h
    refine G_iconst d_Hb_stay_48 lt_iconst_m1 ?_
    replace h := Ok_some h
    exact G_iret rfl (vp_nar_int _) d_Hb_stay_49 (hR _ _ h)
  replace h := Ok_t c h
  refine G_iconst d_Hb_stay_32 lt_iconst_m1 ?_
  replace h := Ok_some h
  exact G_iret rfl (vp_nar_int _) d_Hb_stay_33 (hR _ _ h)
theorem c_Hb_stay {l : Launch} {D : va_G} {cI cZ cJ : ClassId} {ad : Nat → Nat} (a1 a2 a3 : Int32) (s : MS) {P : Int32 → MS → Prop} (h : Ok2 (f_Hb_stay a1 a2 a3 s) P) : Ct (XX l D cI cZ cJ ad) y_Hb_stay b_Hb_stay 5 (some .int) 4 [.ref (ad 0), .int a1, .int a2, .int a3] s (P) :=
  Ct.of mi_Hb_stay (Nat.le_of_ble_eq_true rfl) (f_Hb_stay_w a1 a2 a3 s (Post := fun q => P q.1 q.2) (fun _ _ h => h) (Ok2_ok h))
-- Hb_stayOf
noncomputable def f_Hb_stayOf (a1 a2 : Int32) (s : MS) : Option (Int32 × MS) :=
  (f_Stays_has a1 s).bind fun v1 => if v1 = 0 then (some ((-1 : Int32), s)) else (bnd a2 fun v2 => if v2 = (0 : Int32) then (chk (inb a1 40) (bnd (s.2 14 a1.toNatClampNeg) fun v3 => some (v3, s))) else (if v2 = (1 : Int32) then (chk (inb a1 40) (bnd (s.2 15 a1.toNatClampNeg) fun v4 => some (v4, s))) else (if v2 = (2 : Int32) then (chk (inb a1 40) (bnd (s.2 16 a1.toNatClampNeg) fun v5 => some (v5, s))) else (if v2 = (3 : Int32) then (chk (inb a1 40) (bnd (s.2 17 a1.toNatClampNeg) fun v6 => some (v6, s))) else (if v2 = (4 : Int32) then (bd2 (f_Hb_billOf a1 s) fun v7 s8 => some (v7, s8)) else (some ((-1 : Int32), s)))))))
theorem f_Hb_stayOf_w {l : Launch} {D : va_G} {cI cZ cJ : ClassId} {ad : Nat → Nat} (a1 a2 : Int32) (s : MS) {Q : Int32 → MS → Prop} {Post : (Int32 × MS) → Prop} (hR : ∀ (r9 : Int32) (s9 : MS), Post ((r9, s9)) → Q r9 s9) (h : Ok (f_Hb_stayOf a1 a2 s) Post) : G (XX l D cI cZ cJ ad) "SmallHarbour" b_Hb_stayOf 3 (some .int) 4 0 [(0, .ref (ad 0)), (1, .int a1), (2, .int a2)] [] s Q := by
  unfold f_Hb_stayOf at h
  refine G_aload_n d_Hb_stayOf_0 rfl 0 rfl ?_
  refine gx_Hb_stays d_Hb_stayOf_1 w_351 ?_
  refine G_iload_n d_Hb_stayOf_4 rfl 1 rfl ?_
  refine G_callVp (st := []) (As := [.int a1]) (b := ad 5) d_Hb_stayOf_5 mi_Stays_has w_535 5 rfl rfl mv_Stays_has rfl (Nat.le_of_ble_eq_true rfl) (by decide) (c_Stays_has a1 s (Ok_bind h)) (fun v1 h hnv1 => ?_)
  refine G_if_ne (tgt := 13) d_Hb_stayOf_8 (by decide) (fun c => ?_) (fun c => ?_)
  · replace h := Ok_f c h
    refine G_iload_n d_Hb_stayOf_13 rfl 2 rfl ?_
    refine G_topi (fun v2 e => ?_)
    replace h := Ok_bnd h v2 e
    clear e
    by_cases c0 : v2 = (0 : Int32)
    · replace h := Ok_t c0 h
      refine G_tableIn (tgt := 48) d_Hb_stayOf_14 (by rw [c0]; decide) (by rw [c0]; decide) (by rw [c0]; rfl) (by decide) ?_
      refine G_aload_n d_Hb_stayOf_48 rfl 0 rfl ?_
      refine gx_Hb_stays d_Hb_stayOf_49 w_351 ?_
      refine gx_Stays_boat d_Hb_stayOf_52 w_116 ?_
      refine G_iload_n d_Hb_stayOf_55 rfl 1 rfl ?_
      refine lx_14 d_Hb_stayOf_56 (Ok_ld h).1 (fun v3 e => ?_)
      replace h := (Ok_ld h).2 v3 e
      clear e
      replace h := Ok_some h
      exact G_iret rfl (vp_nar_int _) d_Hb_stayOf_57 (hR _ _ h)
    replace h := Ok_f c0 h
    have n0 := ne_ti (z := 0) (by decide) c0
    by_cases c1 : v2 = (1 : Int32)
    · replace h := Ok_t c1 h
      refine G_tableIn (tgt := 58) d_Hb_stayOf_14 (by rw [c1]; decide) (by rw [c1]; decide) (by rw [c1]; rfl) (by decide) ?_
      refine G_aload_n d_Hb_stayOf_58 rfl 0 rfl ?_
      refine gx_Hb_stays d_Hb_stayOf_59 w_351 ?_
      refine gx_Stays_berth d_Hb_stayOf_62 w_118 ?_
      refine G_iload_n d_Hb_stayOf_65 rfl 1 rfl ?_
      refine lx_15 d_Hb_stayOf_66 (Ok_ld h).1 (fun v4 e => ?_)
      replace h := (Ok_ld h).2 v4 e
      clear e
      replace h := Ok_some h
      exact G_iret rfl (vp_nar_int _) d_Hb_stayOf_67 (hR _ _ h)
    replace h := Ok_f c1 h
    have n1 := ne_ti (z := 1) (by decide) c1
    by_cases c2 : v2 = (2 : Int32)
    · replace h := Ok_t c2 h
      refine G_tableIn (tgt := 68) d_Hb_stayOf_14 (by rw [c2]; decide) (by rw [c2]; decide) (by rw [c2]; rfl) (by decide) ?_
      refine G_aload_n d_Hb_stayOf_68 rfl 0 rfl ?_
      refine gx_Hb_stays d_Hb_stayOf_69 w_351 ?_
      refine gx_Stays_from d_Hb_stayOf_72 w_120 ?_
      refine G_iload_n d_Hb_stayOf_75 rfl 1 rfl ?_
      refine lx_16 d_Hb_stayOf_76 (Ok_ld h).1 (fun v5 e => ?_)
      replace h := (Ok_ld h).2 v5 e
      clear e
      replace h := Ok_some h
      exact G_iret rfl (vp_nar_int _) d_Hb_stayOf_77 (hR _ _ h)
    replace h := Ok_f c2 h
    have n2 := ne_ti (z := 2) (by decide) c2
    by_cases c3 : v2 = (3 : Int32)
    · replace h := Ok_t c3 h
      refine G_tableIn (tgt := 78) d_Hb_stayOf_14 (by rw [c3]; decide) (by rw [c3]; decide) (by rw [c3]; rfl) (by decide) ?_
      refine G_aload_n d_Hb_stayOf_78 rfl 0 rfl ?_
      refine gx_Hb_stays d_Hb_stayOf_79 w_351 ?_
      refine gx_Stays_to d_Hb_stayOf_82 w_122 ?_
      refine G_iload_n d_Hb_stayOf_85 rfl 1 rfl ?_
      refine lx_17 d_Hb_stayOf_86 (Ok_ld h).1 (fun v6 e => ?_)
      replace h := (Ok_ld h).2 v6 e
      clear e
      replace h := Ok_some h
      exact G_iret rfl (vp_nar_int _) d_Hb_stayOf_87 (hR _ _ h)
    replace h := Ok_f c3 h
    have n3 := ne_ti (z := 3) (by decide) c3
    by_cases c4 : v2 = (4 : Int32)
    · replace h := Ok_t c4 h
      refine G_tableIn (tgt := 88) d_Hb_stayOf_14 (by rw [c4]; decide) (by rw [c4]; decide) (by rw [c4]; rfl) (by decide) ?_
      refine G_aload_n d_Hb_stayOf_88 rfl 0 rfl ?_
      refine G_iload_n d_Hb_stayOf_89 rfl 1 rfl ?_
      refine G_callVi (st := []) (As := [.int a1]) (b := ad 0) d_Hb_stayOf_90 mi_Hb_billOf w_612 0 rfl rfl mv_Hb_billOf rfl (Nat.le_of_ble_eq_true rfl) (by decide) (c_Hb_billOf a1 s (Ok_bd2 h)) (fun v7 s8 h hnv7 => ?_)
      replace h := Ok_some h
      exact G_iret rfl (vp_nar_int _) d_Hb_stayOf_93 (hR _ _ h)
    replace h := Ok_f c4 h
    have n4 := ne_ti (z := 4) (by decide) c4
    refine G_tableOut (tgt := 94) d_Hb_stayOf_14 (by omega) (by decide) ?_
    refine G_iconst d_Hb_stayOf_94 lt_iconst_m1 ?_
    replace h := Ok_some h
    exact G_iret rfl (vp_nar_int _) d_Hb_stayOf_95 (hR _ _ h)
  replace h := Ok_t c h
  refine G_iconst d_Hb_stayOf_11 lt_iconst_m1 ?_
  replace h := Ok_some h
  exact G_iret rfl (vp_nar_int _) d_Hb_stayOf_12 (hR _ _ h)
theorem c_Hb_stayOf {l : Launch} {D : va_G} {cI cZ cJ : ClassId} {ad : Nat → Nat} (a1 a2 : Int32) (s : MS) {P : Int32 → MS → Prop} (h : Ok2 (f_Hb_stayOf a1 a2 s) P) : Ct (XX l D cI cZ cJ ad) y_Hb_stayOf b_Hb_stayOf 3 (some .int) 4 [.ref (ad 0), .int a1, .int a2] s (P) :=
  Ct.of mi_Hb_stayOf (Nat.le_of_ble_eq_true rfl) (f_Hb_stayOf_w a1 a2 s (Post := fun q => P q.1 q.2) (fun _ _ h => h) (Ok2_ok h))
-- Shed_isIn
noncomputable def Shed_isIn_l2 (x1 : Int32) (s : MS) (x2 : Int32) : Option ((Int32) ⊕ Int32) :=
  if (s.1 14) ≤ x2 then (xit (some (0 : Int32))) else (chk (inb x2 9) (bnd (s.2 32 x2.toNatClampNeg) fun v1 => if v1 = x1 then (xit (some (1 : Int32))) else (bnd (x2 + (1 : Int32)) fun v2 => some (.inl v2))))
theorem Shed_isIn_l2_w {l : Launch} {D : va_G} {cI cZ cJ : ClassId} {ad : Nat → Nat} (x1 x2 : Int32) (s : MS) {Q : Int32 → MS → Prop} {Post : ((Int32) ⊕ Int32) → Prop} (hR : ∀ (r9 : Int32), Post (.inr (r9)) → Q r9 s) (hL2 : ∀ (z2 : Int32) , Post (.inl z2) → G (XX l D cI cZ cJ ad) "SmallHarbour$Shed" b_Shed_isIn 3 (some .boolean) 0 2 [(0, .ref (ad 8)), (1, .int x1), (2, .int z2)] [] s Q) (h : Ok (Shed_isIn_l2 x1 s x2) Post) : G (XX l D cI cZ cJ ad) "SmallHarbour$Shed" b_Shed_isIn 3 (some .boolean) 0 2 [(0, .ref (ad 8)), (1, .int x1), (2, .int x2)] [] s Q := by
  unfold Shed_isIn_l2 at h
  refine G_iload_n d_Shed_isIn_2 rfl 2 rfl ?_
  refine G_aload_n d_Shed_isIn_3 rfl 0 rfl ?_
  refine gx_Shed_count d_Shed_isIn_4 w_225 ?_
  refine G_icmp_ge (tgt := 28) d_Shed_isIn_7 (by decide) (fun c => ?_) (fun c => ?_)
  · replace h := Ok_t c h
    replace h := Ok_xit h
    refine G_iconst d_Shed_isIn_28 lt_iconst_0 ?_
    replace h := Ok_some h
    exact G_iret rfl rfl d_Shed_isIn_29 (hR _ h)
  replace h := Ok_f c h
  refine G_aload_n d_Shed_isIn_10 rfl 0 rfl ?_
  refine gx_Shed_boat d_Shed_isIn_11 w_233 ?_
  refine G_iload_n d_Shed_isIn_14 rfl 2 rfl ?_
  refine lx_32 d_Shed_isIn_15 (Ok_ld h).1 (fun v1 e => ?_)
  replace h := (Ok_ld h).2 v1 e
  clear e
  refine G_iload_n d_Shed_isIn_16 rfl 1 rfl ?_
  refine G_icmp_ne (tgt := 22) d_Shed_isIn_17 (by decide) (fun c => ?_) (fun c => ?_)
  · replace h := Ok_f c h
    refine G_iinc d_Shed_isIn_22 2 rfl lt_iconst_1 rfl (Nat.le_of_ble_eq_true rfl) (fun x => [(2, .int x), (0, .ref (ad 8)), (1, .int x1)]) (fun _ => rfl) (fun v2 e => ?_)
    replace h := Ok_bnd h v2 e
    clear e
    refine G_goto (tgt := 2) d_Shed_isIn_25 (by decide) ?_
    refine G_lv [1, 2, 0] rfl ?_
    replace h := Ok_some h
    exact hL2 v2 h
  replace h := Ok_t c h
  replace h := Ok_xit h
  refine G_iconst d_Shed_isIn_20 lt_iconst_1 ?_
  replace h := Ok_some h
  exact G_iret rfl rfl d_Shed_isIn_21 (hR _ h)
noncomputable def f_Shed_isIn (a1 : Int32) (s : MS) : Option Int32 :=
  loop (fun z => Shed_isIn_l2 a1 s z) (0 : Int32)
theorem f_Shed_isIn_w {l : Launch} {D : va_G} {cI cZ cJ : ClassId} {ad : Nat → Nat} (a1 : Int32) (s : MS) {Q : Int32 → MS → Prop} {Post : Int32 → Prop} (hR : ∀ (r9 : Int32), Post (r9) → Q r9 s) (h : Ok (f_Shed_isIn a1 s) Post) : G (XX l D cI cZ cJ ad) "SmallHarbour$Shed" b_Shed_isIn 3 (some .boolean) 0 0 [(0, .ref (ad 8)), (1, .int a1)] [] s Q := by
  unfold f_Shed_isIn at h
  refine G_iconst d_Shed_isIn_0 lt_iconst_0 ?_
  refine G_istore_n d_Shed_isIn_1 rfl (Nat.le_of_ble_eq_true rfl) (fun x => [(2, .int x), (0, .ref (ad 8)), (1, .int a1)]) (fun _ => rfl) (fun x e => ?_)
  subst e
  refine G_lv [1, 2, 0] rfl ?_
  refine G_loop (J := (fun z => G (XX l D cI cZ cJ ad) "SmallHarbour$Shed" b_Shed_isIn 3 (some .boolean) 0 2 [(0, .ref (ad 8)), (1, .int a1), (2, .int z)] [] s Q)) (fun z h => ?_) (0 : Int32) h
  refine Shed_isIn_l2_w a1 z s ?_ ?_ h
  · exact hR
  · exact (fun z2 h => h)
theorem c_Shed_isIn {l : Launch} {D : va_G} {cI cZ cJ : ClassId} {ad : Nat → Nat} (a1 : Int32) (s : MS) {P : Int32 → Prop} (h : Ok (f_Shed_isIn a1 s) P) : Ct (XX l D cI cZ cJ ad) y_Shed_isIn b_Shed_isIn 3 (some .boolean) 0 [.ref (ad 8), .int a1] s (fun r9 s9 => s9 = s ∧ P r9) :=
  Ct.of mi_Shed_isIn (Nat.le_of_ble_eq_true rfl) (f_Shed_isIn_w a1 s (fun _ h => ⟨rfl, h⟩) h)
-- Shed_movesBy
noncomputable def Shed_movesBy_l5 (x1 x2 : Int32) (s : MS) (x3 x4 : Int32) : Option ((Int32 × Int32) ⊕ Int32) :=
  if x1 ≤ x4 then (xit (some x3)) else (chk (inb x4 9) (bnd (s.2 35 x4.toNatClampNeg) fun v1 => if v1 = x2 then (chk (inb x4 9) (bnd (s.2 34 x4.toNatClampNeg) fun v3 => chk (inb x1 9) (bnd (s.2 34 x1.toNatClampNeg) fun v4 => if v4 ≤ v3 then (bnd (x4 + (1 : Int32)) fun v5 => some (.inl (x3, v5))) else (bnd (x3 + (1 : Int32)) fun v6 => bnd (x4 + (1 : Int32)) fun v7 => some (.inl (v6, v7)))))) else (bnd (x4 + (1 : Int32)) fun v2 => some (.inl (x3, v2)))))
theorem Shed_movesBy_l5_w {l : Launch} {D : va_G} {cI cZ cJ : ClassId} {ad : Nat → Nat} (x1 x2 x3 x4 : Int32) (s : MS) {Q : Int32 → MS → Prop} {Post : ((Int32 × Int32) ⊕ Int32) → Prop} (hR : ∀ (r9 : Int32), Post (.inr (r9)) → Q r9 s) (hL5 : ∀ (z3 z4 : Int32) , Post (.inl (z3, z4)) → G (XX l D cI cZ cJ ad) "SmallHarbour$Shed" b_Shed_movesBy 5 (some .int) 0 5 [(0, .ref (ad 8)), (1, .int x1), (2, .int x2), (3, .int z3), (4, .int z4)] [] s Q) (h : Ok (Shed_movesBy_l5 x1 x2 s x3 x4) Post) : G (XX l D cI cZ cJ ad) "SmallHarbour$Shed" b_Shed_movesBy 5 (some .int) 0 5 [(0, .ref (ad 8)), (1, .int x1), (2, .int x2), (3, .int x3), (4, .int x4)] [] s Q := by
  unfold Shed_movesBy_l5 at h
  refine G_iload d_Shed_movesBy_5 4 rfl ?_
  refine G_iload_n d_Shed_movesBy_7 rfl 1 rfl ?_
  refine G_icmp_ge (tgt := 47) d_Shed_movesBy_8 (by decide) (fun c => ?_) (fun c => ?_)
  · replace h := Ok_t c h
    replace h := Ok_xit h
    refine G_iload_n d_Shed_movesBy_47 rfl 3 rfl ?_
    replace h := Ok_some h
    exact G_iret rfl (vp_nar_int _) d_Shed_movesBy_48 (hR _ h)
  replace h := Ok_f c h
  refine G_aload_n d_Shed_movesBy_11 rfl 0 rfl ?_
  refine gx_Shed_put d_Shed_movesBy_12 w_236 ?_
  refine G_iload d_Shed_movesBy_15 4 rfl ?_
  refine lx_35 d_Shed_movesBy_17 (Ok_ld h).1 (fun v1 e => ?_)
  replace h := (Ok_ld h).2 v1 e
  clear e
  refine G_iload_n d_Shed_movesBy_18 rfl 2 rfl ?_
  refine G_icmp_ne (tgt := 41) d_Shed_movesBy_19 (by decide) (fun c => ?_) (fun c => ?_)
  · replace h := Ok_f c h
    refine G_iinc d_Shed_movesBy_41 4 rfl lt_iconst_1 rfl (Nat.le_of_ble_eq_true rfl) (fun x => [(4, .int x), (0, .ref (ad 8)), (1, .int x1), (2, .int x2), (3, .int x3)]) (fun _ => rfl) (fun v2 e => ?_)
    replace h := Ok_bnd h v2 e
    clear e
    refine G_goto (tgt := 5) d_Shed_movesBy_44 (by decide) ?_
    refine G_lv [1, 2, 3, 4, 0] rfl ?_
    replace h := Ok_some h
    exact hL5 x3 v2 h
  replace h := Ok_t c h
  refine G_aload_n d_Shed_movesBy_22 rfl 0 rfl ?_
  refine gx_Shed_out d_Shed_movesBy_23 w_235 ?_
  refine G_iload d_Shed_movesBy_26 4 rfl ?_
  refine lx_34 d_Shed_movesBy_28 (Ok_ld h).1 (fun v3 e => ?_)
  replace h := (Ok_ld h).2 v3 e
  clear e
  refine G_aload_n d_Shed_movesBy_29 rfl 0 rfl ?_
  refine gx_Shed_out d_Shed_movesBy_30 w_235 ?_
  refine G_iload_n d_Shed_movesBy_33 rfl 1 rfl ?_
  refine lx_34 d_Shed_movesBy_34 (Ok_ld h).1 (fun v4 e => ?_)
  replace h := (Ok_ld h).2 v4 e
  clear e
  refine G_icmp_ge (tgt := 41) d_Shed_movesBy_35 (by decide) (fun c => ?_) (fun c => ?_)
  · replace h := Ok_t c h
    refine G_iinc d_Shed_movesBy_41 4 rfl lt_iconst_1 rfl (Nat.le_of_ble_eq_true rfl) (fun x => [(4, .int x), (0, .ref (ad 8)), (1, .int x1), (2, .int x2), (3, .int x3)]) (fun _ => rfl) (fun v5 e => ?_)
    replace h := Ok_bnd h v5 e
    clear e
    refine G_goto (tgt := 5) d_Shed_movesBy_44 (by decide) ?_
    refine G_lv [1, 2, 3, 4, 0] rfl ?_
    replace h := Ok_some h
    exact hL5 x3 v5 h
  replace h := Ok_f c h
  refine G_iinc d_Shed_movesBy_38 3 rfl lt_iconst_1 rfl (Nat.le_of_ble_eq_true rfl) (fun x => [(3, .int x), (0, .ref (ad 8)), (1, .int x1), (2, .int x2), (4, .int x4)]) (fun _ => rfl) (fun v6 e => ?_)
  replace h := Ok_bnd h v6 e
  clear e
  refine G_iinc d_Shed_movesBy_41 4 rfl lt_iconst_1 rfl (Nat.le_of_ble_eq_true rfl) (fun x => [(4, .int x), (3, .int v6), (0, .ref (ad 8)), (1, .int x1), (2, .int x2)]) (fun _ => rfl) (fun v7 e => ?_)
  replace h := Ok_bnd h v7 e
  clear e
  refine G_goto (tgt := 5) d_Shed_movesBy_44 (by decide) ?_
  refine G_lv [2, 3, 4, 1, 0] rfl ?_
  replace h := Ok_some h
  exact hL5 v6 v7 h
noncomputable def f_Shed_movesBy (a1 a2 : Int32) (s : MS) : Option Int32 :=
  loop (fun z => Shed_movesBy_l5 a1 a2 s z.1 z.2) ((0 : Int32), (0 : Int32))
theorem f_Shed_movesBy_w {l : Launch} {D : va_G} {cI cZ cJ : ClassId} {ad : Nat → Nat} (a1 a2 : Int32) (s : MS) {Q : Int32 → MS → Prop} {Post : Int32 → Prop} (hR : ∀ (r9 : Int32), Post (r9) → Q r9 s) (h : Ok (f_Shed_movesBy a1 a2 s) Post) : G (XX l D cI cZ cJ ad) "SmallHarbour$Shed" b_Shed_movesBy 5 (some .int) 0 0 [(0, .ref (ad 8)), (1, .int a1), (2, .int a2)] [] s Q := by
  unfold f_Shed_movesBy at h
  refine G_iconst d_Shed_movesBy_0 lt_iconst_0 ?_
  refine G_istore_n d_Shed_movesBy_1 rfl (Nat.le_of_ble_eq_true rfl) (fun x => [(3, .int x), (0, .ref (ad 8)), (1, .int a1), (2, .int a2)]) (fun _ => rfl) (fun x e => ?_)
  subst e
  refine G_iconst d_Shed_movesBy_2 lt_iconst_0 ?_
  refine G_istore d_Shed_movesBy_3 (Nat.le_of_ble_eq_true rfl) (fun x => [(4, .int x), (3, .int (0 : Int32)), (0, .ref (ad 8)), (1, .int a1), (2, .int a2)]) (fun _ => rfl) (fun x e => ?_)
  subst e
  refine G_lv [2, 3, 4, 1, 0] rfl ?_
  refine G_loop (J := (fun z => G (XX l D cI cZ cJ ad) "SmallHarbour$Shed" b_Shed_movesBy 5 (some .int) 0 5 [(0, .ref (ad 8)), (1, .int a1), (2, .int a2), (3, .int (z.1)), (4, .int (z.2))] [] s Q)) (fun z h => ?_) ((0 : Int32), (0 : Int32)) h
  refine Shed_movesBy_l5_w a1 a2 z.1 z.2 s ?_ ?_ h
  · exact hR
  · exact (fun z3 z4 h => h)
theorem c_Shed_movesBy {l : Launch} {D : va_G} {cI cZ cJ : ClassId} {ad : Nat → Nat} (a1 a2 : Int32) (s : MS) {P : Int32 → Prop} (h : Ok (f_Shed_movesBy a1 a2 s) P) : Ct (XX l D cI cZ cJ ad) y_Shed_movesBy b_Shed_movesBy 5 (some .int) 0 [.ref (ad 8), .int a1, .int a2] s (fun r9 s9 => s9 = s ∧ P r9) :=
  Ct.of mi_Shed_movesBy (Nat.le_of_ble_eq_true rfl) (f_Shed_movesBy_w a1 a2 s (fun _ h => ⟨rfl, h⟩) h)
