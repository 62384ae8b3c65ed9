-- Shed_putFrom
noncomputable def Shed_putFrom_l34 (rc : Int32 → Int32 → Int32 → MS → Option MS) (x1 x2 x3 : Int32) (x4 : Int32) (s : MS) : Option ((Int32 × MS) ⊕ MS) :=
  if (s.1 16) ≤ x4 then (xit (some s)) else (if x2 < x4 then (xit (some s)) else ((f_Shed_movesBy x1 x4 s).bind fun v1 => bnd (x3 + v1) fun v2 => chk (inb x4 4) (bnd (s.2 36 x4.toNatClampNeg) fun v3 => chk (inb x1 9) (bnd (s.2 33 x1.toNatClampNeg) fun v4 => if (s.1 17) < (v3 + v4) then (bnd (x4 + (1 : Int32)) fun v5 => some (.inl (v5, s))) else (if v2 < (s.1 15) then (chk (inb x1 9) (bnd (pa s 35 x1.toNatClampNeg x4) fun s6 => chk (inb x4 4) (bnd (s6.2 36 x4.toNatClampNeg) fun v7 => chk (inb x1 9) (bnd (s6.2 33 x1.toNatClampNeg) fun v8 => chk (inb x4 4) (bnd (pa s6 36 x4.toNatClampNeg (v7 + v8)) fun s9 => bnd (if x2 < (x4 + (1 : Int32)) then (x4 + (1 : Int32)) else x2) fun v10 => (rc (x1 + (1 : Int32)) v10 v2 s9).bind fun s11 => chk (inb x4 4) (bnd (s11.2 36 x4.toNatClampNeg) fun v12 => chk (inb x1 9) (bnd (s11.2 33 x1.toNatClampNeg) fun v13 => chk (inb x4 4) (bnd (pa s11 36 x4.toNatClampNeg (v12 - v13)) fun s14 => bnd (x4 + (1 : Int32)) fun v15 => some (.inl (v15, s14)))))))))) else (bnd (x4 + (1 : Int32)) fun v16 => some (.inl (v16, s))))))))
theorem Shed_putFrom_l34_w {l : Launch} {D : va_G} {cI cZ cJ : ClassId} {ad : Nat → Nat} (rc : Int32 → Int32 → Int32 → MS → Option MS) {d d2 : Nat} (hd : d2 + 1 ≤ d) (hd0 : 1 ≤ d) (hrc : ∀ (a1 a2 a3 : Int32) (s : MS) (P : MS → Prop), Ok (rc a1 a2 a3 s) P → Ct (XX l D cI cZ cJ ad) y_Shed_putFrom b_Shed_putFrom 6 none d2 [.ref (ad 8), .int a1, .int a2, .int a3] s (fun _ s9 => P s9)) (x1 x2 x3 x4 : Int32) (s : MS) {Q : Int32 → MS → Prop} {Post : ((Int32 × MS) ⊕ MS) → Prop} (hR : ∀ (s9 : MS), Post (.inr (s9)) → Q 0 s9) (hL34 : ∀ (z4 : Int32) (s9 : MS), Post (.inl (z4, s9)) → G (XX l D cI cZ cJ ad) "SmallHarbour$Shed" b_Shed_putFrom 6 none d 34 [(0, .ref (ad 8)), (1, .int x1), (2, .int x2), (3, .int x3), (4, .int z4)] [] s9 Q) (h : Ok (Shed_putFrom_l34 rc x1 x2 x3 x4 s) Post) : G (XX l D cI cZ cJ ad) "SmallHarbour$Shed" b_Shed_putFrom 6 none d 34 [(0, .ref (ad 8)), (1, .int x1), (2, .int x2), (3, .int x3), (4, .int x4)] [] s Q := by
  unfold Shed_putFrom_l34 at h
  refine G_iload d_Shed_putFrom_34 4 rfl ?_
  refine G_aload_n d_Shed_putFrom_36 rfl 0 rfl ?_
  refine gx_Shed_lanes d_Shed_putFrom_37 w_231 ?_
  refine G_icmp_ge (tgt := 156) d_Shed_putFrom_40 (by decide) (fun c => ?_) (fun c => ?_)
  · replace h := Ok_t c h
    replace h := Ok_xit h
    replace h := Ok_some h
    exact G_vret rfl d_Shed_putFrom_156 (hR _ h)
  replace h := Ok_f c h
  refine G_iload d_Shed_putFrom_43 4 rfl ?_
  refine G_iload_n d_Shed_putFrom_45 rfl 2 rfl ?_
  refine G_icmp_gt (tgt := 156) d_Shed_putFrom_46 (by decide) (fun c => ?_) (fun c => ?_)
  · replace h := Ok_t c h
    replace h := Ok_xit h
    replace h := Ok_some h
    exact G_vret rfl d_Shed_putFrom_156 (hR _ h)
  replace h := Ok_f c h
  refine G_iload_n d_Shed_putFrom_49 rfl 3 rfl ?_
  refine G_aload_n d_Shed_putFrom_50 rfl 0 rfl ?_
  refine G_iload_n d_Shed_putFrom_51 rfl 1 rfl ?_
  refine G_iload d_Shed_putFrom_52 4 rfl ?_
  refine G_callVp (st := [.int x3]) (As := [.int x1, .int x4]) (b := ad 8) d_Shed_putFrom_54 mi_Shed_movesBy w_700 8 rfl rfl mv_Shed_movesBy rfl (Nat.le_of_ble_eq_true rfl) (by omega) (c_Shed_movesBy x1 x4 s (Ok_bind h)) (fun v1 h hnv1 => ?_)
  refine G_iadd d_Shed_putFrom_57 ?_
  refine G_istore d_Shed_putFrom_58 (Nat.le_of_ble_eq_true rfl) (fun x => [(5, .int x), (0, .ref (ad 8)), (1, .int x1), (2, .int x2), (3, .int x3), (4, .int x4)]) (fun _ => rfl) (fun v2 e => ?_)
  replace h := Ok_bnd h v2 e.symm
  clear e
  refine G_aload_n d_Shed_putFrom_60 rfl 1 rfl ?_
  refine gx_Shed_filled d_Shed_putFrom_61 w_237 ?_
  refine G_iload d_Shed_putFrom_64 5 rfl ?_
  refine lx_36 d_Shed_putFrom_66 (Ok_ld h).1 (fun v3 e => ?_)
  replace h := (Ok_ld h).2 v3 e
  clear e
  refine G_aload_n d_Shed_putFrom_67 rfl 1 rfl ?_
  refine gx_Shed_length d_Shed_putFrom_68 w_234 ?_
  refine G_iload_n d_Shed_putFrom_71 rfl 2 rfl ?_
  refine lx_33 d_Shed_putFrom_72 (Ok_ld h).1 (fun v4 e => ?_)
  replace h := (Ok_ld h).2 v4 e
  clear e
  refine G_iadd d_Shed_putFrom_73 ?_
  refine G_aload_n d_Shed_putFrom_74 rfl 1 rfl ?_
  refine gx_Shed_laneLength d_Shed_putFrom_75 w_232 ?_
  refine G_icmp_gt (tgt := 150) d_Shed_putFrom_78 (by decide) (fun c => ?_) (fun c => ?_)
  · replace h := Ok_t c h
    refine G_iinc d_Shed_putFrom_150 5 rfl lt_iconst_1 rfl (Nat.le_of_ble_eq_true rfl) (fun x => [(4, .int x), (5, .int v2), (0, .ref (ad 8)), (1, .int x1), (2, .int x2), (3, .int x3)]) (fun _ => rfl) (fun v5 e => ?_)
    replace h := Ok_bnd h v5 e
    clear e
    refine G_goto (tgt := 34) d_Shed_putFrom_153 (by decide) ?_
    refine G_lv [2, 3, 4, 5, 0] rfl ?_
    replace h := Ok_some h
    exact hL34 v5 s h
  replace h := Ok_f c h
  refine G_iload d_Shed_putFrom_81 0 rfl ?_
  refine G_aload_n d_Shed_putFrom_83 rfl 1 rfl ?_
  refine gx_Shed_fewest d_Shed_putFrom_84 w_227 ?_
  refine G_icmp_lt (tgt := 93) d_Shed_putFrom_87 (by decide) (fun c => ?_) (fun c => ?_)
  · replace h := Ok_t c h
    refine G_aload_n d_Shed_putFrom_93 rfl 1 rfl ?_
    refine gx_Shed_put d_Shed_putFrom_94 w_236 ?_
    refine G_iload_n d_Shed_putFrom_97 rfl 2 rfl ?_
    refine G_iload d_Shed_putFrom_98 5 rfl ?_
    refine sx_35 d_Shed_putFrom_100 (Ok_ld h).1 (fun s6 e => ?_)
    replace h := (Ok_ld h).2 s6 e
    clear e
    refine G_aload_n d_Shed_putFrom_101 rfl 1 rfl ?_
    refine gx_Shed_filled d_Shed_putFrom_102 w_237 ?_
    refine G_iload d_Shed_putFrom_105 5 rfl ?_
    refine G_dup2 d_Shed_putFrom_107 rfl rfl ?_
    refine lx_36 d_Shed_putFrom_108 (Ok_ld h).1 (fun v7 e => ?_)
    replace h := (Ok_ld h).2 v7 e
    clear e
    refine G_aload_n d_Shed_putFrom_109 rfl 1 rfl ?_
    refine gx_Shed_length d_Shed_putFrom_110 w_234 ?_
    refine G_iload_n d_Shed_putFrom_113 rfl 2 rfl ?_
    refine lx_33 d_Shed_putFrom_114 (Ok_ld h).1 (fun v8 e => ?_)
    replace h := (Ok_ld h).2 v8 e
    clear e
    refine G_iadd d_Shed_putFrom_115 ?_
    refine sx_36 d_Shed_putFrom_116 (Ok_ld h).1 (fun s9 e => ?_)
    replace h := (Ok_ld h).2 s9 e
    clear e
    refine G_aload_n d_Shed_putFrom_117 rfl 1 rfl ?_
    refine G_iload_n d_Shed_putFrom_118 rfl 2 rfl ?_
    refine G_iconst d_Shed_putFrom_119 lt_iconst_1 ?_
    refine G_iadd d_Shed_putFrom_120 ?_
    refine G_iload_n d_Shed_putFrom_121 rfl 3 rfl ?_
    refine G_iload d_Shed_putFrom_122 5 rfl ?_
    refine G_iconst d_Shed_putFrom_124 lt_iconst_1 ?_
    refine G_iadd d_Shed_putFrom_125 ?_
    refine G_max d_Shed_putFrom_126 w_704 w_506 w_15 w_507 (by omega) (Nat.le_of_ble_eq_true rfl) (G_topi (fun v10 e => ?_))
    replace h := Ok_bnd h v10 e
    clear e
    refine G_iload d_Shed_putFrom_129 0 rfl ?_
    refine G_callVv (st := []) (As := [.int (x1 + (1 : Int32)), .int v10, .int v2]) (b := ad 8) d_Shed_putFrom_131 mi_Shed_putFrom w_695 8 rfl rfl mv_Shed_putFrom rfl (Nat.le_of_ble_eq_true rfl) hd (hrc (x1 + (1 : Int32)) v10 v2 s9 _ (Ok_bind h)) (fun s11 h => ?_)
    refine G_aload_n d_Shed_putFrom_134 rfl 1 rfl ?_
    refine gx_Shed_filled d_Shed_putFrom_135 w_237 ?_
    refine G_iload d_Shed_putFrom_138 5 rfl ?_
    refine G_dup2 d_Shed_putFrom_140 rfl rfl ?_
    refine lx_36 d_Shed_putFrom_141 (Ok_ld h).1 (fun v12 e => ?_)
    replace h := (Ok_ld h).2 v12 e
    clear e
    refine G_aload_n d_Shed_putFrom_142 rfl 1 rfl ?_
    refine gx_Shed_length d_Shed_putFrom_143 w_234 ?_
    refine G_iload_n d_Shed_putFrom_146 rfl 2 rfl ?_
    refine lx_33 d_Shed_putFrom_147 (Ok_ld h).1 (fun v13 e => ?_)
    replace h := (Ok_ld h).2 v13 e
    clear e
    refine G_isub d_Shed_putFrom_148 ?_
    refine sx_36 d_Shed_putFrom_149 (Ok_ld h).1 (fun s14 e => ?_)
    replace h := (Ok_ld h).2 s14 e
    clear e
    refine G_iinc d_Shed_putFrom_150 5 rfl lt_iconst_1 rfl (Nat.le_of_ble_eq_true rfl) (fun x => [(4, .int x), (5, .int v2), (0, .ref (ad 8)), (1, .int x1), (2, .int x2), (3, .int x3)]) (fun _ => rfl) (fun v15 e => ?_)
    replace h := Ok_bnd h v15 e
    clear e
    refine G_goto (tgt := 34) d_Shed_putFrom_153 (by decide) ?_
    refine G_lv [2, 3, 4, 5, 0] rfl ?_
    replace h := Ok_some h
    exact hL34 v15 s14 h
  replace h := Ok_f c h
  refine G_goto (tgt := 150) d_Shed_putFrom_90 (by decide) ?_
  refine G_iinc d_Shed_putFrom_150 5 rfl lt_iconst_1 rfl (Nat.le_of_ble_eq_true rfl) (fun x => [(4, .int x), (5, .int v2), (0, .ref (ad 8)), (1, .int x1), (2, .int x2), (3, .int x3)]) (fun _ => rfl) (fun v16 e => ?_)
  replace h := Ok_bnd h v16 e
  clear e
  refine G_goto (tgt := 34) d_Shed_putFrom_153 (by decide) ?_
  refine G_lv [2, 3, 4, 5, 0] rfl ?_
  replace h := Ok_some h
  exact hL34 v16 s h
noncomputable def b_f_Shed_putFrom (rc : Int32 → Int32 → Int32 → MS → Option MS) (a1 a2 a3 : Int32) (s : MS) : Option MS :=
  if a1 < (s.1 14) then (loop (fun z => Shed_putFrom_l34 rc a1 a2 a3 z.1 z.2) ((0 : Int32), s)) else (bnd (pf s 15 a3) fun s1 => chk (decide (0 ≤ (0 : Int32).toInt ∧ 0 ≤ (0 : Int32).toInt ∧ 0 ≤ (s1.1 14).toInt ∧ (0 : Int32).toInt + (s1.1 14).toInt ≤ (9 : Int) ∧ (0 : Int32).toInt + (s1.1 14).toInt ≤ (9 : Int))) (bnd (pr s1 31 (va_cpy (s1.2 35) (s1.2 31) (0 : Int32).toNatClampNeg (0 : Int32).toNatClampNeg (s1.1 14).toNatClampNeg)) fun s2 => some s2))
theorem b_f_Shed_putFrom_w {l : Launch} {D : va_G} {cI cZ cJ : ClassId} {ad : Nat → Nat} (rc : Int32 → Int32 → Int32 → MS → Option MS) {d d2 : Nat} (hd : d2 + 1 ≤ d) (hd0 : 1 ≤ d) (hrc : ∀ (a1 a2 a3 : Int32) (s : MS) (P : MS → Prop), Ok (rc a1 a2 a3 s) P → Ct (XX l D cI cZ cJ ad) y_Shed_putFrom b_Shed_putFrom 6 none d2 [.ref (ad 8), .int a1, .int a2, .int a3] s (fun _ s9 => P s9)) (a1 a2 a3 : Int32) (s : MS) {Q : Int32 → MS → Prop} {Post : MS → Prop} (hR : ∀ (s9 : MS), Post (s9) → Q 0 s9) (h : Ok (b_f_Shed_putFrom rc a1 a2 a3 s) Post) : G (XX l D cI cZ cJ ad) "SmallHarbour$Shed" b_Shed_putFrom 6 none d 0 [(0, .ref (ad 8)), (1, .int a1), (2, .int a2), (3, .int a3)] [] s Q := by
  unfold b_f_Shed_putFrom at h
  refine G_iload_n d_Shed_putFrom_0 rfl 1 rfl ?_
  refine G_aload_n d_Shed_putFrom_1 rfl 0 rfl ?_
  refine gx_Shed_count d_Shed_putFrom_2 w_225 ?_
  refine G_icmp_lt (tgt := 31) d_Shed_putFrom_5 (by decide) (fun c => ?_) (fun c => ?_)
  · replace h := Ok_t c h
    refine G_iconst d_Shed_putFrom_31 lt_iconst_0 ?_
    refine G_istore d_Shed_putFrom_32 (Nat.le_of_ble_eq_true rfl) (fun x => [(4, .int x), (0, .ref (ad 8)), (1, .int a1), (2, .int a2), (3, .int a3)]) (fun _ => rfl) (fun x e => ?_)
    subst e
    refine G_lv [1, 2, 3, 4, 0] rfl ?_
    refine G_loop (J := (fun z => G (XX l D cI cZ cJ ad) "SmallHarbour$Shed" b_Shed_putFrom 6 none d 34 [(0, .ref (ad 8)), (1, .int a1), (2, .int a2), (3, .int a3), (4, .int (z.1))] [] z.2 Q)) (fun z h => ?_) ((0 : Int32), s) h
    refine Shed_putFrom_l34_w rc hd hd0 hrc a1 a2 a3 z.1 z.2 ?_ ?_ h
    · exact hR
    · exact (fun z4 s9 h => h)
  replace h := Ok_f c h
  refine G_aload_n d_Shed_putFrom_8 rfl 0 rfl ?_
  refine G_iload_n d_Shed_putFrom_9 rfl 3 rfl ?_
  refine px_Shed_fewest d_Shed_putFrom_10 w_227 (fun s1 e => ?_)
  replace h := Ok_bnd h s1 e
  clear e
  refine G_aload_n d_Shed_putFrom_13 rfl 0 rfl ?_
  refine gx_Shed_put d_Shed_putFrom_14 w_236 ?_
  refine G_iconst d_Shed_putFrom_17 lt_iconst_0 ?_
  refine G_aload_n d_Shed_putFrom_18 rfl 0 rfl ?_
  refine gx_Shed_best d_Shed_putFrom_19 w_229 ?_
  refine G_iconst d_Shed_putFrom_22 lt_iconst_0 ?_
  refine G_aload_n d_Shed_putFrom_23 rfl 0 rfl ?_
  refine gx_Shed_count d_Shed_putFrom_24 w_225 ?_
  refine G_copy d_Shed_putFrom_27 w_699 w_576 w_575 w_16 (by omega) (Nat.le_of_ble_eq_true rfl) 48 44 0 0 rfl rfl rfl rfl (Ok_ld h).1 (s2 := (pr s1 31 (va_cpy (s1.2 35) (s1.2 31) (0 : Int32).toNatClampNeg (0 : Int32).toNatClampNeg (s1.1 14).toNatClampNeg))) rfl ?_
  obtain ⟨s2, e⟩ : ∃ z, z = (pr s1 31 (va_cpy (s1.2 35) (s1.2 31) (0 : Int32).toNatClampNeg (0 : Int32).toNatClampNeg (s1.1 14).toNatClampNeg)) := ⟨_, rfl⟩
  rw [← e]
  replace h := (Ok_ld h).2 s2 e
  clear e
  replace h := Ok_some h
  exact G_vret rfl d_Shed_putFrom_30 (hR _ h)
theorem b_c_Shed_putFrom {l : Launch} {D : va_G} {cI cZ cJ : ClassId} {ad : Nat → Nat} (rc : Int32 → Int32 → Int32 → MS → Option MS) {d d2 : Nat} (hd : d2 + 1 ≤ d) (hd0 : 1 ≤ d) (hrc : ∀ (a1 a2 a3 : Int32) (s : MS) (P : MS → Prop), Ok (rc a1 a2 a3 s) P → Ct (XX l D cI cZ cJ ad) y_Shed_putFrom b_Shed_putFrom 6 none d2 [.ref (ad 8), .int a1, .int a2, .int a3] s (fun _ s9 => P s9)) (a1 a2 a3 : Int32) (s : MS) {P : MS → Prop} (h : Ok (b_f_Shed_putFrom rc a1 a2 a3 s) P) : Ct (XX l D cI cZ cJ ad) y_Shed_putFrom b_Shed_putFrom 6 none d [.ref (ad 8), .int a1, .int a2, .int a3] s (fun _ s9 => P s9) :=
  Ct.of mi_Shed_putFrom (Nat.le_of_ble_eq_true rfl) (b_f_Shed_putFrom_w rc hd hd0 hrc a1 a2 a3 s (fun _ h => h) h)
-- Shed_putFrom.grp
noncomputable def f_Shed_putFrom : Nat → Int32 → Int32 → Int32 → MS → Option MS
  | 0, _, _, _, _ => none
  | n + 1, a1, a2, a3, s => b_f_Shed_putFrom (f_Shed_putFrom n) a1 a2 a3 s
theorem c_Shed_putFrom {l : Launch} {D : va_G} {cI cZ cJ : ClassId} {ad : Nat → Nat} : ∀ (n : Nat) (a1 a2 a3 : Int32) (s : MS) {P : MS → Prop} (h : Ok (f_Shed_putFrom n a1 a2 a3 s) P), Ct (XX l D cI cZ cJ ad) y_Shed_putFrom b_Shed_putFrom 6 none (1 + n) [.ref (ad 8), .int a1, .int a2, .int a3] s (fun _ s9 => P s9)
  | 0, _, _, _, _, _, h => Ok_none h
  | n + 1, a1, a2, a3, s, P, h => b_c_Shed_putFrom (f_Shed_putFrom n) (d := 1 + (n + 1)) (d2 := 1 + n) (by omega) (by omega) (fun a1 a2 a3 s P h => c_Shed_putFrom n a1 a2 a3 s h) a1 a2 a3 s h
-- Shed_add
noncomputable def f_Shed_add (a1 a2 a3 : Int32) (s : MS) : Option (Int32 × MS) :=
  if (9 : Int32) ≤ (s.1 14) then (some ((-1 : Int32), s)) else ((f_Shed_isIn a1 s).bind fun v1 => if v1 = 0 then (chk (inb (s.1 14) 9) (bnd (pa s 32 (s.1 14).toNatClampNeg a1) fun s2 => chk (inb (s2.1 14) 9) (bnd (pa s2 33 (s2.1 14).toNatClampNeg a2) fun s3 => chk (inb (s3.1 14) 9) (bnd (pa s3 34 (s3.1 14).toNatClampNeg a3) fun s4 => bnd (pf s4 14 ((s4.1 14) + (1 : Int32))) fun s5 => bnd (pf s5 15 (81 : Int32)) fun s6 => (f_Shed_putFrom 11 (0 : Int32) (0 : Int32) (0 : Int32) s6).bind fun s7 => some ((s7.1 14), s7))))) else (some ((-1 : Int32), s)))
theorem f_Shed_add_w {l : Launch} {D : va_G} {cI cZ cJ : ClassId} {ad : Nat → Nat} (a1 a2 a3 : Int32) (s : MS) {Q : Int32 → MS → Prop} {Post : (Int32 × MS) → Prop} (hR : ∀ (r9 : Int32) (s9 : MS), Post ((r9, s9)) → Q r9 s9) (h : Ok (f_Shed_add a1 a2 a3 s) Post) : G (XX l D cI cZ cJ ad) "SmallHarbour$Shed" b_Shed_add 4 (some .int) 13 0 [(0, .ref (ad 8)), (1, .int a1), (2, .int a2), (3, .int a3)] [] s Q := by
  unfold f_Shed_add at h
  refine G_aload_n d_Shed_add_0 rfl 0 rfl ?_
  refine gx_Shed_count d_Shed_add_1 w_225 ?_
  refine G_bipush d_Shed_add_4 lt_bipush_9 ?_
  refine G_icmp_ge (tgt := 17) d_Shed_add_6 (by decide) (fun c => ?_) (fun c => ?_)
  · replace h := Ok_t c h
    refine G_iconst d_Shed_add_17 lt_iconst_m1 ?_
    replace h := Ok_some h
    exact G_iret rfl (vp_nar_int _) d_Shed_add_18 (hR _ _ h)
  replace h := Ok_f c h
  refine G_aload_n d_Shed_add_9 rfl 0 rfl ?_
  refine G_iload_n d_Shed_add_10 rfl 1 rfl ?_
  refine G_callVp (st := []) (As := [.int a1]) (b := ad 8) d_Shed_add_11 mi_Shed_isIn w_691 8 rfl rfl mv_Shed_isIn rfl (Nat.le_of_ble_eq_true rfl) (by decide) (c_Shed_isIn a1 s (Ok_bind h)) (fun v1 h hnv1 => ?_)
  refine G_if_eq (tgt := 19) d_Shed_add_14 (by decide) (fun c => ?_) (fun c => ?_)
  · replace h := Ok_t c h
    refine G_aload_n d_Shed_add_19 rfl 0 rfl ?_
    refine gx_Shed_boat d_Shed_add_20 w_233 ?_
    refine G_aload_n d_Shed_add_23 rfl 0 rfl ?_
    refine gx_Shed_count d_Shed_add_24 w_225 ?_
    refine G_iload_n d_Shed_add_27 rfl 1 rfl ?_
    refine sx_32 d_Shed_add_28 (Ok_ld h).1 (fun s2 e => ?_)
    replace h := (Ok_ld h).2 s2 e
    clear e
    refine G_aload_n d_Shed_add_29 rfl 0 rfl ?_
    refine gx_Shed_length d_Shed_add_30 w_234 ?_
    refine G_aload_n d_Shed_add_33 rfl 0 rfl ?_
    refine gx_Shed_count d_Shed_add_34 w_225 ?_
    refine G_iload_n d_Shed_add_37 rfl 2 rfl ?_
    refine sx_33 d_Shed_add_38 (Ok_ld h).1 (fun s3 e => ?_)
    replace h := (Ok_ld h).2 s3 e
    clear e
    refine G_aload_n d_Shed_add_39 rfl 0 rfl ?_
    refine gx_Shed_out d_Shed_add_40 w_235 ?_
    refine G_aload_n d_Shed_add_43 rfl 0 rfl ?_
    refine gx_Shed_count d_Shed_add_44 w_225 ?_
    refine G_iload_n d_Shed_add_47 rfl 3 rfl ?_
    refine sx_34 d_Shed_add_48 (Ok_ld h).1 (fun s4 e => ?_)
    replace h := (Ok_ld h).2 s4 e
    clear e
    refine G_aload_n d_Shed_add_49 rfl 0 rfl ?_
    refine G_dup d_Shed_add_50 rfl ?_
    refine gx_Shed_count d_Shed_add_51 w_225 ?_
    refine G_iconst d_Shed_add_54 lt_iconst_1 ?_
    refine G_iadd d_Shed_add_55 ?_
    refine px_Shed_count d_Shed_add_56 w_225 (fun s5 e => ?_)
    replace h := Ok_bnd h s5 e
    clear e
    refine G_aload_n d_Shed_add_59 rfl 0 rfl ?_
    refine G_bipush d_Shed_add_60 lt_bipush_81 ?_
    refine px_Shed_fewest d_Shed_add_62 w_227 (fun s6 e => ?_)
    replace h := Ok_bnd h s6 e
    clear e
    refine G_aload_n d_Shed_add_65 rfl 0 rfl ?_
    refine G_iconst d_Shed_add_66 lt_iconst_0 ?_
    refine G_iconst d_Shed_add_67 lt_iconst_0 ?_
    refine G_iconst d_Shed_add_68 lt_iconst_0 ?_
    refine G_callVv (st := []) (As := [.int (0 : Int32), .int (0 : Int32), .int (0 : Int32)]) (b := ad 8) d_Shed_add_69 mi_Shed_putFrom w_695 8 rfl rfl mv_Shed_putFrom rfl (Nat.le_of_ble_eq_true rfl) (by decide) (c_Shed_putFrom 11 (0 : Int32) (0 : Int32) (0 : Int32) s6 (Ok_bind h)) (fun s7 h => ?_)
    refine G_aload_n d_Shed_add_72 rfl 0 rfl ?_
    refine gx_Shed_count d_Shed_add_73 w_225 ?_
    replace h := Ok_some h
    exact G_iret rfl (vp_nar_int _) d_Shed_add_76 (hR _ _ h)
  replace h := Ok_f c h
  refine G_iconst d_Shed_add_17 lt_iconst_m1 ?_
  replace h := Ok_some h
  exact G_iret rfl (vp_nar_int _) d_Shed_add_18 (hR _ _ h)
theorem c_Shed_add {l : Launch} {D : va_G} {cI cZ cJ : ClassId} {ad : Nat → Nat} (a1 a2 a3 : Int32) (s : MS) {P : Int32 → MS → Prop} (h : Ok2 (f_Shed_add a1 a2 a3 s) P) : Ct (XX l D cI cZ cJ ad) y_Shed_add b_Shed_add 4 (some .int) 13 [.ref (ad 8), .int a1, .int a2, .int a3] s (P) :=
  Ct.of mi_Shed_add (Nat.le_of_ble_eq_true rfl) (f_Shed_add_w a1 a2 a3 s (Post := fun q => P q.1 q.2) (fun _ _ h => h) (Ok2_ok h))
-- Hb_winter
noncomputable def f_Hb_winter (a1 a2 : Int32) (s : MS) : Option (Int32 × MS) :=
  (f_Boats_has a1 s).bind fun v1 => if v1 = 0 then (some ((-1 : Int32), s)) else ((f_Hb_isDay a2).bind fun v2 => if v2 = 0 then (some ((-1 : Int32), s)) else (chk (inb a1 30) (bnd (s.2 7 a1.toNatClampNeg) fun v3 => bd2 (f_Shed_add a1 v3 a2 s) fun v4 s5 => some (v4, s5))))
theorem f_Hb_winter_w {l : Launch} {D : va_G} {cI cZ cJ : ClassId} {ad : Nat → Nat} (a1 a2 : Int32) (s : MS) {Q : Int32 → MS → Prop} {Post : (Int32 × MS) → Prop} (hR : ∀ (r9 : Int32) (s9 : MS), Post ((r9, s9)) → Q r9 s9) (h : Ok (f_Hb_winter a1 a2 s) Post) : G (XX l D cI cZ cJ ad) "SmallHarbour" b_Hb_winter 3 (some .int) 14 0 [(0, .ref (ad 0)), (1, .int a1), (2, .int a2)] [] s Q := by
  unfold f_Hb_winter at h
  refine G_aload_n d_Hb_winter_0 rfl 0 rfl ?_
  refine gx_Hb_boats d_Hb_winter_1 w_349 ?_
  refine G_iload_n d_Hb_winter_4 rfl 1 rfl ?_
  refine G_callVp (st := []) (As := [.int a1]) (b := ad 3) d_Hb_winter_5 mi_Boats_has w_465 3 rfl rfl mv_Boats_has rfl (Nat.le_of_ble_eq_true rfl) (by decide) (c_Boats_has a1 s (Ok_bind h)) (fun v1 h hnv1 => ?_)
  refine G_if_eq (tgt := 18) d_Hb_winter_8 (by decide) (fun c => ?_) (fun c => ?_)
  · replace h := Ok_t c h
    refine G_iconst d_Hb_winter_18 lt_iconst_m1 ?_
    replace h := Ok_some h
    exact G_iret rfl (vp_nar_int _) d_Hb_winter_19 (hR _ _ h)
  replace h := Ok_f c h
  refine G_iload_n d_Hb_winter_11 rfl 2 rfl ?_
  refine G_callSp (st := []) (As := [.int a2]) d_Hb_winter_12 mi_Hb_isDay w_473 w_474 rfl (Nat.le_of_ble_eq_true rfl) (by decide) (c_Hb_isDay a2 s (Ok_bind h)) (fun v2 h hnv2 => ?_)
  refine G_if_ne (tgt := 20) d_Hb_winter_15 (by decide) (fun c => ?_) (fun c => ?_)
  · replace h := Ok_f c h
    refine G_aload_n d_Hb_winter_20 rfl 0 rfl ?_
    refine gx_Hb_barn d_Hb_winter_21 w_354 ?_
    refine G_iload_n d_Hb_winter_24 rfl 1 rfl ?_
    refine G_aload_n d_Hb_winter_25 rfl 0 rfl ?_
    refine gx_Hb_boats d_Hb_winter_26 w_349 ?_
    refine gx_Boats_length d_Hb_winter_29 w_67 ?_
    refine G_iload_n d_Hb_winter_32 rfl 1 rfl ?_
    refine lx_7 d_Hb_winter_33 (Ok_ld h).1 (fun v3 e => ?_)
    replace h := (Ok_ld h).2 v3 e
    clear e
    refine G_iload_n d_Hb_winter_34 rfl 2 rfl ?_
    refine G_callVi (st := []) (As := [.int a1, .int v3, .int a2]) (b := ad 8) d_Hb_winter_35 mi_Shed_add w_687 8 rfl rfl mv_Shed_add rfl (Nat.le_of_ble_eq_true rfl) (by decide) (c_Shed_add a1 v3 a2 s (Ok_bd2 h)) (fun v4 s5 h hnv4 => ?_)
    replace h := Ok_some h
    exact G_iret rfl (vp_nar_int _) d_Hb_winter_38 (hR _ _ h)
  replace h := Ok_t c h
  refine G_iconst d_Hb_winter_18 lt_iconst_m1 ?_
  replace h := Ok_some h
  exact G_iret rfl (vp_nar_int _) d_Hb_winter_19 (hR _ _ h)
theorem c_Hb_winter {l : Launch} {D : va_G} {cI cZ cJ : ClassId} {ad : Nat → Nat} (a1 a2 : Int32) (s : MS) {P : Int32 → MS → Prop} (h : Ok2 (f_Hb_winter a1 a2 s) P) : Ct (XX l D cI cZ cJ ad) y_Hb_winter b_Hb_winter 3 (some .int) 14 [.ref (ad 0), .int a1, .int a2] s (P) :=
  Ct.of mi_Hb_winter (Nat.le_of_ble_eq_true rfl) (f_Hb_winter_w a1 a2 s (Post := fun q => P q.1 q.2) (fun _ _ h => h) (Ok2_ok h))
