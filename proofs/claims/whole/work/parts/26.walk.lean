-- Walk_putFrom
noncomputable def Walk_putFrom_j107 (rc : Int32 → Int32 → MS → Option MS) (x1 x2 x3 t0 : Int32) (s : MS) : Option ((Int32 × MS) ⊕ MS) :=
  if (s.1 8) ≤ t0 then (bnd (x3 + (1 : Int32)) fun v1 => some (.inl (v1, s))) else ((f_Walk_isSpent s).bind fun v2 => if v2 = 0 then (chk (inb x1 12) (bnd (pa s 23 x1.toNatClampNeg x3) fun s4 => chk (inb x3 10) (bnd (s4.2 26 x3.toNatClampNeg) fun v5 => chk (inb x3 10) (bnd (pa s4 26 x3.toNatClampNeg (v5 ||| ((1 : Int32) <<< (x1 &&& 31)))) fun s6 => (rc (x1 + (1 : Int32)) t0 s6).bind fun s7 => chk (inb x3 10) (bnd (s7.2 26 x3.toNatClampNeg) fun v8 => chk (inb x3 10) (bnd (pa s7 26 x3.toNatClampNeg (v8 &&& (((1 : Int32) <<< (x1 &&& 31)) ^^^ (-1 : Int32)))) fun s9 => bnd (x3 + (1 : Int32)) fun v10 => some (.inl (v10, s9)))))))) else (bnd (x3 + (1 : Int32)) fun v3 => some (.inl (v3, s))))
theorem Walk_putFrom_j107_w {l : Launch} {D : va_G} {cI cZ cJ : ClassId} {ad : Nat → Nat} (rc : Int32 → Int32 → MS → Option MS) {d d2 : Nat} (hd : d2 + 1 ≤ d) (hd0 : 1 ≤ d) (hrc : ∀ (a1 a2 : Int32) (s : MS) (P : MS → Prop), Ok (rc a1 a2 s) P → Ct (XX l D cI cZ cJ ad) y_Walk_putFrom b_Walk_putFrom 5 none d2 [.ref (ad 6), .int a1, .int a2] s (fun _ s9 => P s9)) (x1 x2 x3 t0 : Int32) (s : MS) {Q : Int32 → MS → Prop} {Post : ((Int32 × MS) ⊕ MS) → Prop} (hR : ∀ (s9 : MS), Post (.inr (s9)) → Q 0 s9) (hL33 : ∀ (z3 : Int32) (s9 : MS), Post (.inl (z3, s9)) → G (XX l D cI cZ cJ ad) "SmallHarbour$Walk" b_Walk_putFrom 5 none d 33 [(0, .ref (ad 6)), (1, .int x1), (2, .int x2), (3, .int z3)] [] s9 Q) (h : Ok (Walk_putFrom_j107 rc x1 x2 x3 t0 s) Post) : G (XX l D cI cZ cJ ad) "SmallHarbour$Walk" b_Walk_putFrom 5 none d 107 [(0, .ref (ad 6)), (1, .int x1), (2, .int x2), (3, .int x3)] [.int t0] s Q := by
  unfold Walk_putFrom_j107 at h
  refine G_istore d_Walk_putFrom_107 (Nat.le_of_ble_eq_true rfl) (fun x => [(4, .int x), (0, .ref (ad 6)), (1, .int x1), (2, .int x2), (3, .int x3)]) (fun _ => rfl) (fun x e => ?_)
  subst e
  refine G_iload d_Walk_putFrom_109 0 rfl ?_
  refine G_aload_n d_Walk_putFrom_111 rfl 1 rfl ?_
  refine gx_Walk_fewest d_Walk_putFrom_112 w_156 ?_
  refine G_icmp_ge (tgt := 167) d_Walk_putFrom_115 (by decide) (fun c => ?_) (fun c => ?_)
  · replace h := Ok_t c h
    refine G_iinc d_Walk_putFrom_167 4 rfl lt_iconst_1 rfl (Nat.le_of_ble_eq_true rfl) (fun x => [(3, .int x), (4, .int t0), (0, .ref (ad 6)), (1, .int x1), (2, .int x2)]) (fun _ => rfl) (fun v1 e => ?_)
    replace h := Ok_bnd h v1 e
    clear e
    refine G_goto (tgt := 33) d_Walk_putFrom_170 (by decide) ?_
    refine G_lv [2, 3, 4, 0] rfl ?_
    exact hL33 v1 s (Ok_some h)
  replace h := Ok_f c h
  refine G_aload_n d_Walk_putFrom_118 rfl 1 rfl ?_
  refine G_callVp (st := []) (As := []) (b := ad 6) d_Walk_putFrom_119 mi_Walk_isSpent w_577 6 rfl rfl mv_Walk_isSpent rfl (Nat.le_of_ble_eq_true rfl) (by omega) (c_Walk_isSpent  s (Ok_bind h)) (fun v2 h hnv2 => ?_)
  refine G_if_ne (tgt := 167) d_Walk_putFrom_122 (by decide) (fun c => ?_) (fun c => ?_)
  · replace h := Ok_f c h
    refine G_iinc d_Walk_putFrom_167 4 rfl lt_iconst_1 rfl (Nat.le_of_ble_eq_true rfl) (fun x => [(3, .int x), (4, .int t0), (0, .ref (ad 6)), (1, .int x1), (2, .int x2)]) (fun _ => rfl) (fun v3 e => ?_)
    replace h := Ok_bnd h v3 e
    clear e
    refine G_goto (tgt := 33) d_Walk_putFrom_170 (by decide) ?_
    refine G_lv [2, 3, 4, 0] rfl ?_
    exact hL33 v3 s (Ok_some h)
  replace h := Ok_t c h
  refine G_aload_n d_Walk_putFrom_125 rfl 1 rfl ?_
  refine gx_Walk_put d_Walk_putFrom_126 w_151 ?_
  refine G_iload_n d_Walk_putFrom_129 rfl 2 rfl ?_
  refine G_iload_n d_Walk_putFrom_130 rfl 4 rfl ?_
  refine sx_23 d_Walk_putFrom_131 (Ok_ld h).1 (fun s4 e => ?_)
  replace h := (Ok_ld h).2 s4 e
  clear e
  refine G_aload_n d_Walk_putFrom_132 rfl 1 rfl ?_
  refine gx_Walk_putAt d_Walk_putFrom_133 w_154 ?_
  refine G_iload_n d_Walk_putFrom_136 rfl 4 rfl ?_
  refine G_dup2 d_Walk_putFrom_137 rfl rfl ?_
  refine lx_26 d_Walk_putFrom_138 (Ok_ld h).1 (fun v5 e => ?_)
  replace h := (Ok_ld h).2 v5 e
  clear e
  refine G_iconst d_Walk_putFrom_139 lt_iconst_1 ?_
  refine G_iload_n d_Walk_putFrom_140 rfl 2 rfl ?_
  refine G_ishl d_Walk_putFrom_141 ?_
  refine G_ior d_Walk_putFrom_142 ?_
  refine sx_26 d_Walk_putFrom_143 (Ok_ld h).1 (fun s6 e => ?_)
  replace h := (Ok_ld h).2 s6 e
  clear e
  refine G_aload_n d_Walk_putFrom_144 rfl 1 rfl ?_
  refine G_iload_n d_Walk_putFrom_145 rfl 2 rfl ?_
  refine G_iconst d_Walk_putFrom_146 lt_iconst_1 ?_
  refine G_iadd d_Walk_putFrom_147 ?_
  refine G_iload d_Walk_putFrom_148 0 rfl ?_
  refine G_callVv (st := []) (As := [.int (x1 + (1 : Int32)), .int t0]) (b := ad 6) d_Walk_putFrom_150 mi_Walk_putFrom w_570 6 rfl rfl mv_Walk_putFrom rfl (Nat.le_of_ble_eq_true rfl) hd (hrc (x1 + (1 : Int32)) t0 s6 _ (Ok_bind h)) (fun s7 h => ?_)
  refine G_aload_n d_Walk_putFrom_153 rfl 1 rfl ?_
  refine gx_Walk_putAt d_Walk_putFrom_154 w_154 ?_
  refine G_iload_n d_Walk_putFrom_157 rfl 4 rfl ?_
  refine G_dup2 d_Walk_putFrom_158 rfl rfl ?_
  refine lx_26 d_Walk_putFrom_159 (Ok_ld h).1 (fun v8 e => ?_)
  replace h := (Ok_ld h).2 v8 e
  clear e
  refine G_iconst d_Walk_putFrom_160 lt_iconst_1 ?_
  refine G_iload_n d_Walk_putFrom_161 rfl 2 rfl ?_
  refine G_ishl d_Walk_putFrom_162 ?_
  refine G_iconst d_Walk_putFrom_163 lt_iconst_m1 ?_
  refine G_ixor d_Walk_putFrom_164 ?_
  refine G_iand d_Walk_putFrom_165 ?_
  refine sx_26 d_Walk_putFrom_166 (Ok_ld h).1 (fun s9 e => ?_)
  replace h := (Ok_ld h).2 s9 e
  clear e
  refine G_iinc d_Walk_putFrom_167 4 rfl lt_iconst_1 rfl (Nat.le_of_ble_eq_true rfl) (fun x => [(3, .int x), (4, .int t0), (0, .ref (ad 6)), (1, .int x1), (2, .int x2)]) (fun _ => rfl) (fun v10 e => ?_)
  replace h := Ok_bnd h v10 e
  clear e
  refine G_goto (tgt := 33) d_Walk_putFrom_170 (by decide) ?_
  refine G_lv [2, 3, 4, 0] rfl ?_
  exact hL33 v10 s9 (Ok_some h)
noncomputable def Walk_putFrom_l33 (rc : Int32 → Int32 → MS → Option MS) (x1 x2 : Int32) (x3 : Int32) (s : MS) : Option ((Int32 × MS) ⊕ MS) :=
  if (s.1 7) ≤ x3 then (xit (some s)) else ((f_Walk_isSpent s).bind fun v1 => if v1 = 0 then (chk (inb x1 12) (bnd (s.2 24 x1.toNatClampNeg) fun v2 => if ((v2 >>> (x3 &&& 31)) &&& (1 : Int32)) = 0 then (bnd (x3 + (1 : Int32)) fun v3 => some (.inl (v3, s))) else (chk (inb x3 10) (bnd (s.2 26 x3.toNatClampNeg) fun v4 => chk (inb x1 12) (bnd (s.2 25 x1.toNatClampNeg) fun v5 => if (v4 &&& v5) = 0 then (bnd (pf s 9 ((s.1 9) + (1 : Int32))) fun s6 => chk (inb x1 12) (bnd (s6.2 20 x1.toNatClampNeg) fun v7 => if x3 = v7 then (Walk_putFrom_j107 rc x1 x2 x3 x2 s6) else (Walk_putFrom_j107 rc x1 x2 x3 (x2 + (1 : Int32)) s6))) else (bnd (x3 + (1 : Int32)) fun v8 => some (.inl (v8, s)))))))) else (xit (some s)))
theorem Walk_putFrom_l33_w {l : Launch} {D : va_G} {cI cZ cJ : ClassId} {ad : Nat → Nat} (rc : Int32 → Int32 → MS → Option MS) {d d2 : Nat} (hd : d2 + 1 ≤ d) (hd0 : 1 ≤ d) (hrc : ∀ (a1 a2 : Int32) (s : MS) (P : MS → Prop), Ok (rc a1 a2 s) P → Ct (XX l D cI cZ cJ ad) y_Walk_putFrom b_Walk_putFrom 5 none d2 [.ref (ad 6), .int a1, .int a2] s (fun _ s9 => P s9)) (x1 x2 x3 : Int32) (s : MS) {Q : Int32 → MS → Prop} {Post : ((Int32 × MS) ⊕ MS) → Prop} (hR : ∀ (s9 : MS), Post (.inr (s9)) → Q 0 s9) (hL33 : ∀ (z3 : Int32) (s9 : MS), Post (.inl (z3, s9)) → G (XX l D cI cZ cJ ad) "SmallHarbour$Walk" b_Walk_putFrom 5 none d 33 [(0, .ref (ad 6)), (1, .int x1), (2, .int x2), (3, .int z3)] [] s9 Q) (h : Ok (Walk_putFrom_l33 rc x1 x2 x3 s) Post) : G (XX l D cI cZ cJ ad) "SmallHarbour$Walk" b_Walk_putFrom 5 none d 33 [(0, .ref (ad 6)), (1, .int x1), (2, .int x2), (3, .int x3)] [] s Q := by
  unfold Walk_putFrom_l33 at h
  refine G_iload_n d_Walk_putFrom_33 rfl 3 rfl ?_
  refine G_aload_n d_Walk_putFrom_34 rfl 0 rfl ?_
  refine gx_Walk_berthCount d_Walk_putFrom_35 w_155 ?_
  refine G_icmp_ge (tgt := 173) d_Walk_putFrom_38 (by decide) (fun c => ?_) (fun c => ?_)
  · replace h := Ok_t c h
    replace h := Ok_xit h
    exact G_vret rfl d_Walk_putFrom_173 (hR _ (Ok_some h))
  replace h := Ok_f c h
  refine G_aload_n d_Walk_putFrom_41 rfl 0 rfl ?_
  refine G_callVp (st := []) (As := []) (b := ad 6) d_Walk_putFrom_42 mi_Walk_isSpent w_577 6 rfl rfl mv_Walk_isSpent rfl (Nat.le_of_ble_eq_true rfl) (by omega) (c_Walk_isSpent  s (Ok_bind h)) (fun v1 h hnv1 => ?_)
  refine G_if_ne (tgt := 173) d_Walk_putFrom_45 (by decide) (fun c => ?_) (fun c => ?_)
  · replace h := Ok_f c h
    replace h := Ok_xit h
    exact G_vret rfl d_Walk_putFrom_173 (hR _ (Ok_some h))
  replace h := Ok_t c h
  refine G_aload_n d_Walk_putFrom_48 rfl 0 rfl ?_
  refine gx_Walk_allowed d_Walk_putFrom_49 w_152 ?_
  refine G_iload_n d_Walk_putFrom_52 rfl 1 rfl ?_
  refine lx_24 d_Walk_putFrom_53 (Ok_ld h).1 (fun v2 e => ?_)
  replace h := (Ok_ld h).2 v2 e
  clear e
  refine G_iload_n d_Walk_putFrom_54 rfl 3 rfl ?_
  refine G_ishr d_Walk_putFrom_55 ?_
  refine G_iconst d_Walk_putFrom_56 lt_iconst_1 ?_
  refine G_iand d_Walk_putFrom_57 ?_
  refine G_if_eq (tgt := 167) d_Walk_putFrom_58 (by decide) (fun c => ?_) (fun c => ?_)
  · replace h := Ok_t c h
    refine G_iinc d_Walk_putFrom_167 3 rfl lt_iconst_1 rfl (Nat.le_of_ble_eq_true rfl) (fun x => [(3, .int x), (0, .ref (ad 6)), (1, .int x1), (2, .int x2)]) (fun _ => rfl) (fun v3 e => ?_)
    replace h := Ok_bnd h v3 e
    clear e
    refine G_goto (tgt := 33) d_Walk_putFrom_170 (by decide) ?_
    refine G_lv [1, 2, 3, 0] rfl ?_
    exact hL33 v3 s (Ok_some h)
  replace h := Ok_f c h
  refine G_aload_n d_Walk_putFrom_61 rfl 0 rfl ?_
  refine gx_Walk_putAt d_Walk_putFrom_62 w_154 ?_
  refine G_iload_n d_Walk_putFrom_65 rfl 3 rfl ?_
  refine lx_26 d_Walk_putFrom_66 (Ok_ld h).1 (fun v4 e => ?_)
  replace h := (Ok_ld h).2 v4 e
  clear e
  refine G_aload_n d_Walk_putFrom_67 rfl 0 rfl ?_
  refine gx_Walk_shares d_Walk_putFrom_68 w_153 ?_
  refine G_iload_n d_Walk_putFrom_71 rfl 1 rfl ?_
  refine lx_25 d_Walk_putFrom_72 (Ok_ld h).1 (fun v5 e => ?_)
  replace h := (Ok_ld h).2 v5 e
  clear e
  refine G_iand d_Walk_putFrom_73 ?_
  refine G_if_eq (tgt := 80) d_Walk_putFrom_74 (by decide) (fun c => ?_) (fun c => ?_)
  · replace h := Ok_t c h
    refine G_aload_n d_Walk_putFrom_80 rfl 0 rfl ?_
    refine G_dup d_Walk_putFrom_81 rfl ?_
    refine gx_Walk_tries d_Walk_putFrom_82 w_157 ?_
    refine G_iconst d_Walk_putFrom_85 lt_iconst_1 ?_
    refine G_iadd d_Walk_putFrom_86 ?_
    refine px_Walk_tries d_Walk_putFrom_87 w_157 (fun s6 e => ?_)
    replace h := Ok_bnd h s6 e
    clear e
    refine G_iload_n d_Walk_putFrom_90 rfl 3 rfl ?_
    refine G_aload_n d_Walk_putFrom_91 rfl 0 rfl ?_
    refine gx_Walk_own d_Walk_putFrom_92 w_148 ?_
    refine G_iload_n d_Walk_putFrom_95 rfl 1 rfl ?_
    refine lx_20 d_Walk_putFrom_96 (Ok_ld h).1 (fun v7 e => ?_)
    replace h := (Ok_ld h).2 v7 e
    clear e
    refine G_icmp_ne (tgt := 104) d_Walk_putFrom_97 (by decide) (fun c => ?_) (fun c => ?_)
    · replace h := Ok_f c h
      refine G_iload_n d_Walk_putFrom_104 rfl 2 rfl ?_
      refine G_iconst d_Walk_putFrom_105 lt_iconst_1 ?_
      refine G_iadd d_Walk_putFrom_106 ?_
      exact Walk_putFrom_j107_w rc hd hd0 hrc x1 x2 x3 (x2 + (1 : Int32)) s6 hR hL33 h
    replace h := Ok_t c h
    refine G_iload_n d_Walk_putFrom_100 rfl 2 rfl ?_
    refine G_goto (tgt := 107) d_Walk_putFrom_101 (by decide) ?_
    exact Walk_putFrom_j107_w rc hd hd0 hrc x1 x2 x3 x2 s6 hR hL33 h
  replace h := Ok_f c h
  refine G_goto (tgt := 167) d_Walk_putFrom_77 (by decide) ?_
  refine G_iinc d_Walk_putFrom_167 3 rfl lt_iconst_1 rfl (Nat.le_of_ble_eq_true rfl) (fun x => [(3, .int x), (0, .ref (ad 6)), (1, .int x1), (2, .int x2)]) (fun _ => rfl) (fun v8 e => ?_)
  replace h := Ok_bnd h v8 e
  clear e
  refine G_goto (tgt := 33) d_Walk_putFrom_170 (by decide) ?_
  refine G_lv [1, 2, 3, 0] rfl ?_
  exact hL33 v8 s (Ok_some h)
noncomputable def b_f_Walk_putFrom (rc : Int32 → Int32 → MS → Option MS) (a1 a2 : Int32) (s : MS) : Option MS :=
  if a1 < (s.1 6) then (loop (fun z => Walk_putFrom_l33 rc a1 a2 z.1 z.2) ((0 : Int32), s)) else (bnd (pf s 8 a2) fun s1 => chk (decide (0 ≤ (0 : Int32).toInt ∧ 0 ≤ (0 : Int32).toInt ∧ 0 ≤ (s1.1 6).toInt ∧ (0 : Int32).toInt + (s1.1 6).toInt ≤ (12 : Int) ∧ (0 : Int32).toInt + (s1.1 6).toInt ≤ (12 : Int))) (bnd (pr s1 19 (va_cpy (s1.2 23) (s1.2 19) (0 : Int32).toNatClampNeg (0 : Int32).toNatClampNeg (s1.1 6).toNatClampNeg)) fun s2 => some s2))
theorem b_f_Walk_putFrom_w {l : Launch} {D : va_G} {cI cZ cJ : ClassId} {ad : Nat → Nat} (rc : Int32 → Int32 → MS → Option MS) {d d2 : Nat} (hd : d2 + 1 ≤ d) (hd0 : 1 ≤ d) (hrc : ∀ (a1 a2 : Int32) (s : MS) (P : MS → Prop), Ok (rc a1 a2 s) P → Ct (XX l D cI cZ cJ ad) y_Walk_putFrom b_Walk_putFrom 5 none d2 [.ref (ad 6), .int a1, .int a2] s (fun _ s9 => P s9)) (a1 a2 : Int32) (s : MS) {Q : Int32 → MS → Prop} {Post : MS → Prop} (hR : ∀ (s9 : MS), Post (s9) → Q 0 s9) (h : Ok (b_f_Walk_putFrom rc a1 a2 s) Post) : G (XX l D cI cZ cJ ad) "SmallHarbour$Walk" b_Walk_putFrom 5 none d 0 [(0, .ref (ad 6)), (1, .int a1), (2, .int a2)] [] s Q := by
  unfold b_f_Walk_putFrom at h
  refine G_iload_n d_Walk_putFrom_0 rfl 1 rfl ?_
  refine G_aload_n d_Walk_putFrom_1 rfl 0 rfl ?_
  refine gx_Walk_size d_Walk_putFrom_2 w_146 ?_
  refine G_icmp_lt (tgt := 31) d_Walk_putFrom_5 (by decide) (fun c => ?_) (fun c => ?_)
  · replace h := Ok_t c h
    refine G_iconst d_Walk_putFrom_31 lt_iconst_0 ?_
    refine G_istore_n d_Walk_putFrom_32 rfl (Nat.le_of_ble_eq_true rfl) (fun x => [(3, .int x), (0, .ref (ad 6)), (1, .int a1), (2, .int a2)]) (fun _ => rfl) (fun x e => ?_)
    subst e
    refine G_lv [1, 2, 3, 0] rfl ?_
    exact G_loop (J := (fun z => G (XX l D cI cZ cJ ad) "SmallHarbour$Walk" b_Walk_putFrom 5 none d 33 [(0, .ref (ad 6)), (1, .int a1), (2, .int a2), (3, .int (z.1))] [] z.2 Q)) (fun z h => Walk_putFrom_l33_w rc hd hd0 hrc a1 a2 z.1 z.2 (Post := Sum.elim (fun z => G (XX l D cI cZ cJ ad) "SmallHarbour$Walk" b_Walk_putFrom 5 none d 33 [(0, .ref (ad 6)), (1, .int a1), (2, .int a2), (3, .int (z.1))] [] z.2 Q) _) hR (fun z3 s9 h => h) h) ((0 : Int32), s) h
  replace h := Ok_f c h
  refine G_aload_n d_Walk_putFrom_8 rfl 0 rfl ?_
  refine G_iload_n d_Walk_putFrom_9 rfl 2 rfl ?_
  refine px_Walk_fewest d_Walk_putFrom_10 w_156 (fun s1 e => ?_)
  replace h := Ok_bnd h s1 e
  clear e
  refine G_aload_n d_Walk_putFrom_13 rfl 0 rfl ?_
  refine gx_Walk_put d_Walk_putFrom_14 w_151 ?_
  refine G_iconst d_Walk_putFrom_17 lt_iconst_0 ?_
  refine G_aload_n d_Walk_putFrom_18 rfl 0 rfl ?_
  refine gx_Walk_best d_Walk_putFrom_19 w_144 ?_
  refine G_iconst d_Walk_putFrom_22 lt_iconst_0 ?_
  refine G_aload_n d_Walk_putFrom_23 rfl 0 rfl ?_
  refine gx_Walk_size d_Walk_putFrom_24 w_146 ?_
  refine G_copy d_Walk_putFrom_27 w_574 w_576 w_575 w_16 (by omega) (Nat.le_of_ble_eq_true rfl) 36 32 0 0 rfl rfl rfl rfl (Ok_ld h).1 (s2 := (pr s1 19 (va_cpy (s1.2 23) (s1.2 19) (0 : Int32).toNatClampNeg (0 : Int32).toNatClampNeg (s1.1 6).toNatClampNeg))) rfl ?_
  obtain ⟨s2, e⟩ : ∃ z, z = (pr s1 19 (va_cpy (s1.2 23) (s1.2 19) (0 : Int32).toNatClampNeg (0 : Int32).toNatClampNeg (s1.1 6).toNatClampNeg)) := ⟨_, rfl⟩
  rw [← e]
  replace h := (Ok_ld h).2 s2 e
  clear e
  exact G_vret rfl d_Walk_putFrom_30 (hR _ (Ok_some h))
theorem b_c_Walk_putFrom {l : Launch} {D : va_G} {cI cZ cJ : ClassId} {ad : Nat → Nat} (rc : Int32 → Int32 → MS → Option MS) {d d2 : Nat} (hd : d2 + 1 ≤ d) (hd0 : 1 ≤ d) (hrc : ∀ (a1 a2 : Int32) (s : MS) (P : MS → Prop), Ok (rc a1 a2 s) P → Ct (XX l D cI cZ cJ ad) y_Walk_putFrom b_Walk_putFrom 5 none d2 [.ref (ad 6), .int a1, .int a2] s (fun _ s9 => P s9)) (a1 a2 : Int32) (s : MS) {P : MS → Prop} (h : Ok (b_f_Walk_putFrom rc a1 a2 s) P) : Ct (XX l D cI cZ cJ ad) y_Walk_putFrom b_Walk_putFrom 5 none d [.ref (ad 6), .int a1, .int a2] s (fun _ s9 => P s9) :=
  Ct.of mi_Walk_putFrom (Nat.le_of_ble_eq_true rfl) (b_f_Walk_putFrom_w rc hd hd0 hrc a1 a2 s (fun _ h => h) h)
-- Walk_putFrom.grp
noncomputable def f_Walk_putFrom : Nat → Int32 → Int32 → MS → Option MS
  | 0, _, _, _ => none
  | n + 1, a1, a2, s => b_f_Walk_putFrom (f_Walk_putFrom n) a1 a2 s
theorem c_Walk_putFrom {l : Launch} {D : va_G} {cI cZ cJ : ClassId} {ad : Nat → Nat} : ∀ (n : Nat) (a1 a2 : Int32) (s : MS) {P : MS → Prop} (h : Ok (f_Walk_putFrom n a1 a2 s) P), Ct (XX l D cI cZ cJ ad) y_Walk_putFrom b_Walk_putFrom 5 none (1 + n) [.ref (ad 6), .int a1, .int a2] s (fun _ s9 => P s9)
  | 0, _, _, _, _, h => Ok_none h
  | n + 1, a1, a2, s, P, h => b_c_Walk_putFrom (f_Walk_putFrom n) (d := 1 + (n + 1)) (d2 := 1 + n) (by omega) (by omega) (fun a1 a2 s P h => c_Walk_putFrom n a1 a2 s h) a1 a2 s h
-- Walk_search
noncomputable def f_Walk_search (s : MS) : Option MS :=
  (f_Walk_putFrom 14 (0 : Int32) (0 : Int32) s).bind fun s1 => some s1
theorem f_Walk_search_w {l : Launch} {D : va_G} {cI cZ cJ : ClassId} {ad : Nat → Nat} (s : MS) {Q : Int32 → MS → Prop} {Post : MS → Prop} (hR : ∀ (s9 : MS), Post (s9) → Q 0 s9) (h : Ok (f_Walk_search s) Post) : G (XX l D cI cZ cJ ad) "SmallHarbour$Walk" b_Walk_search 1 none 16 0 [(0, .ref (ad 6))] [] s Q := by
  unfold f_Walk_search at h
  refine G_aload_n d_Walk_search_0 rfl 0 rfl ?_
  refine G_iconst d_Walk_search_1 lt_iconst_0 ?_
  refine G_iconst d_Walk_search_2 lt_iconst_0 ?_
  refine G_callVv (st := []) (As := [.int (0 : Int32), .int (0 : Int32)]) (b := ad 6) d_Walk_search_3 mi_Walk_putFrom w_570 6 rfl rfl mv_Walk_putFrom rfl (Nat.le_of_ble_eq_true rfl) (by decide) (c_Walk_putFrom 14 (0 : Int32) (0 : Int32) s (Ok_bind h)) (fun s1 h => ?_)
  exact G_vret rfl d_Walk_search_6 (hR _ (Ok_some h))
theorem c_Walk_search {l : Launch} {D : va_G} {cI cZ cJ : ClassId} {ad : Nat → Nat} (s : MS) {P : MS → Prop} (h : Ok (f_Walk_search  s) P) : Ct (XX l D cI cZ cJ ad) y_Walk_search b_Walk_search 1 none 16 [.ref (ad 6)] s (fun _ s9 => P s9) :=
  Ct.of mi_Walk_search (Nat.le_of_ble_eq_true rfl) (f_Walk_search_w  s (fun _ h => h) h)
-- Hb_findRoom
noncomputable def f_Hb_findRoom (a1 : Int32) (s : MS) : Option (Int32 × MS) :=
  bd2 (f_Hb_lineUp a1 s) fun v1 s2 => if v1 = 0 then (some ((-2 : Int32), s2)) else ((f_Walk_search s2).bind fun s3 => (f_Walk_isSpent s3).bind fun v4 => if v4 = 0 then ((f_Walk_isFound s3).bind fun v5 => if v5 = 0 then (some ((-1 : Int32), s3)) else ((f_Walk_movedFromAhead a1 s3).bind fun v6 => if ((s3.1 5) + v6) ≤ (40 : Int32) then ((f_Hb_carryOut a1 s3).bind fun s7 => some ((s7.1 0), s7)) else (some ((-3 : Int32), s3)))) else (some ((-2 : Int32), s3)))
theorem f_Hb_findRoom_w {l : Launch} {D : va_G} {cI cZ cJ : ClassId} {ad : Nat → Nat} (a1 : Int32) (s : MS) {Q : Int32 → MS → Prop} {Post : (Int32 × MS) → Prop} (hR : ∀ (r9 : Int32) (s9 : MS), Post ((r9, s9)) → Q r9 s9) (h : Ok (f_Hb_findRoom a1 s) Post) : G (XX l D cI cZ cJ ad) "SmallHarbour" b_Hb_findRoom 2 (some .int) 17 0 [(0, .ref (ad 0)), (1, .int a1)] [] s Q := by
  unfold f_Hb_findRoom at h
  refine G_aload_n d_Hb_findRoom_0 rfl 0 rfl ?_
  refine G_iload_n d_Hb_findRoom_1 rfl 1 rfl ?_
  refine G_callVi (st := []) (As := [.int a1]) (b := ad 0) d_Hb_findRoom_2 mi_Hb_lineUp w_547 0 rfl rfl mv_Hb_lineUp rfl (Nat.le_of_ble_eq_true rfl) (by decide) (c_Hb_lineUp a1 s (Ok_bd2 h)) (fun v1 s2 h hnv1 => ?_)
  refine G_if_ne (tgt := 11) d_Hb_findRoom_5 (by decide) (fun c => ?_) (fun c => ?_)
  · replace h := Ok_f c h
    refine G_aload_n d_Hb_findRoom_11 rfl 0 rfl ?_
    refine gx_Hb_walk d_Hb_findRoom_12 w_352 ?_
    refine G_callVv (st := []) (As := []) (b := ad 6) d_Hb_findRoom_15 mi_Walk_search w_566 6 rfl rfl mv_Walk_search rfl (Nat.le_of_ble_eq_true rfl) (by decide) (c_Walk_search  s2 (Ok_bind h)) (fun s3 h => ?_)
    refine G_aload_n d_Hb_findRoom_18 rfl 0 rfl ?_
    refine gx_Hb_walk d_Hb_findRoom_19 w_352 ?_
    refine G_callVp (st := []) (As := []) (b := ad 6) d_Hb_findRoom_22 mi_Walk_isSpent w_582 6 rfl rfl mv_Walk_isSpent rfl (Nat.le_of_ble_eq_true rfl) (by decide) (c_Walk_isSpent  s3 (Ok_bind h)) (fun v4 h hnv4 => ?_)
    refine G_if_eq (tgt := 31) d_Hb_findRoom_25 (by decide) (fun c => ?_) (fun c => ?_)
    · replace h := Ok_t c h
      refine G_aload_n d_Hb_findRoom_31 rfl 0 rfl ?_
      refine gx_Hb_walk d_Hb_findRoom_32 w_352 ?_
      refine G_callVp (st := []) (As := []) (b := ad 6) d_Hb_findRoom_35 mi_Walk_isFound w_583 6 rfl rfl mv_Walk_isFound rfl (Nat.le_of_ble_eq_true rfl) (by decide) (c_Walk_isFound  s3 (Ok_bind h)) (fun v5 h hnv5 => ?_)
      refine G_if_ne (tgt := 43) d_Hb_findRoom_38 (by decide) (fun c => ?_) (fun c => ?_)
      · replace h := Ok_f c h
        refine G_aload_n d_Hb_findRoom_43 rfl 0 rfl ?_
        refine gx_Hb_stays d_Hb_findRoom_44 w_351 ?_
        refine gx_Stays_count d_Hb_findRoom_47 w_124 ?_
        refine G_aload_n d_Hb_findRoom_50 rfl 0 rfl ?_
        refine gx_Hb_walk d_Hb_findRoom_51 w_352 ?_
        refine G_iload_n d_Hb_findRoom_54 rfl 1 rfl ?_
        refine G_callVp (st := [.int (s3.1 5)]) (As := [.int a1]) (b := ad 6) d_Hb_findRoom_55 mi_Walk_movedFromAhead w_587 6 rfl rfl mv_Walk_movedFromAhead rfl (Nat.le_of_ble_eq_true rfl) (by decide) (c_Walk_movedFromAhead a1 s3 (Ok_bind h)) (fun v6 h hnv6 => ?_)
        refine G_iadd d_Hb_findRoom_58 ?_
        refine G_bipush d_Hb_findRoom_59 lt_bipush_40 ?_
        refine G_icmp_le (tgt := 67) d_Hb_findRoom_61 (by decide) (fun c => ?_) (fun c => ?_)
        · replace h := Ok_t c h
          refine G_aload_n d_Hb_findRoom_67 rfl 0 rfl ?_
          refine G_iload_n d_Hb_findRoom_68 rfl 1 rfl ?_
          refine G_callVv (st := []) (As := [.int a1]) (b := ad 0) d_Hb_findRoom_69 mi_Hb_carryOut w_595 0 rfl rfl mv_Hb_carryOut rfl (Nat.le_of_ble_eq_true rfl) (by decide) (c_Hb_carryOut a1 s3 (Ok_bind h)) (fun s7 h => ?_)
          refine G_aload_n d_Hb_findRoom_72 rfl 0 rfl ?_
          refine gx_Hb_keptCount d_Hb_findRoom_73 w_359 ?_
          exact G_iret rfl (vp_nar_int _) d_Hb_findRoom_76 (hR _ _ (Ok_some h))
        replace h := Ok_f c h
        refine G_bipush d_Hb_findRoom_64 lt_bipush_m3 ?_
        exact G_iret rfl (vp_nar_int _) d_Hb_findRoom_66 (hR _ _ (Ok_some h))
      replace h := Ok_t c h
      refine G_iconst d_Hb_findRoom_41 lt_iconst_m1 ?_
      exact G_iret rfl (vp_nar_int _) d_Hb_findRoom_42 (hR _ _ (Ok_some h))
    replace h := Ok_f c h
    refine G_bipush d_Hb_findRoom_28 lt_bipush_m2 ?_
    exact G_iret rfl (vp_nar_int _) d_Hb_findRoom_30 (hR _ _ (Ok_some h))
  replace h := Ok_t c h
  refine G_bipush d_Hb_findRoom_8 lt_bipush_m2 ?_
  exact G_iret rfl (vp_nar_int _) d_Hb_findRoom_10 (hR _ _ (Ok_some h))
theorem c_Hb_findRoom {l : Launch} {D : va_G} {cI cZ cJ : ClassId} {ad : Nat → Nat} (a1 : Int32) (s : MS) {P : Int32 → MS → Prop} (h : Ok2 (f_Hb_findRoom a1 s) P) : Ct (XX l D cI cZ cJ ad) y_Hb_findRoom b_Hb_findRoom 2 (some .int) 17 [.ref (ad 0), .int a1] s (P) :=
  Ct.of mi_Hb_findRoom (Nat.le_of_ble_eq_true rfl) (f_Hb_findRoom_w a1 s (Post := fun q => P q.1 q.2) (fun _ _ h => h) (Ok2_ok h))
-- Hb_fits
noncomputable def f_Hb_fits (a1 a2 a3 : Int32) (s : MS) : Option Int32 :=
  (f_Boats_has a1 s).bind fun v1 => if v1 = 0 then (some (-1 : Int32)) else ((f_Berths_has a2 s).bind fun v2 => if v2 = 0 then (some (-1 : Int32)) else ((f_Hb_isDay a3).bind fun v3 => if v3 = 0 then (some (-1 : Int32)) else ((f_Hb_fitsAllNights a1 a2 a3 (a3 + (1 : Int32)) s).bind fun v4 => if v4 = 0 then (some (0 : Int32)) else (some (1 : Int32)))))
theorem f_Hb_fits_w {l : Launch} {D : va_G} {cI cZ cJ : ClassId} {ad : Nat → Nat} (a1 a2 a3 : Int32) (s : MS) {Q : Int32 → MS → Prop} {Post : Int32 → Prop} (hR : ∀ (r9 : Int32), Post (r9) → Q r9 s) (h : Ok (f_Hb_fits a1 a2 a3 s) Post) : G (XX l D cI cZ cJ ad) "SmallHarbour" b_Hb_fits 4 (some .int) 3 0 [(0, .ref (ad 0)), (1, .int a1), (2, .int a2), (3, .int a3)] [] s Q := by
  unfold f_Hb_fits at h
  refine G_aload_n d_Hb_fits_0 rfl 0 rfl ?_
  refine gx_Hb_boats d_Hb_fits_1 w_349 ?_
  refine G_iload_n d_Hb_fits_4 rfl 1 rfl ?_
  refine G_callVp (st := []) (As := [.int a1]) (b := ad 3) d_Hb_fits_5 mi_Boats_has w_465 3 rfl rfl mv_Boats_has rfl (Nat.le_of_ble_eq_true rfl) (by decide) (c_Boats_has a1 s (Ok_bind h)) (fun v1 h hnv1 => ?_)
  refine G_if_eq (tgt := 29) d_Hb_fits_8 (by decide) (fun c => ?_) (fun c => ?_)
  · replace h := Ok_t c h
    refine G_iconst d_Hb_fits_29 lt_iconst_m1 ?_
    exact G_iret rfl (vp_nar_int _) d_Hb_fits_30 (hR _ (Ok_some h))
  replace h := Ok_f c h
  refine G_aload_n d_Hb_fits_11 rfl 0 rfl ?_
  refine gx_Hb_berths d_Hb_fits_12 w_348 ?_
  refine G_iload_n d_Hb_fits_15 rfl 2 rfl ?_
  refine G_callVp (st := []) (As := [.int a2]) (b := ad 2) d_Hb_fits_16 mi_Berths_has w_438 2 rfl rfl mv_Berths_has rfl (Nat.le_of_ble_eq_true rfl) (by decide) (c_Berths_has a2 s (Ok_bind h)) (fun v2 h hnv2 => ?_)
  refine G_if_eq (tgt := 29) d_Hb_fits_19 (by decide) (fun c => ?_) (fun c => ?_)
  · replace h := Ok_t c h
    refine G_iconst d_Hb_fits_29 lt_iconst_m1 ?_
    exact G_iret rfl (vp_nar_int _) d_Hb_fits_30 (hR _ (Ok_some h))
  replace h := Ok_f c h
  refine G_iload_n d_Hb_fits_22 rfl 3 rfl ?_
  refine G_callSp (st := []) (As := [.int a3]) d_Hb_fits_23 mi_Hb_isDay w_473 w_474 rfl (Nat.le_of_ble_eq_true rfl) (by decide) (c_Hb_isDay a3 s (Ok_bind h)) (fun v3 h hnv3 => ?_)
  refine G_if_ne (tgt := 31) d_Hb_fits_26 (by decide) (fun c => ?_) (fun c => ?_)
  · replace h := Ok_f c h
    refine G_aload_n d_Hb_fits_31 rfl 0 rfl ?_
    refine G_iload_n d_Hb_fits_32 rfl 1 rfl ?_
    refine G_iload_n d_Hb_fits_33 rfl 2 rfl ?_
    refine G_iload_n d_Hb_fits_34 rfl 3 rfl ?_
    refine G_iload_n d_Hb_fits_35 rfl 3 rfl ?_
    refine G_iconst d_Hb_fits_36 lt_iconst_1 ?_
    refine G_iadd d_Hb_fits_37 ?_
    refine G_callVp (st := []) (As := [.int a1, .int a2, .int a3, .int (a3 + (1 : Int32))]) (b := ad 0) d_Hb_fits_38 mi_Hb_fitsAllNights w_488 0 rfl rfl mv_Hb_fitsAllNights rfl (Nat.le_of_ble_eq_true rfl) (by decide) (c_Hb_fitsAllNights a1 a2 a3 (a3 + (1 : Int32)) s (Ok_bind h)) (fun v4 h hnv4 => ?_)
    refine G_if_eq (tgt := 48) d_Hb_fits_41 (by decide) (fun c => ?_) (fun c => ?_)
    · replace h := Ok_t c h
      refine G_iconst d_Hb_fits_48 lt_iconst_0 ?_
      exact G_iret rfl (vp_nar_int _) d_Hb_fits_49 (hR _ (Ok_some h))
    replace h := Ok_f c h
    refine G_iconst d_Hb_fits_44 lt_iconst_1 ?_
    refine G_goto (tgt := 49) d_Hb_fits_45 (by decide) ?_
    exact G_iret rfl (vp_nar_int _) d_Hb_fits_49 (hR _ (Ok_some h))
  replace h := Ok_t c h
  refine G_iconst d_Hb_fits_29 lt_iconst_m1 ?_
  exact G_iret rfl (vp_nar_int _) d_Hb_fits_30 (hR _ (Ok_some h))
theorem c_Hb_fits {l : Launch} {D : va_G} {cI cZ cJ : ClassId} {ad : Nat → Nat} (a1 a2 a3 : Int32) (s : MS) {P : Int32 → Prop} (h : Ok (f_Hb_fits a1 a2 a3 s) P) : Ct (XX l D cI cZ cJ ad) y_Hb_fits b_Hb_fits 4 (some .int) 3 [.ref (ad 0), .int a1, .int a2, .int a3] s (fun r9 s9 => s9 = s ∧ P r9) :=
  Ct.of mi_Hb_fits (Nat.le_of_ble_eq_true rfl) (f_Hb_fits_w a1 a2 a3 s (fun _ h => ⟨rfl, h⟩) h)
-- Hoist_set
noncomputable def f_Hoist_set (a1 a2 a3 : Int32) (s : MS) : Option (Int32 × MS) :=
  (f_Hb_isWithin a1 (0 : Int32) (40 : Int32)).bind fun v1 => if v1 = 0 then (some ((0 : Int32), s)) else ((f_Hb_isWithin a2 (1 : Int32) (500 : Int32)).bind fun v2 => if v2 = 0 then (some ((0 : Int32), s)) else ((f_Hb_isWithin a3 (1 : Int32) (600 : Int32)).bind fun v3 => if v3 = 0 then (some ((0 : Int32), s)) else (bnd (pf s 11 a1) fun s4 => bnd (pf s4 12 a2) fun s5 => bnd (pf s5 13 a3) fun s6 => some ((1 : Int32), s6))))
theorem f_Hoist_set_w {l : Launch} {D : va_G} {cI cZ cJ : ClassId} {ad : Nat → Nat} (a1 a2 a3 : Int32) (s : MS) {Q : Int32 → MS → Prop} {Post : (Int32 × MS) → Prop} (hR : ∀ (r9 : Int32) (s9 : MS), Post ((r9, s9)) → Q r9 s9) (h : Ok (f_Hoist_set a1 a2 a3 s) Post) : G (XX l D cI cZ cJ ad) "SmallHarbour$Hoist" b_Hoist_set 4 (some .boolean) 1 0 [(0, .ref (ad 7)), (1, .int a1), (2, .int a2), (3, .int a3)] [] s Q := by
  unfold f_Hoist_set at h
  refine G_iload_n d_Hoist_set_0 rfl 1 rfl ?_
  refine G_iconst d_Hoist_set_1 lt_iconst_0 ?_
  refine G_bipush d_Hoist_set_2 lt_bipush_40 ?_
  refine G_callNp (st := []) (As := [.int a1, .int (0 : Int32), .int (40 : Int32)]) d_Hoist_set_4 mi_Hb_isWithin w_647 w_423 rfl (Nat.le_of_ble_eq_true rfl) (by decide) (c_Hb_isWithin a1 (0 : Int32) (40 : Int32) s (Ok_bind h)) (fun v1 h hnv1 => ?_)
  refine G_if_eq (tgt := 21) d_Hoist_set_7 (by decide) (fun c => ?_) (fun c => ?_)
  · replace h := Ok_t c h
    refine G_iconst d_Hoist_set_21 lt_iconst_0 ?_
    exact G_iret rfl rfl d_Hoist_set_22 (hR _ _ (Ok_some h))
  replace h := Ok_f c h
  refine G_iload_n d_Hoist_set_10 rfl 2 rfl ?_
  refine G_iconst d_Hoist_set_11 lt_iconst_1 ?_
  refine G_sipush d_Hoist_set_12 lt_sipush_500 ?_
  refine G_callNp (st := []) (As := [.int a2, .int (1 : Int32), .int (500 : Int32)]) d_Hoist_set_15 mi_Hb_isWithin w_647 w_423 rfl (Nat.le_of_ble_eq_true rfl) (by decide) (c_Hb_isWithin a2 (1 : Int32) (500 : Int32) s (Ok_bind h)) (fun v2 h hnv2 => ?_)
  refine G_if_ne (tgt := 23) d_Hoist_set_18 (by decide) (fun c => ?_) (fun c => ?_)
  · replace h := Ok_f c h
    refine G_iload_n d_Hoist_set_23 rfl 3 rfl ?_
    refine G_iconst d_Hoist_set_24 lt_iconst_1 ?_
    refine G_sipush d_Hoist_set_25 lt_sipush_600 ?_
    refine G_callNp (st := []) (As := [.int a3, .int (1 : Int32), .int (600 : Int32)]) d_Hoist_set_28 mi_Hb_isWithin w_647 w_423 rfl (Nat.le_of_ble_eq_true rfl) (by decide) (c_Hb_isWithin a3 (1 : Int32) (600 : Int32) s (Ok_bind h)) (fun v3 h hnv3 => ?_)
    refine G_if_ne (tgt := 36) d_Hoist_set_31 (by decide) (fun c => ?_) (fun c => ?_)
    · replace h := Ok_f c h
      refine G_aload_n d_Hoist_set_36 rfl 0 rfl ?_
      refine G_iload_n d_Hoist_set_37 rfl 1 rfl ?_
      refine px_Hoist_leastLevel d_Hoist_set_38 w_195 (fun s4 e => ?_)
      replace h := Ok_bnd h s4 e
      clear e
      refine G_aload_n d_Hoist_set_41 rfl 0 rfl ?_
      refine G_iload_n d_Hoist_set_42 rfl 2 rfl ?_
      refine px_Hoist_mostWeight d_Hoist_set_43 w_196 (fun s5 e => ?_)
      replace h := Ok_bnd h s5 e
      clear e
      refine G_aload_n d_Hoist_set_46 rfl 0 rfl ?_
      refine G_iload_n d_Hoist_set_47 rfl 3 rfl ?_
      refine px_Hoist_minutesOfDay d_Hoist_set_48 w_197 (fun s6 e => ?_)
      replace h := Ok_bnd h s6 e
      clear e
      refine G_iconst d_Hoist_set_51 lt_iconst_1 ?_
      exact G_iret rfl rfl d_Hoist_set_52 (hR _ _ (Ok_some h))
    replace h := Ok_t c h
    refine G_iconst d_Hoist_set_34 lt_iconst_0 ?_
    exact G_iret rfl rfl d_Hoist_set_35 (hR _ _ (Ok_some h))
  replace h := Ok_t c h
  refine G_iconst d_Hoist_set_21 lt_iconst_0 ?_
  exact G_iret rfl rfl d_Hoist_set_22 (hR _ _ (Ok_some h))
theorem c_Hoist_set {l : Launch} {D : va_G} {cI cZ cJ : ClassId} {ad : Nat → Nat} (a1 a2 a3 : Int32) (s : MS) {P : Int32 → MS → Prop} (h : Ok2 (f_Hoist_set a1 a2 a3 s) P) : Ct (XX l D cI cZ cJ ad) y_Hoist_set b_Hoist_set 4 (some .boolean) 1 [.ref (ad 7), .int a1, .int a2, .int a3] s (P) :=
  Ct.of mi_Hoist_set (Nat.le_of_ble_eq_true rfl) (f_Hoist_set_w a1 a2 a3 s (Post := fun q => P q.1 q.2) (fun _ _ h => h) (Ok2_ok h))
-- Hb_hoist
noncomputable def f_Hb_hoist (a1 a2 a3 : Int32) (s : MS) : Option (Int32 × MS) :=
  bd2 (f_Hoist_set a1 a2 a3 s) fun v1 s2 => some (v1, s2)
theorem f_Hb_hoist_w {l : Launch} {D : va_G} {cI cZ cJ : ClassId} {ad : Nat → Nat} (a1 a2 a3 : Int32) (s : MS) {Q : Int32 → MS → Prop} {Post : (Int32 × MS) → Prop} (hR : ∀ (r9 : Int32) (s9 : MS), Post ((r9, s9)) → Q r9 s9) (h : Ok (f_Hb_hoist a1 a2 a3 s) Post) : G (XX l D cI cZ cJ ad) "SmallHarbour" b_Hb_hoist 4 (some .boolean) 2 0 [(0, .ref (ad 0)), (1, .int a1), (2, .int a2), (3, .int a3)] [] s Q := by
  unfold f_Hb_hoist at h
  refine G_aload_n d_Hb_hoist_0 rfl 0 rfl ?_
  refine gx_Hb_crane d_Hb_hoist_1 w_353 ?_
  refine G_iload_n d_Hb_hoist_4 rfl 1 rfl ?_
  refine G_iload_n d_Hb_hoist_5 rfl 2 rfl ?_
  refine G_iload_n d_Hb_hoist_6 rfl 3 rfl ?_
  refine G_callVi (st := []) (As := [.int a1, .int a2, .int a3]) (b := ad 7) d_Hb_hoist_7 mi_Hoist_set w_643 7 rfl rfl mv_Hoist_set rfl (Nat.le_of_ble_eq_true rfl) (by decide) (c_Hoist_set a1 a2 a3 s (Ok_bd2 h)) (fun v1 s2 h hnv1 => ?_)
  exact G_iret rfl hnv1 d_Hb_hoist_10 (hR _ _ (Ok_some h))
theorem c_Hb_hoist {l : Launch} {D : va_G} {cI cZ cJ : ClassId} {ad : Nat → Nat} (a1 a2 a3 : Int32) (s : MS) {P : Int32 → MS → Prop} (h : Ok2 (f_Hb_hoist a1 a2 a3 s) P) : Ct (XX l D cI cZ cJ ad) y_Hb_hoist b_Hb_hoist 4 (some .boolean) 2 [.ref (ad 0), .int a1, .int a2, .int a3] s (P) :=
  Ct.of mi_Hb_hoist (Nat.le_of_ble_eq_true rfl) (f_Hb_hoist_w a1 a2 a3 s (Post := fun q => P q.1 q.2) (fun _ _ h => h) (Ok2_ok h))
-- Spans_remove
noncomputable def f_Spans_remove (a1 : Int32) (s : MS) : Option MS :=
  if a1 < 0 then (some s) else (if a1 < (s.1 4) then (bnd (pf s 4 ((s.1 4) - (1 : Int32))) fun s1 => chk (inb (s1.1 4) 60) (bnd (s1.2 11 (s1.1 4).toNatClampNeg) fun v2 => chk (inb a1 60) (bnd (pa s1 11 a1.toNatClampNeg v2) fun s3 => chk (inb (s3.1 4) 60) (bnd (s3.2 12 (s3.1 4).toNatClampNeg) fun v4 => chk (inb a1 60) (bnd (pa s3 12 a1.toNatClampNeg v4) fun s5 => chk (inb (s5.1 4) 60) (bnd (s5.2 13 (s5.1 4).toNatClampNeg) fun v6 => chk (inb a1 60) (bnd (pa s5 13 a1.toNatClampNeg v6) fun s7 => some s7))))))) else (some s))
theorem f_Spans_remove_w {l : Launch} {D : va_G} {cI cZ cJ : ClassId} {ad : Nat → Nat} (a1 : Int32) (s : MS) {Q : Int32 → MS → Prop} {Post : MS → Prop} (hR : ∀ (s9 : MS), Post (s9) → Q 0 s9) (h : Ok (f_Spans_remove a1 s) Post) : G (XX l D cI cZ cJ ad) "SmallHarbour$Spans" b_Spans_remove 2 none 0 0 [(0, .ref (ad 4)), (1, .int a1)] [] s Q := by
  unfold f_Spans_remove at h
  refine G_iload_n d_Spans_remove_0 rfl 1 rfl ?_
  refine G_if_lt (tgt := 12) d_Spans_remove_1 (by decide) (fun c => ?_) (fun c => ?_)
  · replace h := Ok_t c h
    exact G_vret rfl d_Spans_remove_12 (hR _ (Ok_some h))
  replace h := Ok_f c h
  refine G_iload_n d_Spans_remove_4 rfl 1 rfl ?_
  refine G_aload_n d_Spans_remove_5 rfl 0 rfl ?_
  refine gx_Spans_count d_Spans_remove_6 w_98 ?_
  refine G_icmp_lt (tgt := 13) d_Spans_remove_9 (by decide) (fun c => ?_) (fun c => ?_)
  · replace h := Ok_t c h
    refine G_aload_n d_Spans_remove_13 rfl 0 rfl ?_
    refine G_dup d_Spans_remove_14 rfl ?_
    refine gx_Spans_count d_Spans_remove_15 w_98 ?_
    refine G_iconst d_Spans_remove_18 lt_iconst_1 ?_
    refine G_isub d_Spans_remove_19 ?_
    refine px_Spans_count d_Spans_remove_20 w_98 (fun s1 e => ?_)
    replace h := Ok_bnd h s1 e
    clear e
    refine G_aload_n d_Spans_remove_23 rfl 0 rfl ?_
    refine gx_Spans_boat d_Spans_remove_24 w_93 ?_
    refine G_iload_n d_Spans_remove_27 rfl 1 rfl ?_
    refine G_aload_n d_Spans_remove_28 rfl 0 rfl ?_
    refine gx_Spans_boat d_Spans_remove_29 w_93 ?_
    refine G_aload_n d_Spans_remove_32 rfl 0 rfl ?_
    refine gx_Spans_count d_Spans_remove_33 w_98 ?_
    refine lx_11 d_Spans_remove_36 (Ok_ld h).1 (fun v2 e => ?_)
    replace h := (Ok_ld h).2 v2 e
    clear e
    refine sx_11 d_Spans_remove_37 (Ok_ld h).1 (fun s3 e => ?_)
    replace h := (Ok_ld h).2 s3 e
    clear e
    refine G_aload_n d_Spans_remove_38 rfl 0 rfl ?_
    refine gx_Spans_from d_Spans_remove_39 w_94 ?_
    refine G_iload_n d_Spans_remove_42 rfl 1 rfl ?_
    refine G_aload_n d_Spans_remove_43 rfl 0 rfl ?_
    refine gx_Spans_from d_Spans_remove_44 w_94 ?_
    refine G_aload_n d_Spans_remove_47 rfl 0 rfl ?_
    refine gx_Spans_count d_Spans_remove_48 w_98 ?_
    refine lx_12 d_Spans_remove_51 (Ok_ld h).1 (fun v4 e => ?_)
    replace h := (Ok_ld h).2 v4 e
    clear e
    refine sx_12 d_Spans_remove_52 (Ok_ld h).1 (fun s5 e => ?_)
    replace h := (Ok_ld h).2 s5 e
    clear e
    refine G_aload_n d_Spans_remove_53 rfl 0 rfl ?_
    refine gx_Spans_to d_Spans_remove_54 w_96 ?_
    refine G_iload_n d_Spans_remove_57 rfl 1 rfl ?_
    refine G_aload_n d_Spans_remove_58 rfl 0 rfl ?_
    refine gx_Spans_to d_Spans_remove_59 w_96 ?_
    refine G_aload_n d_Spans_remove_62 rfl 0 rfl ?_
    refine gx_Spans_count d_Spans_remove_63 w_98 ?_
    refine lx_13 d_Spans_remove_66 (Ok_ld h).1 (fun v6 e => ?_)
    replace h := (Ok_ld h).2 v6 e
    clear e
    refine sx_13 d_Spans_remove_67 (Ok_ld h).1 (fun s7 e => ?_)
    replace h := (Ok_ld h).2 s7 e
    clear e
    exact G_vret rfl d_Spans_remove_68 (hR _ (Ok_some h))
  replace h := Ok_f c h
  exact G_vret rfl d_Spans_remove_12 (hR _ (Ok_some h))
theorem c_Spans_remove {l : Launch} {D : va_G} {cI cZ cJ : ClassId} {ad : Nat → Nat} (a1 : Int32) (s : MS) {P : MS → Prop} (h : Ok (f_Spans_remove a1 s) P) : Ct (XX l D cI cZ cJ ad) y_Spans_remove b_Spans_remove 2 none 0 [.ref (ad 4), .int a1] s (fun _ s9 => P s9) :=
  Ct.of mi_Spans_remove (Nat.le_of_ble_eq_true rfl) (f_Spans_remove_w a1 s (fun _ h => h) h)
-- Hb_home
noncomputable def f_Hb_home (a1 a2 : Int32) (s : MS) : Option (Int32 × MS) :=
  (f_Spans_find a1 a2 s).bind fun v1 => if v1 = (-1 : Int32) then (some ((-1 : Int32), s)) else (chk (inb v1 60) (bnd (s.2 13 v1.toNatClampNeg) fun v2 => chk (inb v1 60) (bnd (pa s 13 v1.toNatClampNeg a2) fun s3 => bd2 (f_Hb_findRoom a2 s3) fun v4 s5 => if 0 ≤ v4 then (chk (inb v1 60) (bnd (s5.2 12 v1.toNatClampNeg) fun v6 => if v6 = a2 then ((f_Spans_remove v1 s5).bind fun s7 => some (v4, s7)) else (some (v4, s5)))) else (chk (inb v1 60) (bnd (pa s5 13 v1.toNatClampNeg v2) fun s8 => some (v4, s8))))))
theorem f_Hb_home_w {l : Launch} {D : va_G} {cI cZ cJ : ClassId} {ad : Nat → Nat} (a1 a2 : Int32) (s : MS) {Q : Int32 → MS → Prop} {Post : (Int32 × MS) → Prop} (hR : ∀ (r9 : Int32) (s9 : MS), Post ((r9, s9)) → Q r9 s9) (h : Ok (f_Hb_home a1 a2 s) Post) : G (XX l D cI cZ cJ ad) "SmallHarbour" b_Hb_home 6 (some .int) 18 0 [(0, .ref (ad 0)), (1, .int a1), (2, .int a2)] [] s Q := by
  unfold f_Hb_home at h
  refine G_aload_n d_Hb_home_0 rfl 0 rfl ?_
  refine gx_Hb_spans d_Hb_home_1 w_350 ?_
  refine G_iload_n d_Hb_home_4 rfl 1 rfl ?_
  refine G_iload_n d_Hb_home_5 rfl 2 rfl ?_
  refine G_callVp (st := []) (As := [.int a1, .int a2]) (b := ad 4) d_Hb_home_6 mi_Spans_find w_476 4 rfl rfl mv_Spans_find rfl (Nat.le_of_ble_eq_true rfl) (by decide) (c_Spans_find a1 a2 s (Ok_bind h)) (fun v1 h hnv1 => ?_)
  refine G_istore_n d_Hb_home_9 rfl (Nat.le_of_ble_eq_true rfl) (fun x => [(3, .int x), (0, .ref (ad 0)), (1, .int a1), (2, .int a2)]) (fun _ => rfl) (fun x e => ?_)
  subst e
  refine G_iload_n d_Hb_home_10 rfl 0 rfl ?_
  refine G_iconst d_Hb_home_11 lt_iconst_m1 ?_
  refine G_icmp_ne (tgt := 17) d_Hb_home_12 (by decide) (fun c => ?_) (fun c => ?_)
  · replace h := Ok_f c h
    refine G_aload_n d_Hb_home_17 rfl 1 rfl ?_
    refine gx_Hb_spans d_Hb_home_18 w_350 ?_
    refine gx_Spans_to d_Hb_home_21 w_97 ?_
    refine G_iload_n d_Hb_home_24 rfl 0 rfl ?_
    refine lx_13 d_Hb_home_25 (Ok_ld h).1 (fun v2 e => ?_)
    replace h := (Ok_ld h).2 v2 e
    clear e
    refine G_istore d_Hb_home_26 (Nat.le_of_ble_eq_true rfl) (fun x => [(4, .int x), (3, .int v1), (0, .ref (ad 0)), (1, .int a1), (2, .int a2)]) (fun _ => rfl) (fun x e => ?_)
    subst e
    refine G_aload_n d_Hb_home_28 rfl 2 rfl ?_
    refine gx_Hb_spans d_Hb_home_29 w_350 ?_
    refine gx_Spans_to d_Hb_home_32 w_97 ?_
    refine G_iload_n d_Hb_home_35 rfl 1 rfl ?_
    refine G_iload_n d_Hb_home_36 rfl 4 rfl ?_
    refine sx_13 d_Hb_home_37 (Ok_ld h).1 (fun s3 e => ?_)
    replace h := (Ok_ld h).2 s3 e
    clear e
    refine G_aload_n d_Hb_home_38 rfl 2 rfl ?_
    refine G_iload_n d_Hb_home_39 rfl 4 rfl ?_
    refine G_callVi (st := []) (As := [.int a2]) (b := ad 0) d_Hb_home_40 mi_Hb_findRoom w_543 0 rfl rfl mv_Hb_findRoom rfl (Nat.le_of_ble_eq_true rfl) (by decide) (c_Hb_findRoom a2 s3 (Ok_bd2 h)) (fun v4 s5 h hnv4 => ?_)
    refine G_istore d_Hb_home_43 (Nat.le_of_ble_eq_true rfl) (fun x => [(5, .int x), (4, .int v2), (3, .int v1), (0, .ref (ad 0)), (1, .int a1), (2, .int a2)]) (fun _ => rfl) (fun x e => ?_)
    subst e
    refine G_iload d_Hb_home_45 0 rfl ?_
    refine G_if_ge (tgt := 64) d_Hb_home_47 (by decide) (fun c => ?_) (fun c => ?_)
    · replace h := Ok_t c h
      refine G_aload_n d_Hb_home_64 rfl 3 rfl ?_
      refine gx_Hb_spans d_Hb_home_65 w_350 ?_
      refine gx_Spans_from d_Hb_home_68 w_95 ?_
      refine G_iload_n d_Hb_home_71 rfl 2 rfl ?_
      refine lx_12 d_Hb_home_72 (Ok_ld h).1 (fun v6 e => ?_)
      replace h := (Ok_ld h).2 v6 e
      clear e
      refine G_iload_n d_Hb_home_73 rfl 5 rfl ?_
      refine G_icmp_ne (tgt := 85) d_Hb_home_74 (by decide) (fun c => ?_) (fun c => ?_)
      · replace h := Ok_f c h
        refine G_iload d_Hb_home_85 0 rfl ?_
        exact G_iret rfl (vp_nar_int _) d_Hb_home_87 (hR _ _ (Ok_some h))
      replace h := Ok_t c h
      refine G_aload_n d_Hb_home_77 rfl 3 rfl ?_
      refine gx_Hb_spans d_Hb_home_78 w_350 ?_
      refine G_iload_n d_Hb_home_81 rfl 2 rfl ?_
      refine G_callVv (st := []) (As := [.int v1]) (b := ad 4) d_Hb_home_82 mi_Spans_remove w_600 4 rfl rfl mv_Spans_remove rfl (Nat.le_of_ble_eq_true rfl) (by decide) (c_Spans_remove v1 s5 (Ok_bind h)) (fun s7 h => ?_)
      refine G_iload d_Hb_home_85 0 rfl ?_
      exact G_iret rfl (vp_nar_int _) d_Hb_home_87 (hR _ _ (Ok_some h))
    replace h := Ok_f c h
    refine G_aload_n d_Hb_home_50 rfl 3 rfl ?_
    refine gx_Hb_spans d_Hb_home_51 w_350 ?_
    refine gx_Spans_to d_Hb_home_54 w_97 ?_
    refine G_iload_n d_Hb_home_57 rfl 2 rfl ?_
    refine G_iload d_Hb_home_58 1 rfl ?_
    refine sx_13 d_Hb_home_60 (Ok_ld h).1 (fun s8 e => ?_)
    replace h := (Ok_ld h).2 s8 e
    clear e
    refine G_goto (tgt := 85) d_Hb_home_61 (by decide) ?_
    refine G_iload d_Hb_home_85 0 rfl ?_
    exact G_iret rfl (vp_nar_int _) d_Hb_home_87 (hR _ _ (Ok_some h))
  replace h := Ok_t c h
  refine G_iconst d_Hb_home_15 lt_iconst_m1 ?_
  exact G_iret rfl (vp_nar_int _) d_Hb_home_16 (hR _ _ (Ok_some h))
theorem c_Hb_home {l : Launch} {D : va_G} {cI cZ cJ : ClassId} {ad : Nat → Nat} (a1 a2 : Int32) (s : MS) {P : Int32 → MS → Prop} (h : Ok2 (f_Hb_home a1 a2 s) P) : Ct (XX l D cI cZ cJ ad) y_Hb_home b_Hb_home 6 (some .int) 18 [.ref (ad 0), .int a1, .int a2] s (P) :=
  Ct.of mi_Hb_home (Nat.le_of_ble_eq_true rfl) (f_Hb_home_w a1 a2 s (Post := fun q => P q.1 q.2) (fun _ _ h => h) (Ok2_ok h))
-- Hb_isTideFixed
noncomputable def f_Hb_isTideFixed (s : MS) : Option Int32 :=
  if 0 < (s.1 5) then (some (1 : Int32)) else ((f_Berths_isAnyHeld s).bind fun v1 => if v1 = 0 then (some (0 : Int32)) else (some (1 : Int32)))
theorem f_Hb_isTideFixed_w {l : Launch} {D : va_G} {cI cZ cJ : ClassId} {ad : Nat → Nat} (s : MS) {Q : Int32 → MS → Prop} {Post : Int32 → Prop} (hR : ∀ (r9 : Int32), Post (r9) → Q r9 s) (h : Ok (f_Hb_isTideFixed s) Post) : G (XX l D cI cZ cJ ad) "SmallHarbour" b_Hb_isTideFixed 1 (some .boolean) 1 0 [(0, .ref (ad 0))] [] s Q := by
  unfold f_Hb_isTideFixed at h
  refine G_aload_n d_Hb_isTideFixed_0 rfl 0 rfl ?_
  refine gx_Hb_stays d_Hb_isTideFixed_1 w_351 ?_
  refine gx_Stays_count d_Hb_isTideFixed_4 w_124 ?_
  refine G_if_gt (tgt := 20) d_Hb_isTideFixed_7 (by decide) (fun c => ?_) (fun c => ?_)
  · replace h := Ok_t c h
    refine G_iconst d_Hb_isTideFixed_20 lt_iconst_1 ?_
    refine G_goto (tgt := 25) d_Hb_isTideFixed_21 (by decide) ?_
    exact G_iret rfl rfl d_Hb_isTideFixed_25 (hR _ (Ok_some h))
  replace h := Ok_f c h
  refine G_aload_n d_Hb_isTideFixed_10 rfl 0 rfl ?_
  refine gx_Hb_berths d_Hb_isTideFixed_11 w_348 ?_
  refine G_callVp (st := []) (As := []) (b := ad 2) d_Hb_isTideFixed_14 mi_Berths_isAnyHeld w_395 2 rfl rfl mv_Berths_isAnyHeld rfl (Nat.le_of_ble_eq_true rfl) (by decide) (c_Berths_isAnyHeld  s (Ok_bind h)) (fun v1 h hnv1 => ?_)
  refine G_if_eq (tgt := 24) d_Hb_isTideFixed_17 (by decide) (fun c => ?_) (fun c => ?_)
  · replace h := Ok_t c h
    refine G_iconst d_Hb_isTideFixed_24 lt_iconst_0 ?_
    exact G_iret rfl rfl d_Hb_isTideFixed_25 (hR _ (Ok_some h))
  replace h := Ok_f c h
  refine G_iconst d_Hb_isTideFixed_20 lt_iconst_1 ?_
  refine G_goto (tgt := 25) d_Hb_isTideFixed_21 (by decide) ?_
  exact G_iret rfl rfl d_Hb_isTideFixed_25 (hR _ (Ok_some h))
theorem c_Hb_isTideFixed {l : Launch} {D : va_G} {cI cZ cJ : ClassId} {ad : Nat → Nat} (s : MS) {P : Int32 → Prop} (h : Ok (f_Hb_isTideFixed  s) P) : Ct (XX l D cI cZ cJ ad) y_Hb_isTideFixed b_Hb_isTideFixed 1 (some .boolean) 1 [.ref (ad 0)] s (fun r9 s9 => s9 = s ∧ P r9) :=
  Ct.of mi_Hb_isTideFixed (Nat.le_of_ble_eq_true rfl) (f_Hb_isTideFixed_w  s (fun _ h => ⟨rfl, h⟩) h)
-- Shed_isFilled
noncomputable def f_Shed_isFilled (s : MS) : Option Int32 :=
  if (s.1 15) = (81 : Int32) then (some (0 : Int32)) else (some (1 : Int32))
theorem f_Shed_isFilled_w {l : Launch} {D : va_G} {cI cZ cJ : ClassId} {ad : Nat → Nat} (s : MS) {Q : Int32 → MS → Prop} {Post : Int32 → Prop} (hR : ∀ (r9 : Int32), Post (r9) → Q r9 s) (h : Ok (f_Shed_isFilled s) Post) : G (XX l D cI cZ cJ ad) "SmallHarbour$Shed" b_Shed_isFilled 1 (some .boolean) 0 0 [(0, .ref (ad 8))] [] s Q := by
  unfold f_Shed_isFilled at h
  refine G_aload_n d_Shed_isFilled_0 rfl 0 rfl ?_
  refine gx_Shed_fewest d_Shed_isFilled_1 w_227 ?_
  refine G_bipush d_Shed_isFilled_4 lt_bipush_81 ?_
  refine G_icmp_eq (tgt := 13) d_Shed_isFilled_6 (by decide) (fun c => ?_) (fun c => ?_)
  · replace h := Ok_t c h
    refine G_iconst d_Shed_isFilled_13 lt_iconst_0 ?_
    exact G_iret rfl rfl d_Shed_isFilled_14 (hR _ (Ok_some h))
  replace h := Ok_f c h
  refine G_iconst d_Shed_isFilled_9 lt_iconst_1 ?_
  refine G_goto (tgt := 14) d_Shed_isFilled_10 (by decide) ?_
  exact G_iret rfl rfl d_Shed_isFilled_14 (hR _ (Ok_some h))
theorem c_Shed_isFilled {l : Launch} {D : va_G} {cI cZ cJ : ClassId} {ad : Nat → Nat} (s : MS) {P : Int32 → Prop} (h : Ok (f_Shed_isFilled  s) P) : Ct (XX l D cI cZ cJ ad) y_Shed_isFilled b_Shed_isFilled 1 (some .boolean) 0 [.ref (ad 8)] s (fun r9 s9 => s9 = s ∧ P r9) :=
  Ct.of mi_Shed_isFilled (Nat.le_of_ble_eq_true rfl) (f_Shed_isFilled_w  s (fun _ h => ⟨rfl, h⟩) h)
-- Hb_lane
noncomputable def f_Hb_lane (a1 : Int32) (s : MS) : Option Int32 :=
  if a1 < 0 then (some (-1 : Int32)) else (if (s.1 14) ≤ a1 then (some (-1 : Int32)) else ((f_Shed_isFilled s).bind fun v1 => if v1 = 0 then (some (-1 : Int32)) else (chk (inb a1 9) (bnd (s.2 31 a1.toNatClampNeg) fun v2 => some v2))))
theorem f_Hb_lane_w {l : Launch} {D : va_G} {cI cZ cJ : ClassId} {ad : Nat → Nat} (a1 : Int32) (s : MS) {Q : Int32 → MS → Prop} {Post : Int32 → Prop} (hR : ∀ (r9 : Int32), Post (r9) → Q r9 s) (h : Ok (f_Hb_lane a1 s) Post) : G (XX l D cI cZ cJ ad) "SmallHarbour" b_Hb_lane 2 (some .int) 1 0 [(0, .ref (ad 0)), (1, .int a1)] [] s Q := by
  unfold f_Hb_lane at h
  refine G_iload_n d_Hb_lane_0 rfl 1 rfl ?_
  refine G_if_lt (tgt := 25) d_Hb_lane_1 (by decide) (fun c => ?_) (fun c => ?_)
  · replace h := Ok_t c h
    refine G_iconst d_Hb_lane_25 lt_iconst_m1 ?_
    refine G_goto (tgt := 38) d_Hb_lane_26 (by decide) ?_
    exact G_iret rfl (vp_nar_int _) d_Hb_lane_38 (hR _ (Ok_some h))
  replace h := Ok_f c h
  refine G_iload_n d_Hb_lane_4 rfl 1 rfl ?_
  refine G_aload_n d_Hb_lane_5 rfl 0 rfl ?_
  refine gx_Hb_barn d_Hb_lane_6 w_354 ?_
  refine gx_Shed_count d_Hb_lane_9 w_226 ?_
  refine G_icmp_ge (tgt := 25) d_Hb_lane_12 (by decide) (fun c => ?_) (fun c => ?_)
  · replace h := Ok_t c h
    refine G_iconst d_Hb_lane_25 lt_iconst_m1 ?_
    refine G_goto (tgt := 38) d_Hb_lane_26 (by decide) ?_
    exact G_iret rfl (vp_nar_int _) d_Hb_lane_38 (hR _ (Ok_some h))
  replace h := Ok_f c h
  refine G_aload_n d_Hb_lane_15 rfl 0 rfl ?_
  refine gx_Hb_barn d_Hb_lane_16 w_354 ?_
  refine G_callVp (st := []) (As := []) (b := ad 8) d_Hb_lane_19 mi_Shed_isFilled w_709 8 rfl rfl mv_Shed_isFilled rfl (Nat.le_of_ble_eq_true rfl) (by decide) (c_Shed_isFilled  s (Ok_bind h)) (fun v1 h hnv1 => ?_)
  refine G_if_ne (tgt := 29) d_Hb_lane_22 (by decide) (fun c => ?_) (fun c => ?_)
  · replace h := Ok_f c h
    refine G_aload_n d_Hb_lane_29 rfl 0 rfl ?_
    refine gx_Hb_barn d_Hb_lane_30 w_354 ?_
    refine gx_Shed_best d_Hb_lane_33 w_230 ?_
    refine G_iload_n d_Hb_lane_36 rfl 1 rfl ?_
    refine lx_31 d_Hb_lane_37 (Ok_ld h).1 (fun v2 e => ?_)
    replace h := (Ok_ld h).2 v2 e
    clear e
    exact G_iret rfl (vp_nar_int _) d_Hb_lane_38 (hR _ (Ok_some h))
  replace h := Ok_t c h
  refine G_iconst d_Hb_lane_25 lt_iconst_m1 ?_
  refine G_goto (tgt := 38) d_Hb_lane_26 (by decide) ?_
  exact G_iret rfl (vp_nar_int _) d_Hb_lane_38 (hR _ (Ok_some h))
theorem c_Hb_lane {l : Launch} {D : va_G} {cI cZ cJ : ClassId} {ad : Nat → Nat} (a1 : Int32) (s : MS) {P : Int32 → Prop} (h : Ok (f_Hb_lane a1 s) P) : Ct (XX l D cI cZ cJ ad) y_Hb_lane b_Hb_lane 2 (some .int) 1 [.ref (ad 0), .int a1] s (fun r9 s9 => s9 = s ∧ P r9) :=
  Ct.of mi_Hb_lane (Nat.le_of_ble_eq_true rfl) (f_Hb_lane_w a1 s (fun _ h => ⟨rfl, h⟩) h)
-- Stays_has
noncomputable def f_Stays_has (a1 : Int32) (s : MS) : Option Int32 :=
  if a1 < 0 then (some (0 : Int32)) else (if (s.1 5) ≤ a1 then (some (0 : Int32)) else (some (1 : Int32)))
theorem f_Stays_has_w {l : Launch} {D : va_G} {cI cZ cJ : ClassId} {ad : Nat → Nat} (a1 : Int32) (s : MS) {Q : Int32 → MS → Prop} {Post : Int32 → Prop} (hR : ∀ (r9 : Int32), Post (r9) → Q r9 s) (h : Ok (f_Stays_has a1 s) Post) : G (XX l D cI cZ cJ ad) "SmallHarbour$Stays" b_Stays_has 2 (some .boolean) 0 0 [(0, .ref (ad 5)), (1, .int a1)] [] s Q := by
  unfold f_Stays_has at h
  refine G_iload_n d_Stays_has_0 rfl 1 rfl ?_
  refine G_if_lt (tgt := 16) d_Stays_has_1 (by decide) (fun c => ?_) (fun c => ?_)
  · replace h := Ok_t c h
    refine G_iconst d_Stays_has_16 lt_iconst_0 ?_
    exact G_iret rfl rfl d_Stays_has_17 (hR _ (Ok_some h))
  replace h := Ok_f c h
  refine G_iload_n d_Stays_has_4 rfl 1 rfl ?_
  refine G_aload_n d_Stays_has_5 rfl 0 rfl ?_
  refine gx_Stays_count d_Stays_has_6 w_123 ?_
  refine G_icmp_ge (tgt := 16) d_Stays_has_9 (by decide) (fun c => ?_) (fun c => ?_)
  · replace h := Ok_t c h
    refine G_iconst d_Stays_has_16 lt_iconst_0 ?_
    exact G_iret rfl rfl d_Stays_has_17 (hR _ (Ok_some h))
  replace h := Ok_f c h
  refine G_iconst d_Stays_has_12 lt_iconst_1 ?_
  refine G_goto (tgt := 17) d_Stays_has_13 (by decide) ?_
  exact G_iret rfl rfl d_Stays_has_17 (hR _ (Ok_some h))
theorem c_Stays_has {l : Launch} {D : va_G} {cI cZ cJ : ClassId} {ad : Nat → Nat} (a1 : Int32) (s : MS) {P : Int32 → Prop} (h : Ok (f_Stays_has a1 s) P) : Ct (XX l D cI cZ cJ ad) y_Stays_has b_Stays_has 2 (some .boolean) 0 [.ref (ad 5), .int a1] s (fun r9 s9 => s9 = s ∧ P r9) :=
  Ct.of mi_Stays_has (Nat.le_of_ble_eq_true rfl) (f_Stays_has_w a1 s (fun _ h => ⟨rfl, h⟩) h)
-- Hb_leaves
noncomputable def f_Hb_leaves (a1 a2 : Int32) (s : MS) : Option (Int32 × MS) :=
  (f_Stays_has a1 s).bind fun v1 => if v1 = 0 then (some ((0 : Int32), s)) else (chk (inb a1 40) (bnd (s.2 16 a1.toNatClampNeg) fun v2 => if a2 ≤ v2 then (some ((0 : Int32), s)) else (chk (inb a1 40) (bnd (s.2 17 a1.toNatClampNeg) fun v3 => if a2 < v3 then (chk (inb a1 40) (bnd (pa s 17 a1.toNatClampNeg a2) fun s4 => some ((1 : Int32), s4))) else (some ((0 : Int32), s))))))
theorem f_Hb_leaves_w {l : Launch} {D : va_G} {cI cZ cJ : ClassId} {ad : Nat → Nat} (a1 a2 : Int32) (s : MS) {Q : Int32 → MS → Prop} {Post : (Int32 × MS) → Prop} (hR : ∀ (r9 : Int32) (s9 : MS), Post ((r9, s9)) → Q r9 s9) (h : Ok (f_Hb_leaves a1 a2 s) Post) : G (XX l D cI cZ cJ ad) "SmallHarbour" b_Hb_leaves 3 (some .boolean) 1 0 [(0, .ref (ad 0)), (1, .int a1), (2, .int a2)] [] s Q := by
  unfold f_Hb_leaves at h
  refine G_aload_n d_Hb_leaves_0 rfl 0 rfl ?_
  refine gx_Hb_stays d_Hb_leaves_1 w_351 ?_
  refine G_iload_n d_Hb_leaves_4 rfl 1 rfl ?_
  refine G_callVp (st := []) (As := [.int a1]) (b := ad 5) d_Hb_leaves_5 mi_Stays_has w_535 5 rfl rfl mv_Stays_has rfl (Nat.le_of_ble_eq_true rfl) (by decide) (c_Stays_has a1 s (Ok_bind h)) (fun v1 h hnv1 => ?_)
  refine G_if_eq (tgt := 37) d_Hb_leaves_8 (by decide) (fun c => ?_) (fun c => ?_)
  · replace h := Ok_t c h
    refine G_iconst d_Hb_leaves_37 lt_iconst_0 ?_
    exact G_iret rfl rfl d_Hb_leaves_38 (hR _ _ (Ok_some h))
  replace h := Ok_f c h
  refine G_iload_n d_Hb_leaves_11 rfl 2 rfl ?_
  refine G_aload_n d_Hb_leaves_12 rfl 0 rfl ?_
  refine gx_Hb_stays d_Hb_leaves_13 w_351 ?_
  refine gx_Stays_from d_Hb_leaves_16 w_120 ?_
  refine G_iload_n d_Hb_leaves_19 rfl 1 rfl ?_
  refine lx_16 d_Hb_leaves_20 (Ok_ld h).1 (fun v2 e => ?_)
  replace h := (Ok_ld h).2 v2 e
  clear e
  refine G_icmp_le (tgt := 37) d_Hb_leaves_21 (by decide) (fun c => ?_) (fun c => ?_)
  · replace h := Ok_t c h
    refine G_iconst d_Hb_leaves_37 lt_iconst_0 ?_
    exact G_iret rfl rfl d_Hb_leaves_38 (hR _ _ (Ok_some h))
  replace h := Ok_f c h
  refine G_iload_n d_Hb_leaves_24 rfl 2 rfl ?_
  refine G_aload_n d_Hb_leaves_25 rfl 0 rfl ?_
  refine gx_Hb_stays d_Hb_leaves_26 w_351 ?_
  refine gx_Stays_to d_Hb_leaves_29 w_122 ?_
  refine G_iload_n d_Hb_leaves_32 rfl 1 rfl ?_
  refine lx_17 d_Hb_leaves_33 (Ok_ld h).1 (fun v3 e => ?_)
  replace h := (Ok_ld h).2 v3 e
  clear e
  refine G_icmp_lt (tgt := 39) d_Hb_leaves_34 (by decide) (fun c => ?_) (fun c => ?_)
  · replace h := Ok_t c h
    refine G_aload_n d_Hb_leaves_39 rfl 0 rfl ?_
    refine gx_Hb_stays d_Hb_leaves_40 w_351 ?_
    refine gx_Stays_to d_Hb_leaves_43 w_122 ?_
    refine G_iload_n d_Hb_leaves_46 rfl 1 rfl ?_
    refine G_iload_n d_Hb_leaves_47 rfl 2 rfl ?_
    refine sx_17 d_Hb_leaves_48 (Ok_ld h).1 (fun s4 e => ?_)
    replace h := (Ok_ld h).2 s4 e
    clear e
    refine G_iconst d_Hb_leaves_49 lt_iconst_1 ?_
    exact G_iret rfl rfl d_Hb_leaves_50 (hR _ _ (Ok_some h))
  replace h := Ok_f c h
  refine G_iconst d_Hb_leaves_37 lt_iconst_0 ?_
  exact G_iret rfl rfl d_Hb_leaves_38 (hR _ _ (Ok_some h))
theorem c_Hb_leaves {l : Launch} {D : va_G} {cI cZ cJ : ClassId} {ad : Nat → Nat} (a1 a2 : Int32) (s : MS) {P : Int32 → MS → Prop} (h : Ok2 (f_Hb_leaves a1 a2 s) P) : Ct (XX l D cI cZ cJ ad) y_Hb_leaves b_Hb_leaves 3 (some .boolean) 1 [.ref (ad 0), .int a1, .int a2] s (P) :=
  Ct.of mi_Hb_leaves (Nat.le_of_ble_eq_true rfl) (f_Hb_leaves_w a1 a2 s (Post := fun q => P q.1 q.2) (fun _ _ h => h) (Ok2_ok h))
-- Tide_put
noncomputable def f_Tide_put (a1 a2 : Int32) (s : MS) : Option (Int32 × MS) :=
  if a1 < 0 then (some ((0 : Int32), s)) else (if (s.1 1) ≤ a1 then (some ((0 : Int32), s)) else (if a2 < 0 then (some ((0 : Int32), s)) else (if a2 ≤ (40 : Int32) then (chk (inb a1 30) (bnd (pa s 3 a1.toNatClampNeg a2) fun s1 => some ((1 : Int32), s1))) else (some ((0 : Int32), s)))))
theorem f_Tide_put_w {l : Launch} {D : va_G} {cI cZ cJ : ClassId} {ad : Nat → Nat} (a1 a2 : Int32) (s : MS) {Q : Int32 → MS → Prop} {Post : (Int32 × MS) → Prop} (hR : ∀ (r9 : Int32) (s9 : MS), Post ((r9, s9)) → Q r9 s9) (h : Ok (f_Tide_put a1 a2 s) Post) : G (XX l D cI cZ cJ ad) "SmallHarbour$Tide" b_Tide_put 3 (some .boolean) 0 0 [(0, .ref (ad 1)), (1, .int a1), (2, .int a2)] [] s Q := by
  unfold f_Tide_put at h
  refine G_iload_n d_Tide_put_0 rfl 1 rfl ?_
  refine G_if_lt (tgt := 22) d_Tide_put_1 (by decide) (fun c => ?_) (fun c => ?_)
  · replace h := Ok_t c h
    refine G_iconst d_Tide_put_22 lt_iconst_0 ?_
    exact G_iret rfl rfl d_Tide_put_23 (hR _ _ (Ok_some h))
  replace h := Ok_f c h
  refine G_iload_n d_Tide_put_4 rfl 1 rfl ?_
  refine G_aload_n d_Tide_put_5 rfl 0 rfl ?_
  refine gx_Tide_count d_Tide_put_6 w_32 ?_
  refine G_icmp_ge (tgt := 22) d_Tide_put_9 (by decide) (fun c => ?_) (fun c => ?_)
  · replace h := Ok_t c h
    refine G_iconst d_Tide_put_22 lt_iconst_0 ?_
    exact G_iret rfl rfl d_Tide_put_23 (hR _ _ (Ok_some h))
  replace h := Ok_f c h
  refine G_iload_n d_Tide_put_12 rfl 2 rfl ?_
  refine G_if_lt (tgt := 22) d_Tide_put_13 (by decide) (fun c => ?_) (fun c => ?_)
  · replace h := Ok_t c h
    refine G_iconst d_Tide_put_22 lt_iconst_0 ?_
    exact G_iret rfl rfl d_Tide_put_23 (hR _ _ (Ok_some h))
  replace h := Ok_f c h
  refine G_iload_n d_Tide_put_16 rfl 2 rfl ?_
  refine G_bipush d_Tide_put_17 lt_bipush_40 ?_
  refine G_icmp_le (tgt := 24) d_Tide_put_19 (by decide) (fun c => ?_) (fun c => ?_)
  · replace h := Ok_t c h
    refine G_aload_n d_Tide_put_24 rfl 0 rfl ?_
    refine gx_Tide_row d_Tide_put_25 w_31 ?_
    refine G_iload_n d_Tide_put_28 rfl 1 rfl ?_
    refine G_iload_n d_Tide_put_29 rfl 2 rfl ?_
    refine sx_3 d_Tide_put_30 (Ok_ld h).1 (fun s1 e => ?_)
    replace h := (Ok_ld h).2 s1 e
    clear e
    refine G_iconst d_Tide_put_31 lt_iconst_1 ?_
    exact G_iret rfl rfl d_Tide_put_32 (hR _ _ (Ok_some h))
  replace h := Ok_f c h
  refine G_iconst d_Tide_put_22 lt_iconst_0 ?_
  exact G_iret rfl rfl d_Tide_put_23 (hR _ _ (Ok_some h))
theorem c_Tide_put {l : Launch} {D : va_G} {cI cZ cJ : ClassId} {ad : Nat → Nat} (a1 a2 : Int32) (s : MS) {P : Int32 → MS → Prop} (h : Ok2 (f_Tide_put a1 a2 s) P) : Ct (XX l D cI cZ cJ ad) y_Tide_put b_Tide_put 3 (some .boolean) 0 [.ref (ad 1), .int a1, .int a2] s (P) :=
  Ct.of mi_Tide_put (Nat.le_of_ble_eq_true rfl) (f_Tide_put_w a1 a2 s (Post := fun q => P q.1 q.2) (fun _ _ h => h) (Ok2_ok h))
-- Hb_level
noncomputable def f_Hb_level (a1 a2 : Int32) (s : MS) : Option (Int32 × MS) :=
  (f_Hb_isTideFixed s).bind fun v1 => if v1 = 0 then (bd2 (f_Tide_put a1 a2 s) fun v2 s3 => if v2 = 0 then (some ((0 : Int32), s3)) else (some ((1 : Int32), s3))) else (some ((0 : Int32), s))
theorem f_Hb_level_w {l : Launch} {D : va_G} {cI cZ cJ : ClassId} {ad : Nat → Nat} (a1 a2 : Int32) (s : MS) {Q : Int32 → MS → Prop} {Post : (Int32 × MS) → Prop} (hR : ∀ (r9 : Int32) (s9 : MS), Post ((r9, s9)) → Q r9 s9) (h : Ok (f_Hb_level a1 a2 s) Post) : G (XX l D cI cZ cJ ad) "SmallHarbour" b_Hb_level 3 (some .boolean) 2 0 [(0, .ref (ad 0)), (1, .int a1), (2, .int a2)] [] s Q := by
  unfold f_Hb_level at h
  refine G_aload_n d_Hb_level_0 rfl 0 rfl ?_
  refine G_callVp (st := []) (As := []) (b := ad 0) d_Hb_level_1 mi_Hb_isTideFixed w_391 0 rfl rfl mv_Hb_isTideFixed rfl (Nat.le_of_ble_eq_true rfl) (by decide) (c_Hb_isTideFixed  s (Ok_bind h)) (fun v1 h hnv1 => ?_)
  refine G_if_ne (tgt := 23) d_Hb_level_4 (by decide) (fun c => ?_) (fun c => ?_)
  · replace h := Ok_f c h
    refine G_iconst d_Hb_level_23 lt_iconst_0 ?_
    exact G_iret rfl rfl d_Hb_level_24 (hR _ _ (Ok_some h))
  replace h := Ok_t c h
  refine G_aload_n d_Hb_level_7 rfl 0 rfl ?_
  refine gx_Hb_tide d_Hb_level_8 w_347 ?_
  refine G_iload_n d_Hb_level_11 rfl 1 rfl ?_
  refine G_iload_n d_Hb_level_12 rfl 2 rfl ?_
  refine G_callVi (st := []) (As := [.int a1, .int a2]) (b := ad 1) d_Hb_level_13 mi_Tide_put w_410 1 rfl rfl mv_Tide_put rfl (Nat.le_of_ble_eq_true rfl) (by decide) (c_Tide_put a1 a2 s (Ok_bd2 h)) (fun v2 s3 h hnv2 => ?_)
  refine G_if_eq (tgt := 23) d_Hb_level_16 (by decide) (fun c => ?_) (fun c => ?_)
  · replace h := Ok_t c h
    refine G_iconst d_Hb_level_23 lt_iconst_0 ?_
    exact G_iret rfl rfl d_Hb_level_24 (hR _ _ (Ok_some h))
  replace h := Ok_f c h
  refine G_iconst d_Hb_level_19 lt_iconst_1 ?_
  refine G_goto (tgt := 24) d_Hb_level_20 (by decide) ?_
  exact G_iret rfl rfl d_Hb_level_24 (hR _ _ (Ok_some h))
theorem c_Hb_level {l : Launch} {D : va_G} {cI cZ cJ : ClassId} {ad : Nat → Nat} (a1 a2 : Int32) (s : MS) {P : Int32 → MS → Prop} (h : Ok2 (f_Hb_level a1 a2 s) P) : Ct (XX l D cI cZ cJ ad) y_Hb_level b_Hb_level 3 (some .boolean) 2 [.ref (ad 0), .int a1, .int a2] s (P) :=
  Ct.of mi_Hb_level (Nat.le_of_ble_eq_true rfl) (f_Hb_level_w a1 a2 s (Post := fun q => P q.1 q.2) (fun _ _ h => h) (Ok2_ok h))
-- Tide_restart
noncomputable def f_Tide_restart (a1 : Int32) (s : MS) : Option (Int32 × MS) :=
  if a1 < (1 : Int32) then (some ((0 : Int32), s)) else (if a1 ≤ (30 : Int32) then ((f_Ar_fill16 (0 : Int32) s).bind fun s1 => bnd (pf s1 1 a1) fun s2 => some ((1 : Int32), s2)) else (some ((0 : Int32), s)))
theorem f_Tide_restart_w {l : Launch} {D : va_G} {cI cZ cJ : ClassId} {ad : Nat → Nat} (a1 : Int32) (s : MS) {Q : Int32 → MS → Prop} {Post : (Int32 × MS) → Prop} (hR : ∀ (r9 : Int32) (s9 : MS), Post ((r9, s9)) → Q r9 s9) (h : Ok (f_Tide_restart a1 s) Post) : G (XX l D cI cZ cJ ad) "SmallHarbour$Tide" b_Tide_restart 2 (some .boolean) 1 0 [(0, .ref (ad 1)), (1, .int a1)] [] s Q := by
  unfold f_Tide_restart at h
  refine G_iload_n d_Tide_restart_0 rfl 1 rfl ?_
  refine G_iconst d_Tide_restart_1 lt_iconst_1 ?_
  refine G_icmp_lt (tgt := 11) d_Tide_restart_2 (by decide) (fun c => ?_) (fun c => ?_)
  · replace h := Ok_t c h
    refine G_iconst d_Tide_restart_11 lt_iconst_0 ?_
    exact G_iret rfl rfl d_Tide_restart_12 (hR _ _ (Ok_some h))
  replace h := Ok_f c h
  refine G_iload_n d_Tide_restart_5 rfl 1 rfl ?_
  refine G_bipush d_Tide_restart_6 lt_bipush_30 ?_
  refine G_icmp_le (tgt := 13) d_Tide_restart_8 (by decide) (fun c => ?_) (fun c => ?_)
  · replace h := Ok_t c h
    refine G_aload_n d_Tide_restart_13 rfl 0 rfl ?_
    refine gx_Tide_row d_Tide_restart_14 w_31 ?_
    refine G_iconst d_Tide_restart_17 lt_iconst_0 ?_
    refine G_callSv (st := []) (As := [.ref (ad 16), .int (0 : Int32)]) d_Tide_restart_18 mi_Ar_fill w_403 w_404 rfl (Nat.le_of_ble_eq_true rfl) (by decide) (c_Ar_fill16 (0 : Int32) s (Ok_bind h)) (fun s1 h => ?_)
    refine G_aload_n d_Tide_restart_21 rfl 0 rfl ?_
    refine G_iload_n d_Tide_restart_22 rfl 1 rfl ?_
    refine px_Tide_count d_Tide_restart_23 w_32 (fun s2 e => ?_)
    replace h := Ok_bnd h s2 e
    clear e
    refine G_iconst d_Tide_restart_26 lt_iconst_1 ?_
    exact G_iret rfl rfl d_Tide_restart_27 (hR _ _ (Ok_some h))
  replace h := Ok_f c h
  refine G_iconst d_Tide_restart_11 lt_iconst_0 ?_
  exact G_iret rfl rfl d_Tide_restart_12 (hR _ _ (Ok_some h))
theorem c_Tide_restart {l : Launch} {D : va_G} {cI cZ cJ : ClassId} {ad : Nat → Nat} (a1 : Int32) (s : MS) {P : Int32 → MS → Prop} (h : Ok2 (f_Tide_restart a1 s) P) : Ct (XX l D cI cZ cJ ad) y_Tide_restart b_Tide_restart 2 (some .boolean) 1 [.ref (ad 1), .int a1] s (P) :=
  Ct.of mi_Tide_restart (Nat.le_of_ble_eq_true rfl) (f_Tide_restart_w a1 s (Post := fun q => P q.1 q.2) (fun _ _ h => h) (Ok2_ok h))
-- Hb_levels
noncomputable def f_Hb_levels (a1 : Int32) (s : MS) : Option (Int32 × MS) :=
  (f_Hb_isTideFixed s).bind fun v1 => if v1 = 0 then (bd2 (f_Tide_restart a1 s) fun v2 s3 => if v2 = 0 then (some ((0 : Int32), s3)) else (some ((1 : Int32), s3))) else (some ((0 : Int32), s))
theorem f_Hb_levels_w {l : Launch} {D : va_G} {cI cZ cJ : ClassId} {ad : Nat → Nat} (a1 : Int32) (s : MS) {Q : Int32 → MS → Prop} {Post : (Int32 × MS) → Prop} (hR : ∀ (r9 : Int32) (s9 : MS), Post ((r9, s9)) → Q r9 s9) (h : Ok (f_Hb_levels a1 s) Post) : G (XX l D cI cZ cJ ad) "SmallHarbour" b_Hb_levels 2 (some .boolean) 2 0 [(0, .ref (ad 0)), (1, .int a1)] [] s Q := by
  unfold f_Hb_levels at h
  refine G_aload_n d_Hb_levels_0 rfl 0 rfl ?_
  refine G_callVp (st := []) (As := []) (b := ad 0) d_Hb_levels_1 mi_Hb_isTideFixed w_391 0 rfl rfl mv_Hb_isTideFixed rfl (Nat.le_of_ble_eq_true rfl) (by decide) (c_Hb_isTideFixed  s (Ok_bind h)) (fun v1 h hnv1 => ?_)
  refine G_if_ne (tgt := 22) d_Hb_levels_4 (by decide) (fun c => ?_) (fun c => ?_)
  · replace h := Ok_f c h
    refine G_iconst d_Hb_levels_22 lt_iconst_0 ?_
    exact G_iret rfl rfl d_Hb_levels_23 (hR _ _ (Ok_some h))
  replace h := Ok_t c h
  refine G_aload_n d_Hb_levels_7 rfl 0 rfl ?_
  refine gx_Hb_tide d_Hb_levels_8 w_347 ?_
  refine G_iload_n d_Hb_levels_11 rfl 1 rfl ?_
  refine G_callVi (st := []) (As := [.int a1]) (b := ad 1) d_Hb_levels_12 mi_Tide_restart w_399 1 rfl rfl mv_Tide_restart rfl (Nat.le_of_ble_eq_true rfl) (by decide) (c_Tide_restart a1 s (Ok_bd2 h)) (fun v2 s3 h hnv2 => ?_)
  refine G_if_eq (tgt := 22) d_Hb_levels_15 (by decide) (fun c => ?_) (fun c => ?_)
  · replace h := Ok_t c h
    refine G_iconst d_Hb_levels_22 lt_iconst_0 ?_
    exact G_iret rfl rfl d_Hb_levels_23 (hR _ _ (Ok_some h))
  replace h := Ok_f c h
  refine G_iconst d_Hb_levels_18 lt_iconst_1 ?_
  refine G_goto (tgt := 23) d_Hb_levels_19 (by decide) ?_
  exact G_iret rfl rfl d_Hb_levels_23 (hR _ _ (Ok_some h))
theorem c_Hb_levels {l : Launch} {D : va_G} {cI cZ cJ : ClassId} {ad : Nat → Nat} (a1 : Int32) (s : MS) {P : Int32 → MS → Prop} (h : Ok2 (f_Hb_levels a1 s) P) : Ct (XX l D cI cZ cJ ad) y_Hb_levels b_Hb_levels 2 (some .boolean) 2 [.ref (ad 0), .int a1] s (P) :=
  Ct.of mi_Hb_levels (Nat.le_of_ble_eq_true rfl) (f_Hb_levels_w a1 s (Post := fun q => P q.1 q.2) (fun _ _ h => h) (Ok2_ok h))
-- Hb_lies
noncomputable def f_Hb_lies (a1 a2 : Int32) (s : MS) : Option Int32 :=
  (f_Berths_has a1 s).bind fun v1 => if v1 = 0 then (some (-1 : Int32)) else ((f_Hb_isDay a2).bind fun v2 => if v2 = 0 then (some (-1 : Int32)) else ((f_Hb_isOwnerThere a1 a2 (a2 + (1 : Int32)) s).bind fun v3 => if v3 = 0 then ((f_Stays_atBerth a1 a2 (a2 + (1 : Int32)) s).bind fun v4 => if v4 = (-1 : Int32) then (some (-1 : Int32)) else (chk (inb v4 40) (bnd (s.2 14 v4.toNatClampNeg) fun v5 => some v5))) else (chk (inb a1 10) (bnd (s.2 6 a1.toNatClampNeg) fun v6 => some v6))))
theorem f_Hb_lies_w {l : Launch} {D : va_G} {cI cZ cJ : ClassId} {ad : Nat → Nat} (a1 a2 : Int32) (s : MS) {Q : Int32 → MS → Prop} {Post : Int32 → Prop} (hR : ∀ (r9 : Int32), Post (r9) → Q r9 s) (h : Ok (f_Hb_lies a1 a2 s) Post) : G (XX l D cI cZ cJ ad) "SmallHarbour" b_Hb_lies 4 (some .int) 3 0 [(0, .ref (ad 0)), (1, .int a1), (2, .int a2)] [] s Q := by
  unfold f_Hb_lies at h
  refine G_aload_n d_Hb_lies_0 rfl 0 rfl ?_
  refine gx_Hb_berths d_Hb_lies_1 w_348 ?_
  refine G_iload_n d_Hb_lies_4 rfl 1 rfl ?_
  refine G_callVp (st := []) (As := [.int a1]) (b := ad 2) d_Hb_lies_5 mi_Berths_has w_438 2 rfl rfl mv_Berths_has rfl (Nat.le_of_ble_eq_true rfl) (by decide) (c_Berths_has a1 s (Ok_bind h)) (fun v1 h hnv1 => ?_)
  refine G_if_eq (tgt := 18) d_Hb_lies_8 (by decide) (fun c => ?_) (fun c => ?_)
  · replace h := Ok_t c h
    refine G_iconst d_Hb_lies_18 lt_iconst_m1 ?_
    exact G_iret rfl (vp_nar_int _) d_Hb_lies_19 (hR _ (Ok_some h))
  replace h := Ok_f c h
  refine G_iload_n d_Hb_lies_11 rfl 2 rfl ?_
  refine G_callSp (st := []) (As := [.int a2]) d_Hb_lies_12 mi_Hb_isDay w_473 w_474 rfl (Nat.le_of_ble_eq_true rfl) (by decide) (c_Hb_isDay a2 s (Ok_bind h)) (fun v2 h hnv2 => ?_)
  refine G_if_ne (tgt := 20) d_Hb_lies_15 (by decide) (fun c => ?_) (fun c => ?_)
  · replace h := Ok_f c h
    refine G_aload_n d_Hb_lies_20 rfl 0 rfl ?_
    refine G_iload_n d_Hb_lies_21 rfl 1 rfl ?_
    refine G_iload_n d_Hb_lies_22 rfl 2 rfl ?_
    refine G_iload_n d_Hb_lies_23 rfl 2 rfl ?_
    refine G_iconst d_Hb_lies_24 lt_iconst_1 ?_
    refine G_iadd d_Hb_lies_25 ?_
    refine G_callVp (st := []) (As := [.int a1, .int a2, .int (a2 + (1 : Int32))]) (b := ad 0) d_Hb_lies_26 mi_Hb_isOwnerThere w_496 0 rfl rfl mv_Hb_isOwnerThere rfl (Nat.le_of_ble_eq_true rfl) (by decide) (c_Hb_isOwnerThere a1 a2 (a2 + (1 : Int32)) s (Ok_bind h)) (fun v3 h hnv3 => ?_)
    refine G_if_eq (tgt := 42) d_Hb_lies_29 (by decide) (fun c => ?_) (fun c => ?_)
    · replace h := Ok_t c h
      refine G_aload_n d_Hb_lies_42 rfl 0 rfl ?_
      refine gx_Hb_stays d_Hb_lies_43 w_351 ?_
      refine G_iload_n d_Hb_lies_46 rfl 1 rfl ?_
      refine G_iload_n d_Hb_lies_47 rfl 2 rfl ?_
      refine G_iload_n d_Hb_lies_48 rfl 2 rfl ?_
      refine G_iconst d_Hb_lies_49 lt_iconst_1 ?_
      refine G_iadd d_Hb_lies_50 ?_
      refine G_callVp (st := []) (As := [.int a1, .int a2, .int (a2 + (1 : Int32))]) (b := ad 5) d_Hb_lies_51 mi_Stays_atBerth w_442 5 rfl rfl mv_Stays_atBerth rfl (Nat.le_of_ble_eq_true rfl) (by decide) (c_Stays_atBerth a1 a2 (a2 + (1 : Int32)) s (Ok_bind h)) (fun v4 h hnv4 => ?_)
      refine G_istore_n d_Hb_lies_54 rfl (Nat.le_of_ble_eq_true rfl) (fun x => [(3, .int x), (0, .ref (ad 0)), (1, .int a1), (2, .int a2)]) (fun _ => rfl) (fun x e => ?_)
      subst e
      refine G_iload_n d_Hb_lies_55 rfl 0 rfl ?_
      refine G_iconst d_Hb_lies_56 lt_iconst_m1 ?_
      refine G_icmp_ne (tgt := 64) d_Hb_lies_57 (by decide) (fun c => ?_) (fun c => ?_)
      · replace h := Ok_f c h
        refine G_aload_n d_Hb_lies_64 rfl 1 rfl ?_
        refine gx_Hb_stays d_Hb_lies_65 w_351 ?_
        refine gx_Stays_boat d_Hb_lies_68 w_116 ?_
        refine G_iload_n d_Hb_lies_71 rfl 0 rfl ?_
        refine lx_14 d_Hb_lies_72 (Ok_ld h).1 (fun v5 e => ?_)
        replace h := (Ok_ld h).2 v5 e
        clear e
        exact G_iret rfl (vp_nar_int _) d_Hb_lies_73 (hR _ (Ok_some h))
      replace h := Ok_t c h
      refine G_iconst d_Hb_lies_60 lt_iconst_m1 ?_
      refine G_goto (tgt := 73) d_Hb_lies_61 (by decide) ?_
      exact G_iret rfl (vp_nar_int _) d_Hb_lies_73 (hR _ (Ok_some h))
    replace h := Ok_f c h
    refine G_aload_n d_Hb_lies_32 rfl 0 rfl ?_
    refine gx_Hb_berths d_Hb_lies_33 w_348 ?_
    refine gx_Berths_holder d_Hb_lies_36 w_48 ?_
    refine G_iload_n d_Hb_lies_39 rfl 1 rfl ?_
    refine lx_6 d_Hb_lies_40 (Ok_ld h).1 (fun v6 e => ?_)
    replace h := (Ok_ld h).2 v6 e
    clear e
    exact G_iret rfl (vp_nar_int _) d_Hb_lies_41 (hR _ (Ok_some h))
  replace h := Ok_t c h
  refine G_iconst d_Hb_lies_18 lt_iconst_m1 ?_
  exact G_iret rfl (vp_nar_int _) d_Hb_lies_19 (hR _ (Ok_some h))
theorem c_Hb_lies {l : Launch} {D : va_G} {cI cZ cJ : ClassId} {ad : Nat → Nat} (a1 a2 : Int32) (s : MS) {P : Int32 → Prop} (h : Ok (f_Hb_lies a1 a2 s) P) : Ct (XX l D cI cZ cJ ad) y_Hb_lies b_Hb_lies 4 (some .int) 3 [.ref (ad 0), .int a1, .int a2] s (fun r9 s9 => s9 = s ∧ P r9) :=
  Ct.of mi_Hb_lies (Nat.le_of_ble_eq_true rfl) (f_Hb_lies_w a1 a2 s (fun _ h => ⟨rfl, h⟩) h)
-- Hoist_add
noncomputable def f_Hoist_add (a1 a2 a3 : Int32) (s : MS) : Option (Int32 × MS) :=
  if (s.1 10) < (40 : Int32) then (chk (inb (s.1 10) 40) (bnd (pa s 28 (s.1 10).toNatClampNeg a1) fun s1 => chk (inb (s1.1 10) 40) (bnd (pa s1 29 (s1.1 10).toNatClampNeg a2) fun s2 => chk (inb (s2.1 10) 40) (bnd (pa s2 30 (s2.1 10).toNatClampNeg a3) fun s3 => bnd (pf s3 10 ((s3.1 10) + (1 : Int32))) fun s4 => some ((s3.1 10), s4))))) else (some ((-1 : Int32), s))
theorem f_Hoist_add_w {l : Launch} {D : va_G} {cI cZ cJ : ClassId} {ad : Nat → Nat} (a1 a2 a3 : Int32) (s : MS) {Q : Int32 → MS → Prop} {Post : (Int32 × MS) → Prop} (hR : ∀ (r9 : Int32) (s9 : MS), Post ((r9, s9)) → Q r9 s9) (h : Ok (f_Hoist_add a1 a2 a3 s) Post) : G (XX l D cI cZ cJ ad) "SmallHarbour$Hoist" b_Hoist_add 4 (some .int) 0 0 [(0, .ref (ad 7)), (1, .int a1), (2, .int a2), (3, .int a3)] [] s Q := by
  unfold f_Hoist_add at h
  refine G_aload_n d_Hoist_add_0 rfl 0 rfl ?_
  refine gx_Hoist_count d_Hoist_add_1 w_193 ?_
  refine G_bipush d_Hoist_add_4 lt_bipush_40 ?_
  refine G_icmp_lt (tgt := 11) d_Hoist_add_6 (by decide) (fun c => ?_) (fun c => ?_)
  · replace h := Ok_t c h
    refine G_aload_n d_Hoist_add_11 rfl 0 rfl ?_
    refine gx_Hoist_weight d_Hoist_add_12 w_198 ?_
    refine G_aload_n d_Hoist_add_15 rfl 0 rfl ?_
    refine gx_Hoist_count d_Hoist_add_16 w_193 ?_
    refine G_iload_n d_Hoist_add_19 rfl 1 rfl ?_
    refine sx_28 d_Hoist_add_20 (Ok_ld h).1 (fun s1 e => ?_)
    replace h := (Ok_ld h).2 s1 e
    clear e
    refine G_aload_n d_Hoist_add_21 rfl 0 rfl ?_
    refine gx_Hoist_earliest d_Hoist_add_22 w_199 ?_
    refine G_aload_n d_Hoist_add_25 rfl 0 rfl ?_
    refine gx_Hoist_count d_Hoist_add_26 w_193 ?_
    refine G_iload_n d_Hoist_add_29 rfl 2 rfl ?_
    refine sx_29 d_Hoist_add_30 (Ok_ld h).1 (fun s2 e => ?_)
    replace h := (Ok_ld h).2 s2 e
    clear e
    refine G_aload_n d_Hoist_add_31 rfl 0 rfl ?_
    refine gx_Hoist_minutes d_Hoist_add_32 w_200 ?_
    refine G_aload_n d_Hoist_add_35 rfl 0 rfl ?_
    refine gx_Hoist_count d_Hoist_add_36 w_193 ?_
    refine G_iload_n d_Hoist_add_39 rfl 3 rfl ?_
    refine sx_30 d_Hoist_add_40 (Ok_ld h).1 (fun s3 e => ?_)
    replace h := (Ok_ld h).2 s3 e
    clear e
    refine G_aload_n d_Hoist_add_41 rfl 0 rfl ?_
    refine G_dup d_Hoist_add_42 rfl ?_
    refine gx_Hoist_count d_Hoist_add_43 w_193 ?_
    refine G_dup_x1 d_Hoist_add_46 rfl rfl ?_
    refine G_iconst d_Hoist_add_47 lt_iconst_1 ?_
    refine G_iadd d_Hoist_add_48 ?_
    refine px_Hoist_count d_Hoist_add_49 w_193 (fun s4 e => ?_)
    replace h := Ok_bnd h s4 e
    clear e
    exact G_iret rfl (vp_nar_int _) d_Hoist_add_52 (hR _ _ (Ok_some h))
  replace h := Ok_f c h
  refine G_iconst d_Hoist_add_9 lt_iconst_m1 ?_
  exact G_iret rfl (vp_nar_int _) d_Hoist_add_10 (hR _ _ (Ok_some h))
theorem c_Hoist_add {l : Launch} {D : va_G} {cI cZ cJ : ClassId} {ad : Nat → Nat} (a1 a2 a3 : Int32) (s : MS) {P : Int32 → MS → Prop} (h : Ok2 (f_Hoist_add a1 a2 a3 s) P) : Ct (XX l D cI cZ cJ ad) y_Hoist_add b_Hoist_add 4 (some .int) 0 [.ref (ad 7), .int a1, .int a2, .int a3] s (P) :=
  Ct.of mi_Hoist_add (Nat.le_of_ble_eq_true rfl) (f_Hoist_add_w a1 a2 a3 s (Post := fun q => P q.1 q.2) (fun _ _ h => h) (Ok2_ok h))
-- Hb_lift
noncomputable def f_Hb_lift (a1 a2 a3 : Int32) (s : MS) : Option (Int32 × MS) :=
  (f_Boats_has a1 s).bind fun v1 => if v1 = 0 then (some ((-1 : Int32), s)) else ((f_Hb_isDay a2).bind fun v2 => if v2 = 0 then (some ((-1 : Int32), s)) else ((f_Hb_isWithin a3 (1 : Int32) (600 : Int32)).bind fun v3 => if v3 = 0 then (some ((-1 : Int32), s)) else (chk (inb a1 30) (bnd (s.2 9 a1.toNatClampNeg) fun v4 => bd2 (f_Hoist_add v4 a2 a3 s) fun v5 s6 => some (v5, s6)))))
theorem f_Hb_lift_w {l : Launch} {D : va_G} {cI cZ cJ : ClassId} {ad : Nat → Nat} (a1 a2 a3 : Int32) (s : MS) {Q : Int32 → MS → Prop} {Post : (Int32 × MS) → Prop} (hR : ∀ (r9 : Int32) (s9 : MS), Post ((r9, s9)) → Q r9 s9) (h : Ok (f_Hb_lift a1 a2 a3 s) Post) : G (XX l D cI cZ cJ ad) "SmallHarbour" b_Hb_lift 4 (some .int) 1 0 [(0, .ref (ad 0)), (1, .int a1), (2, .int a2), (3, .int a3)] [] s Q := by
  unfold f_Hb_lift at h
  refine G_aload_n d_Hb_lift_0 rfl 0 rfl ?_
  refine gx_Hb_boats d_Hb_lift_1 w_349 ?_
  refine G_iload_n d_Hb_lift_4 rfl 1 rfl ?_
  refine G_callVp (st := []) (As := [.int a1]) (b := ad 3) d_Hb_lift_5 mi_Boats_has w_465 3 rfl rfl mv_Boats_has rfl (Nat.le_of_ble_eq_true rfl) (by decide) (c_Boats_has a1 s (Ok_bind h)) (fun v1 h hnv1 => ?_)
  refine G_if_eq (tgt := 29) d_Hb_lift_8 (by decide) (fun c => ?_) (fun c => ?_)
  · replace h := Ok_t c h
    refine G_iconst d_Hb_lift_29 lt_iconst_m1 ?_
    exact G_iret rfl (vp_nar_int _) d_Hb_lift_30 (hR _ _ (Ok_some h))
  replace h := Ok_f c h
  refine G_iload_n d_Hb_lift_11 rfl 2 rfl ?_
  refine G_callSp (st := []) (As := [.int a2]) d_Hb_lift_12 mi_Hb_isDay w_473 w_474 rfl (Nat.le_of_ble_eq_true rfl) (by decide) (c_Hb_isDay a2 s (Ok_bind h)) (fun v2 h hnv2 => ?_)
  refine G_if_eq (tgt := 29) d_Hb_lift_15 (by decide) (fun c => ?_) (fun c => ?_)
  · replace h := Ok_t c h
    refine G_iconst d_Hb_lift_29 lt_iconst_m1 ?_
    exact G_iret rfl (vp_nar_int _) d_Hb_lift_30 (hR _ _ (Ok_some h))
  replace h := Ok_f c h
  refine G_iload_n d_Hb_lift_18 rfl 3 rfl ?_
  refine G_iconst d_Hb_lift_19 lt_iconst_1 ?_
  refine G_sipush d_Hb_lift_20 lt_sipush_600 ?_
  refine G_callSp (st := []) (As := [.int a3, .int (1 : Int32), .int (600 : Int32)]) d_Hb_lift_23 mi_Hb_isWithin w_429 w_423 rfl (Nat.le_of_ble_eq_true rfl) (by decide) (c_Hb_isWithin a3 (1 : Int32) (600 : Int32) s (Ok_bind h)) (fun v3 h hnv3 => ?_)
  refine G_if_ne (tgt := 31) d_Hb_lift_26 (by decide) (fun c => ?_) (fun c => ?_)
  · replace h := Ok_f c h
    refine G_aload_n d_Hb_lift_31 rfl 0 rfl ?_
    refine gx_Hb_crane d_Hb_lift_32 w_353 ?_
    refine G_aload_n d_Hb_lift_35 rfl 0 rfl ?_
    refine gx_Hb_boats d_Hb_lift_36 w_349 ?_
    refine gx_Boats_weight d_Hb_lift_39 w_71 ?_
    refine G_iload_n d_Hb_lift_42 rfl 1 rfl ?_
    refine lx_9 d_Hb_lift_43 (Ok_ld h).1 (fun v4 e => ?_)
    replace h := (Ok_ld h).2 v4 e
    clear e
    refine G_iload_n d_Hb_lift_44 rfl 2 rfl ?_
    refine G_iload_n d_Hb_lift_45 rfl 3 rfl ?_
    refine G_callVi (st := []) (As := [.int v4, .int a2, .int a3]) (b := ad 7) d_Hb_lift_46 mi_Hoist_add w_656 7 rfl rfl mv_Hoist_add rfl (Nat.le_of_ble_eq_true rfl) (by decide) (c_Hoist_add v4 a2 a3 s (Ok_bd2 h)) (fun v5 s6 h hnv5 => ?_)
    exact G_iret rfl (vp_nar_int _) d_Hb_lift_49 (hR _ _ (Ok_some h))
  replace h := Ok_t c h
  refine G_iconst d_Hb_lift_29 lt_iconst_m1 ?_
  exact G_iret rfl (vp_nar_int _) d_Hb_lift_30 (hR _ _ (Ok_some h))
theorem c_Hb_lift {l : Launch} {D : va_G} {cI cZ cJ : ClassId} {ad : Nat → Nat} (a1 a2 a3 : Int32) (s : MS) {P : Int32 → MS → Prop} (h : Ok2 (f_Hb_lift a1 a2 a3 s) P) : Ct (XX l D cI cZ cJ ad) y_Hb_lift b_Hb_lift 4 (some .int) 1 [.ref (ad 0), .int a1, .int a2, .int a3] s (P) :=
  Ct.of mi_Hb_lift (Nat.le_of_ble_eq_true rfl) (f_Hb_lift_w a1 a2 a3 s (Post := fun q => P q.1 q.2) (fun _ _ h => h) (Ok2_ok h))
-- Hoist_firstDay
noncomputable def Hoist_firstDay_j63 (x1 x2 x3 x5 t0 t1 : Int32) (s : MS) : Option ((Int32) ⊕ Int32) :=
  bnd (t1 - t0) fun v1 => chk (inb x1 40) (bnd (s.2 30 x1.toNatClampNeg) fun v2 => if v1 < v2 then (bnd (x5 + (1 : Int32)) fun v3 => some (.inl v3)) else (chk (inb x5 400) (bnd (s.2 27 x5.toNatClampNeg) fun v4 => if v4 = 0 then ((f_Tide_on x5 s).bind fun v6 => if v6 < (s.1 11) then (bnd (x5 + (1 : Int32)) fun v7 => some (.inl v7)) else (xit (some x5))) else (bnd (x5 + (1 : Int32)) fun v5 => some (.inl v5)))))
theorem Hoist_firstDay_j63_w {l : Launch} {D : va_G} {cI cZ cJ : ClassId} {ad : Nat → Nat} (x1 x2 x3 x5 t0 t1 : Int32) (s : MS) {Q : Int32 → MS → Prop} {Post : ((Int32) ⊕ Int32) → Prop} (hR : ∀ (r9 : Int32), Post (.inr (r9)) → Q r9 s) (hL40 : ∀ (z5 : Int32) , Post (.inl z5) → G (XX l D cI cZ cJ ad) "SmallHarbour$Hoist" b_Hoist_firstDay 7 (some .int) 1 40 [(0, .ref (ad 7)), (1, .int x1), (2, .int x2), (3, .int x3), (4, .ref (ad 1)), (5, .int z5)] [] s Q) (h : Ok (Hoist_firstDay_j63 x1 x2 x3 x5 t0 t1 s) Post) : G (XX l D cI cZ cJ ad) "SmallHarbour$Hoist" b_Hoist_firstDay 7 (some .int) 1 63 [(0, .ref (ad 7)), (1, .int x1), (2, .int x2), (3, .int x3), (4, .ref (ad 1)), (5, .int x5)] [.int t0, .int t1] s Q := by
  unfold Hoist_firstDay_j63 at h
  refine G_isub d_Hoist_firstDay_63 ?_
  refine G_istore d_Hoist_firstDay_64 (Nat.le_of_ble_eq_true rfl) (fun x => [(6, .int x), (0, .ref (ad 7)), (1, .int x1), (2, .int x2), (3, .int x3), (4, .ref (ad 1)), (5, .int x5)]) (fun _ => rfl) (fun v1 e => ?_)
  replace h := Ok_bnd h v1 e
  clear e
  refine G_aload_n d_Hoist_firstDay_66 rfl 1 rfl ?_
  refine gx_Hoist_minutes d_Hoist_firstDay_67 w_200 ?_
  refine G_iload_n d_Hoist_firstDay_70 rfl 2 rfl ?_
  refine lx_30 d_Hoist_firstDay_71 (Ok_ld h).1 (fun v2 e => ?_)
  replace h := (Ok_ld h).2 v2 e
  clear e
  refine G_iload d_Hoist_firstDay_72 0 rfl ?_
  refine G_icmp_gt (tgt := 104) d_Hoist_firstDay_74 (by decide) (fun c => ?_) (fun c => ?_)
  · replace h := Ok_t c h
    refine G_iinc d_Hoist_firstDay_104 6 rfl lt_iconst_1 rfl (Nat.le_of_ble_eq_true rfl) (fun x => [(5, .int x), (6, .int v1), (0, .ref (ad 7)), (1, .int x1), (2, .int x2), (3, .int x3), (4, .ref (ad 1))]) (fun _ => rfl) (fun v3 e => ?_)
    replace h := Ok_bnd h v3 e
    clear e
    refine G_goto (tgt := 40) d_Hoist_firstDay_107 (by decide) ?_
    refine G_lv [2, 3, 4, 5, 6, 0] rfl ?_
    exact hL40 v3 (Ok_some h)
  replace h := Ok_f c h
  refine G_aload_n d_Hoist_firstDay_77 rfl 1 rfl ?_
  refine gx_Hoist_isBroken d_Hoist_firstDay_78 w_191 ?_
  refine G_iload d_Hoist_firstDay_81 6 rfl ?_
  refine lx_27 d_Hoist_firstDay_83 (Ok_ld h).1 (fun v4 e => ?_)
  replace h := (Ok_ld h).2 v4 e
  clear e
  refine G_if_ne (tgt := 104) d_Hoist_firstDay_84 (by decide) (fun c => ?_) (fun c => ?_)
  · replace h := Ok_f c h
    refine G_iinc d_Hoist_firstDay_104 6 rfl lt_iconst_1 rfl (Nat.le_of_ble_eq_true rfl) (fun x => [(5, .int x), (6, .int v1), (0, .ref (ad 7)), (1, .int x1), (2, .int x2), (3, .int x3), (4, .ref (ad 1))]) (fun _ => rfl) (fun v5 e => ?_)
    replace h := Ok_bnd h v5 e
    clear e
    refine G_goto (tgt := 40) d_Hoist_firstDay_107 (by decide) ?_
    refine G_lv [2, 3, 4, 5, 6, 0] rfl ?_
    exact hL40 v5 (Ok_some h)
  replace h := Ok_t c h
  refine G_aload d_Hoist_firstDay_87 5 rfl ?_
  refine G_iload d_Hoist_firstDay_89 6 rfl ?_
  refine G_callVp (st := []) (As := [.int x5]) (b := ad 1) d_Hoist_firstDay_91 mi_Tide_on w_673 1 rfl rfl mv_Tide_on rfl (Nat.le_of_ble_eq_true rfl) (by decide) (c_Tide_on x5 s (Ok_bind h)) (fun v6 h hnv6 => ?_)
  refine G_aload_n d_Hoist_firstDay_94 rfl 1 rfl ?_
  refine gx_Hoist_leastLevel d_Hoist_firstDay_95 w_195 ?_
  refine G_icmp_lt (tgt := 104) d_Hoist_firstDay_98 (by decide) (fun c => ?_) (fun c => ?_)
  · replace h := Ok_t c h
    refine G_iinc d_Hoist_firstDay_104 6 rfl lt_iconst_1 rfl (Nat.le_of_ble_eq_true rfl) (fun x => [(5, .int x), (6, .int v1), (0, .ref (ad 7)), (1, .int x1), (2, .int x2), (3, .int x3), (4, .ref (ad 1))]) (fun _ => rfl) (fun v7 e => ?_)
    replace h := Ok_bnd h v7 e
    clear e
    refine G_goto (tgt := 40) d_Hoist_firstDay_107 (by decide) ?_
    refine G_lv [2, 3, 4, 5, 6, 0] rfl ?_
    exact hL40 v7 (Ok_some h)
  replace h := Ok_f c h
  replace h := Ok_xit h
  refine G_iload d_Hoist_firstDay_101 6 rfl ?_
  exact G_iret rfl (vp_nar_int _) d_Hoist_firstDay_103 (hR _ (Ok_some h))
noncomputable def Hoist_firstDay_l40 (x1 x2 x3 : Int32) (s : MS) (x5 : Int32) : Option ((Int32) ⊕ Int32) :=
  if (400 : Int32) ≤ x5 then (xit (some (-1 : Int32))) else (if x5 = x2 then (Hoist_firstDay_j63 x1 x2 x3 x5 x3 (s.1 13) s) else (Hoist_firstDay_j63 x1 x2 x3 x5 (0 : Int32) (s.1 13) s))
theorem Hoist_firstDay_l40_w {l : Launch} {D : va_G} {cI cZ cJ : ClassId} {ad : Nat → Nat} (x1 x2 x3 x5 : Int32) (s : MS) {Q : Int32 → MS → Prop} {Post : ((Int32) ⊕ Int32) → Prop} (hR : ∀ (r9 : Int32), Post (.inr (r9)) → Q r9 s) (hL40 : ∀ (z5 : Int32) , Post (.inl z5) → G (XX l D cI cZ cJ ad) "SmallHarbour$Hoist" b_Hoist_firstDay 7 (some .int) 1 40 [(0, .ref (ad 7)), (1, .int x1), (2, .int x2), (3, .int x3), (4, .ref (ad 1)), (5, .int z5)] [] s Q) (h : Ok (Hoist_firstDay_l40 x1 x2 x3 s x5) Post) : G (XX l D cI cZ cJ ad) "SmallHarbour$Hoist" b_Hoist_firstDay 7 (some .int) 1 40 [(0, .ref (ad 7)), (1, .int x1), (2, .int x2), (3, .int x3), (4, .ref (ad 1)), (5, .int x5)] [] s Q := by
  unfold Hoist_firstDay_l40 at h
  refine G_iload d_Hoist_firstDay_40 5 rfl ?_
  refine G_sipush d_Hoist_firstDay_42 lt_sipush_400 ?_
  refine G_icmp_ge (tgt := 110) d_Hoist_firstDay_45 (by decide) (fun c => ?_) (fun c => ?_)
  · replace h := Ok_t c h
    replace h := Ok_xit h
    refine G_iconst d_Hoist_firstDay_110 lt_iconst_m1 ?_
    exact G_iret rfl (vp_nar_int _) d_Hoist_firstDay_111 (hR _ (Ok_some h))
  replace h := Ok_f c h
  refine G_aload_n d_Hoist_firstDay_48 rfl 0 rfl ?_
  refine gx_Hoist_minutesOfDay d_Hoist_firstDay_49 w_197 ?_
  refine G_iload d_Hoist_firstDay_52 5 rfl ?_
  refine G_iload_n d_Hoist_firstDay_54 rfl 2 rfl ?_
  refine G_icmp_ne (tgt := 62) d_Hoist_firstDay_55 (by decide) (fun c => ?_) (fun c => ?_)
  · replace h := Ok_f c h
    refine G_iconst d_Hoist_firstDay_62 lt_iconst_0 ?_
    exact Hoist_firstDay_j63_w x1 x2 x3 x5 (0 : Int32) (s.1 13) s hR hL40 h
  replace h := Ok_t c h
  refine G_iload_n d_Hoist_firstDay_58 rfl 3 rfl ?_
  refine G_goto (tgt := 63) d_Hoist_firstDay_59 (by decide) ?_
  exact Hoist_firstDay_j63_w x1 x2 x3 x5 x3 (s.1 13) s hR hL40 h
noncomputable def f_Hoist_firstDay (a1 a2 a3 : Int32) (s : MS) : Option Int32 :=
  chk (inb a1 40) (bnd (s.2 28 a1.toNatClampNeg) fun v1 => if (s.1 12) < v1 then (some (-1 : Int32)) else (chk (inb a1 40) (bnd (s.2 30 a1.toNatClampNeg) fun v2 => if v2 ≤ (s.1 13) then (chk (inb a1 40) (bnd (s.2 29 a1.toNatClampNeg) fun v3 => bnd (if v3 < a2 then a2 else v3) fun v4 => loop (fun z => Hoist_firstDay_l40 a1 a2 a3 s z) v4)) else (some (-1 : Int32)))))
theorem f_Hoist_firstDay_w {l : Launch} {D : va_G} {cI cZ cJ : ClassId} {ad : Nat → Nat} (a1 a2 a3 : Int32) (s : MS) {Q : Int32 → MS → Prop} {Post : Int32 → Prop} (hR : ∀ (r9 : Int32), Post (r9) → Q r9 s) (h : Ok (f_Hoist_firstDay a1 a2 a3 s) Post) : G (XX l D cI cZ cJ ad) "SmallHarbour$Hoist" b_Hoist_firstDay 7 (some .int) 1 0 [(0, .ref (ad 7)), (1, .int a1), (2, .int a2), (3, .int a3), (4, .ref (ad 1))] [] s Q := by
  unfold f_Hoist_firstDay at h
  refine G_aload_n d_Hoist_firstDay_0 rfl 0 rfl ?_
  refine gx_Hoist_weight d_Hoist_firstDay_1 w_198 ?_
  refine G_iload_n d_Hoist_firstDay_4 rfl 1 rfl ?_
  refine lx_28 d_Hoist_firstDay_5 (Ok_ld h).1 (fun v1 e => ?_)
  replace h := (Ok_ld h).2 v1 e
  clear e
  refine G_aload_n d_Hoist_firstDay_6 rfl 0 rfl ?_
  refine gx_Hoist_mostWeight d_Hoist_firstDay_7 w_196 ?_
  refine G_icmp_gt (tgt := 26) d_Hoist_firstDay_10 (by decide) (fun c => ?_) (fun c => ?_)
  · replace h := Ok_t c h
    refine G_iconst d_Hoist_firstDay_26 lt_iconst_m1 ?_
    exact G_iret rfl (vp_nar_int _) d_Hoist_firstDay_27 (hR _ (Ok_some h))
  replace h := Ok_f c h
  refine G_aload_n d_Hoist_firstDay_13 rfl 0 rfl ?_
  refine gx_Hoist_minutes d_Hoist_firstDay_14 w_200 ?_
  refine G_iload_n d_Hoist_firstDay_17 rfl 1 rfl ?_
  refine lx_30 d_Hoist_firstDay_18 (Ok_ld h).1 (fun v2 e => ?_)
  replace h := (Ok_ld h).2 v2 e
  clear e
  refine G_aload_n d_Hoist_firstDay_19 rfl 0 rfl ?_
  refine gx_Hoist_minutesOfDay d_Hoist_firstDay_20 w_197 ?_
  refine G_icmp_le (tgt := 28) d_Hoist_firstDay_23 (by decide) (fun c => ?_) (fun c => ?_)
  · replace h := Ok_t c h
    refine G_aload_n d_Hoist_firstDay_28 rfl 0 rfl ?_
    refine gx_Hoist_earliest d_Hoist_firstDay_29 w_199 ?_
    refine G_iload_n d_Hoist_firstDay_32 rfl 1 rfl ?_
    refine lx_29 d_Hoist_firstDay_33 (Ok_ld h).1 (fun v3 e => ?_)
    replace h := (Ok_ld h).2 v3 e
    clear e
    refine G_iload_n d_Hoist_firstDay_34 rfl 2 rfl ?_
    refine G_max d_Hoist_firstDay_35 w_672 w_506 w_15 w_507 (by decide) (Nat.le_of_ble_eq_true rfl) (G_topi (fun v4 e => ?_))
    replace h := Ok_bnd h v4 e
    clear e
    refine G_istore d_Hoist_firstDay_38 (Nat.le_of_ble_eq_true rfl) (fun x => [(5, .int x), (0, .ref (ad 7)), (1, .int a1), (2, .int a2), (3, .int a3), (4, .ref (ad 1))]) (fun _ => rfl) (fun x e => ?_)
    subst e
    refine G_lv [1, 2, 3, 4, 5, 0] rfl ?_
    exact G_loop (J := (fun z => G (XX l D cI cZ cJ ad) "SmallHarbour$Hoist" b_Hoist_firstDay 7 (some .int) 1 40 [(0, .ref (ad 7)), (1, .int a1), (2, .int a2), (3, .int a3), (4, .ref (ad 1)), (5, .int z)] [] s Q)) (fun z h => Hoist_firstDay_l40_w a1 a2 a3 z s (Post := Sum.elim (fun z => G (XX l D cI cZ cJ ad) "SmallHarbour$Hoist" b_Hoist_firstDay 7 (some .int) 1 40 [(0, .ref (ad 7)), (1, .int a1), (2, .int a2), (3, .int a3), (4, .ref (ad 1)), (5, .int z)] [] s Q) _) hR (fun z5 h => h) h) v4 h
  replace h := Ok_f c h
  refine G_iconst d_Hoist_firstDay_26 lt_iconst_m1 ?_
  exact G_iret rfl (vp_nar_int _) d_Hoist_firstDay_27 (hR _ (Ok_some h))
theorem c_Hoist_firstDay {l : Launch} {D : va_G} {cI cZ cJ : ClassId} {ad : Nat → Nat} (a1 a2 a3 : Int32) (s : MS) {P : Int32 → Prop} (h : Ok (f_Hoist_firstDay a1 a2 a3 s) P) : Ct (XX l D cI cZ cJ ad) y_Hoist_firstDay b_Hoist_firstDay 7 (some .int) 1 [.ref (ad 7), .int a1, .int a2, .int a3, .ref (ad 1)] s (fun r9 s9 => s9 = s ∧ P r9) :=
  Ct.of mi_Hoist_firstDay (Nat.le_of_ble_eq_true rfl) (f_Hoist_firstDay_w a1 a2 a3 s (fun _ h => ⟨rfl, h⟩) h)
-- Hoist_dayOf
noncomputable def Hoist_dayOf_l25 (x1 : Int32) (s : MS) (x3 x4 x5 x6 : Int32) : Option ((Int32 × Int32 × Int32 × Int32) ⊕ Int32) :=
  if x1 < x6 then (xit (some x5)) else ((f_Hoist_firstDay x6 x3 x4 s).bind fun v1 => if v1 = (-1 : Int32) then (bnd (x6 + (1 : Int32)) fun v2 => some (.inl (x3, x4, v1, v2))) else (chk (inb x6 40) (bnd (s.2 30 x6.toNatClampNeg) fun v3 => if v1 = x3 then (bnd (v3 + x4) fun v6 => bnd (x6 + (1 : Int32)) fun v7 => some (.inl (v1, v6, v1, v7))) else (bnd (v3 + (0 : Int32)) fun v4 => bnd (x6 + (1 : Int32)) fun v5 => some (.inl (v1, v4, v1, v5))))))
theorem Hoist_dayOf_l25_w {l : Launch} {D : va_G} {cI cZ cJ : ClassId} {ad : Nat → Nat} (x1 x3 x4 x5 x6 : Int32) (s : MS) {Q : Int32 → MS → Prop} {Post : ((Int32 × Int32 × Int32 × Int32) ⊕ Int32) → Prop} (hR : ∀ (r9 : Int32), Post (.inr (r9)) → Q r9 s) (hL25 : ∀ (z3 z4 z5 z6 : Int32) , Post (.inl (z3, z4, z5, z6)) → G (XX l D cI cZ cJ ad) "SmallHarbour$Hoist" b_Hoist_dayOf 7 (some .int) 2 25 [(0, .ref (ad 7)), (1, .int x1), (2, .ref (ad 1)), (3, .int z3), (4, .int z4), (5, .int z5), (6, .int z6)] [] s Q) (h : Ok (Hoist_dayOf_l25 x1 s x3 x4 x5 x6) Post) : G (XX l D cI cZ cJ ad) "SmallHarbour$Hoist" b_Hoist_dayOf 7 (some .int) 2 25 [(0, .ref (ad 7)), (1, .int x1), (2, .ref (ad 1)), (3, .int x3), (4, .int x4), (5, .int x5), (6, .int x6)] [] s Q := by
  unfold Hoist_dayOf_l25 at h
  refine G_iload d_Hoist_dayOf_25 6 rfl ?_
  refine G_iload_n d_Hoist_dayOf_27 rfl 1 rfl ?_
  refine G_icmp_gt (tgt := 80) d_Hoist_dayOf_28 (by decide) (fun c => ?_) (fun c => ?_)
  · replace h := Ok_t c h
    replace h := Ok_xit h
    refine G_iload d_Hoist_dayOf_80 5 rfl ?_
    exact G_iret rfl (vp_nar_int _) d_Hoist_dayOf_82 (hR _ (Ok_some h))
  replace h := Ok_f c h
  refine G_aload_n d_Hoist_dayOf_31 rfl 0 rfl ?_
  refine G_iload d_Hoist_dayOf_32 6 rfl ?_
  refine G_iload_n d_Hoist_dayOf_34 rfl 3 rfl ?_
  refine G_iload d_Hoist_dayOf_35 4 rfl ?_
  refine G_aload_n d_Hoist_dayOf_37 rfl 2 rfl ?_
  refine G_callVp (st := []) (As := [.int x6, .int x3, .int x4, .ref (ad 1)]) (b := ad 7) d_Hoist_dayOf_38 mi_Hoist_firstDay w_668 7 rfl rfl mv_Hoist_firstDay rfl (Nat.le_of_ble_eq_true rfl) (by decide) (c_Hoist_firstDay x6 x3 x4 s (Ok_bind h)) (fun v1 h hnv1 => ?_)
  refine G_istore d_Hoist_dayOf_41 (Nat.le_of_ble_eq_true rfl) (fun x => [(5, .int x), (0, .ref (ad 7)), (1, .int x1), (2, .ref (ad 1)), (3, .int x3), (4, .int x4), (6, .int x6)]) (fun _ => rfl) (fun x e => ?_)
  subst e
  refine G_iload d_Hoist_dayOf_43 0 rfl ?_
  refine G_iconst d_Hoist_dayOf_45 lt_iconst_m1 ?_
  refine G_icmp_eq (tgt := 74) d_Hoist_dayOf_46 (by decide) (fun c => ?_) (fun c => ?_)
  · replace h := Ok_t c h
    refine G_iinc d_Hoist_dayOf_74 6 rfl lt_iconst_1 rfl (Nat.le_of_ble_eq_true rfl) (fun x => [(6, .int x), (5, .int v1), (0, .ref (ad 7)), (1, .int x1), (2, .ref (ad 1)), (3, .int x3), (4, .int x4)]) (fun _ => rfl) (fun v2 e => ?_)
    replace h := Ok_bnd h v2 e
    clear e
    refine G_goto (tgt := 25) d_Hoist_dayOf_77 (by decide) ?_
    refine G_lv [2, 3, 4, 5, 6, 1, 0] rfl ?_
    exact hL25 x3 x4 v1 v2 (Ok_some h)
  replace h := Ok_f c h
  refine G_aload_n d_Hoist_dayOf_49 rfl 1 rfl ?_
  refine gx_Hoist_minutes d_Hoist_dayOf_50 w_200 ?_
  refine G_iload d_Hoist_dayOf_53 6 rfl ?_
  refine lx_30 d_Hoist_dayOf_55 (Ok_ld h).1 (fun v3 e => ?_)
  replace h := (Ok_ld h).2 v3 e
  clear e
  refine G_iload d_Hoist_dayOf_56 0 rfl ?_
  refine G_iload_n d_Hoist_dayOf_58 rfl 4 rfl ?_
  refine G_icmp_ne (tgt := 67) d_Hoist_dayOf_59 (by decide) (fun c => ?_) (fun c => ?_)
  · replace h := Ok_f c h
    refine G_iconst d_Hoist_dayOf_67 lt_iconst_0 ?_
    refine G_iadd d_Hoist_dayOf_68 ?_
    refine G_istore d_Hoist_dayOf_69 (Nat.le_of_ble_eq_true rfl) (fun x => [(4, .int x), (5, .int v1), (0, .ref (ad 7)), (1, .int x1), (2, .ref (ad 1)), (3, .int x3), (6, .int x6)]) (fun _ => rfl) (fun v4 e => ?_)
    replace h := Ok_bnd h v4 e
    clear e
    refine G_iload d_Hoist_dayOf_71 1 rfl ?_
    refine G_istore_n d_Hoist_dayOf_73 rfl (Nat.le_of_ble_eq_true rfl) (fun x => [(3, .int x), (4, .int v4), (5, .int v1), (0, .ref (ad 7)), (1, .int x1), (2, .ref (ad 1)), (6, .int x6)]) (fun _ => rfl) (fun x e => ?_)
    subst e
    refine G_iinc d_Hoist_dayOf_74 6 rfl lt_iconst_1 rfl (Nat.le_of_ble_eq_true rfl) (fun x => [(6, .int x), (3, .int v1), (4, .int v4), (5, .int v1), (0, .ref (ad 7)), (1, .int x1), (2, .ref (ad 1))]) (fun _ => rfl) (fun v5 e => ?_)
    replace h := Ok_bnd h v5 e
    clear e
    refine G_goto (tgt := 25) d_Hoist_dayOf_77 (by decide) ?_
    refine G_lv [4, 5, 6, 1, 2, 3, 0] rfl ?_
    exact hL25 v1 v4 v1 v5 (Ok_some h)
  replace h := Ok_t c h
  refine G_iload d_Hoist_dayOf_62 5 rfl ?_
  refine G_goto (tgt := 68) d_Hoist_dayOf_64 (by decide) ?_
  refine G_iadd d_Hoist_dayOf_68 ?_
  refine G_istore d_Hoist_dayOf_69 (Nat.le_of_ble_eq_true rfl) (fun x => [(4, .int x), (5, .int v1), (0, .ref (ad 7)), (1, .int x1), (2, .ref (ad 1)), (3, .int x3), (6, .int x6)]) (fun _ => rfl) (fun v6 e => ?_)
  replace h := Ok_bnd h v6 e
  clear e
  refine G_iload d_Hoist_dayOf_71 1 rfl ?_
  refine G_istore_n d_Hoist_dayOf_73 rfl (Nat.le_of_ble_eq_true rfl) (fun x => [(3, .int x), (4, .int v6), (5, .int v1), (0, .ref (ad 7)), (1, .int x1), (2, .ref (ad 1)), (6, .int x6)]) (fun _ => rfl) (fun x e => ?_)
  subst e
  refine G_iinc d_Hoist_dayOf_74 6 rfl lt_iconst_1 rfl (Nat.le_of_ble_eq_true rfl) (fun x => [(6, .int x), (3, .int v1), (4, .int v6), (5, .int v1), (0, .ref (ad 7)), (1, .int x1), (2, .ref (ad 1))]) (fun _ => rfl) (fun v7 e => ?_)
  replace h := Ok_bnd h v7 e
  clear e
  refine G_goto (tgt := 25) d_Hoist_dayOf_77 (by decide) ?_
  refine G_lv [4, 5, 6, 1, 2, 3, 0] rfl ?_
  exact hL25 v1 v6 v1 v7 (Ok_some h)
noncomputable def f_Hoist_dayOf (a1 : Int32) (s : MS) : Option Int32 :=
  if a1 < 0 then (some (-1 : Int32)) else (if a1 < (s.1 10) then (loop (fun z => Hoist_dayOf_l25 a1 s z.1 z.2.1 z.2.2.1 z.2.2.2) ((0 : Int32), (0 : Int32), (-1 : Int32), (0 : Int32))) else (some (-1 : Int32)))
theorem f_Hoist_dayOf_w {l : Launch} {D : va_G} {cI cZ cJ : ClassId} {ad : Nat → Nat} (a1 : Int32) (s : MS) {Q : Int32 → MS → Prop} {Post : Int32 → Prop} (hR : ∀ (r9 : Int32), Post (r9) → Q r9 s) (h : Ok (f_Hoist_dayOf a1 s) Post) : G (XX l D cI cZ cJ ad) "SmallHarbour$Hoist" b_Hoist_dayOf 7 (some .int) 2 0 [(0, .ref (ad 7)), (1, .int a1), (2, .ref (ad 1))] [] s Q := by
  unfold f_Hoist_dayOf at h
  refine G_iload_n d_Hoist_dayOf_0 rfl 1 rfl ?_
  refine G_if_lt (tgt := 12) d_Hoist_dayOf_1 (by decide) (fun c => ?_) (fun c => ?_)
  · replace h := Ok_t c h
    refine G_iconst d_Hoist_dayOf_12 lt_iconst_m1 ?_
    exact G_iret rfl (vp_nar_int _) d_Hoist_dayOf_13 (hR _ (Ok_some h))
  replace h := Ok_f c h
  refine G_iload_n d_Hoist_dayOf_4 rfl 1 rfl ?_
  refine G_aload_n d_Hoist_dayOf_5 rfl 0 rfl ?_
  refine gx_Hoist_count d_Hoist_dayOf_6 w_193 ?_
  refine G_icmp_lt (tgt := 14) d_Hoist_dayOf_9 (by decide) (fun c => ?_) (fun c => ?_)
  · replace h := Ok_t c h
    refine G_iconst d_Hoist_dayOf_14 lt_iconst_0 ?_
    refine G_istore_n d_Hoist_dayOf_15 rfl (Nat.le_of_ble_eq_true rfl) (fun x => [(3, .int x), (0, .ref (ad 7)), (1, .int a1), (2, .ref (ad 1))]) (fun _ => rfl) (fun x e => ?_)
    subst e
    refine G_iconst d_Hoist_dayOf_16 lt_iconst_0 ?_
    refine G_istore d_Hoist_dayOf_17 (Nat.le_of_ble_eq_true rfl) (fun x => [(4, .int x), (3, .int (0 : Int32)), (0, .ref (ad 7)), (1, .int a1), (2, .ref (ad 1))]) (fun _ => rfl) (fun x e => ?_)
    subst e
    refine G_iconst d_Hoist_dayOf_19 lt_iconst_m1 ?_
    refine G_istore d_Hoist_dayOf_20 (Nat.le_of_ble_eq_true rfl) (fun x => [(5, .int x), (4, .int (0 : Int32)), (3, .int (0 : Int32)), (0, .ref (ad 7)), (1, .int a1), (2, .ref (ad 1))]) (fun _ => rfl) (fun x e => ?_)
    subst e
    refine G_iconst d_Hoist_dayOf_22 lt_iconst_0 ?_
    refine G_istore d_Hoist_dayOf_23 (Nat.le_of_ble_eq_true rfl) (fun x => [(6, .int x), (5, .int (-1 : Int32)), (4, .int (0 : Int32)), (3, .int (0 : Int32)), (0, .ref (ad 7)), (1, .int a1), (2, .ref (ad 1))]) (fun _ => rfl) (fun x e => ?_)
    subst e
    refine G_lv [4, 5, 6, 3, 2, 1, 0] rfl ?_
    exact G_loop (J := (fun z => G (XX l D cI cZ cJ ad) "SmallHarbour$Hoist" b_Hoist_dayOf 7 (some .int) 2 25 [(0, .ref (ad 7)), (1, .int a1), (2, .ref (ad 1)), (3, .int (z.1)), (4, .int (z.2.1)), (5, .int (z.2.2.1)), (6, .int (z.2.2.2))] [] s Q)) (fun z h => Hoist_dayOf_l25_w a1 z.1 z.2.1 z.2.2.1 z.2.2.2 s (Post := Sum.elim (fun z => G (XX l D cI cZ cJ ad) "SmallHarbour$Hoist" b_Hoist_dayOf 7 (some .int) 2 25 [(0, .ref (ad 7)), (1, .int a1), (2, .ref (ad 1)), (3, .int (z.1)), (4, .int (z.2.1)), (5, .int (z.2.2.1)), (6, .int (z.2.2.2))] [] s Q) _) hR (fun z3 z4 z5 z6 h => h) h) ((0 : Int32), (0 : Int32), (-1 : Int32), (0 : Int32)) h
  replace h := Ok_f c h
  refine G_iconst d_Hoist_dayOf_12 lt_iconst_m1 ?_
  exact G_iret rfl (vp_nar_int _) d_Hoist_dayOf_13 (hR _ (Ok_some h))
theorem c_Hoist_dayOf {l : Launch} {D : va_G} {cI cZ cJ : ClassId} {ad : Nat → Nat} (a1 : Int32) (s : MS) {P : Int32 → Prop} (h : Ok (f_Hoist_dayOf a1 s) P) : Ct (XX l D cI cZ cJ ad) y_Hoist_dayOf b_Hoist_dayOf 7 (some .int) 2 [.ref (ad 7), .int a1, .ref (ad 1)] s (fun r9 s9 => s9 = s ∧ P r9) :=
  Ct.of mi_Hoist_dayOf (Nat.le_of_ble_eq_true rfl) (f_Hoist_dayOf_w a1 s (fun _ h => ⟨rfl, h⟩) h)
-- Hb_lifted
noncomputable def f_Hb_lifted (a1 : Int32) (s : MS) : Option Int32 :=
  (f_Hoist_dayOf a1 s).bind fun v1 => some v1
theorem f_Hb_lifted_w {l : Launch} {D : va_G} {cI cZ cJ : ClassId} {ad : Nat → Nat} (a1 : Int32) (s : MS) {Q : Int32 → MS → Prop} {Post : Int32 → Prop} (hR : ∀ (r9 : Int32), Post (r9) → Q r9 s) (h : Ok (f_Hb_lifted a1 s) Post) : G (XX l D cI cZ cJ ad) "SmallHarbour" b_Hb_lifted 2 (some .int) 3 0 [(0, .ref (ad 0)), (1, .int a1)] [] s Q := by
  unfold f_Hb_lifted at h
  refine G_aload_n d_Hb_lifted_0 rfl 0 rfl ?_
  refine gx_Hb_crane d_Hb_lifted_1 w_353 ?_
  refine G_iload_n d_Hb_lifted_4 rfl 1 rfl ?_
  refine G_aload_n d_Hb_lifted_5 rfl 0 rfl ?_
  refine gx_Hb_tide d_Hb_lifted_6 w_347 ?_
  refine G_callVp (st := []) (As := [.int a1, .ref (ad 1)]) (b := ad 7) d_Hb_lifted_9 mi_Hoist_dayOf w_664 7 rfl rfl mv_Hoist_dayOf rfl (Nat.le_of_ble_eq_true rfl) (by decide) (c_Hoist_dayOf a1 s (Ok_bind h)) (fun v1 h hnv1 => ?_)
  exact G_iret rfl (vp_nar_int _) d_Hb_lifted_12 (hR _ (Ok_some h))
theorem c_Hb_lifted {l : Launch} {D : va_G} {cI cZ cJ : ClassId} {ad : Nat → Nat} (a1 : Int32) (s : MS) {P : Int32 → Prop} (h : Ok (f_Hb_lifted a1 s) P) : Ct (XX l D cI cZ cJ ad) y_Hb_lifted b_Hb_lifted 2 (some .int) 3 [.ref (ad 0), .int a1] s (fun r9 s9 => s9 = s ∧ P r9) :=
  Ct.of mi_Hb_lifted (Nat.le_of_ble_eq_true rfl) (f_Hb_lifted_w a1 s (fun _ h => ⟨rfl, h⟩) h)
-- Hb_moved
noncomputable def f_Hb_moved (a1 a2 : Int32) (s : MS) : Option Int32 :=
  if a1 < 0 then (some (-1 : Int32)) else (if (s.1 0) ≤ a1 then (some (-1 : Int32)) else (if a2 < 0 then (some (-1 : Int32)) else (if a2 < (3 : Int32) then (bnd a2 fun v1 => if v1 = (0 : Int32) then (chk (inb a1 12) (bnd (s.2 0 a1.toNatClampNeg) fun v2 => some v2)) else (if v1 = (1 : Int32) then (chk (inb a1 12) (bnd (s.2 1 a1.toNatClampNeg) fun v3 => some v3)) else (if v1 = (2 : Int32) then (chk (inb a1 12) (bnd (s.2 2 a1.toNatClampNeg) fun v4 => some v4)) else (none)))) else (some (-1 : Int32)))))
theorem f_Hb_moved_w {l : Launch} {D : va_G} {cI cZ cJ : ClassId} {ad : Nat → Nat} (a1 a2 : Int32) (s : MS) {Q : Int32 → MS → Prop} {Post : Int32 → Prop} (hR : ∀ (r9 : Int32), Post (r9) → Q r9 s) (h : Ok (f_Hb_moved a1 a2 s) Post) : G (XX l D cI cZ cJ ad) "SmallHarbour" b_Hb_moved 3 (some .int) 0 0 [(0, .ref (ad 0)), (1, .int a1), (2, .int a2)] [] s Q := by
  unfold f_Hb_moved at h
  refine G_iload_n d_Hb_moved_0 rfl 1 rfl ?_
  refine G_if_lt (tgt := 21) d_Hb_moved_1 (by decide) (fun c => ?_) (fun c => ?_)
  · replace h := Ok_t c h
    refine G_iconst d_Hb_moved_21 lt_iconst_m1 ?_
    exact G_iret rfl (vp_nar_int _) d_Hb_moved_22 (hR _ (Ok_some h))
  replace h := Ok_f c h
  refine G_iload_n d_Hb_moved_4 rfl 1 rfl ?_
  refine G_aload_n d_Hb_moved_5 rfl 0 rfl ?_
  refine gx_Hb_keptCount d_Hb_moved_6 w_359 ?_
  refine G_icmp_ge (tgt := 21) d_Hb_moved_9 (by decide) (fun c => ?_) (fun c => ?_)
  · replace h := Ok_t c h
    refine G_iconst d_Hb_moved_21 lt_iconst_m1 ?_
    exact G_iret rfl (vp_nar_int _) d_Hb_moved_22 (hR _ (Ok_some h))
  replace h := Ok_f c h
  refine G_iload_n d_Hb_moved_12 rfl 2 rfl ?_
  refine G_if_lt (tgt := 21) d_Hb_moved_13 (by decide) (fun c => ?_) (fun c => ?_)
  · replace h := Ok_t c h
    refine G_iconst d_Hb_moved_21 lt_iconst_m1 ?_
    exact G_iret rfl (vp_nar_int _) d_Hb_moved_22 (hR _ (Ok_some h))
  replace h := Ok_f c h
  refine G_iload_n d_Hb_moved_16 rfl 2 rfl ?_
  refine G_iconst d_Hb_moved_17 lt_iconst_3 ?_
  refine G_icmp_lt (tgt := 23) d_Hb_moved_18 (by decide) (fun c => ?_) (fun c => ?_)
  · replace h := Ok_t c h
    refine G_aload_n d_Hb_moved_23 rfl 0 rfl ?_
    refine gx_Hb_kept d_Hb_moved_24 w_358 ?_
    refine G_iload_n d_Hb_moved_27 rfl 2 rfl ?_
    refine G_topi (fun v1 e => ?_)
    replace h := Ok_bnd h v1 e
    clear e
    by_cases c0 : v1 = (0 : Int32)
    · replace h := Ok_t c0 h
      refine G_aald d_Hb_moved_28 12 2 rfl rfl (by rw [c0]; decide) (b := ad 13) (by rw [c0]; rfl) ?_
      refine G_iload_n d_Hb_moved_29 rfl 1 rfl ?_
      refine lx_0 d_Hb_moved_30 (Ok_ld h).1 (fun v2 e => ?_)
      replace h := (Ok_ld h).2 v2 e
      clear e
      exact G_iret rfl (vp_nar_int _) d_Hb_moved_31 (hR _ (Ok_some h))
    replace h := Ok_f c0 h
    by_cases c1 : v1 = (1 : Int32)
    · replace h := Ok_t c1 h
      refine G_aald d_Hb_moved_28 12 2 rfl rfl (by rw [c1]; decide) (b := ad 14) (by rw [c1]; rfl) ?_
      refine G_iload_n d_Hb_moved_29 rfl 1 rfl ?_
      refine lx_1 d_Hb_moved_30 (Ok_ld h).1 (fun v3 e => ?_)
      replace h := (Ok_ld h).2 v3 e
      clear e
      exact G_iret rfl (vp_nar_int _) d_Hb_moved_31 (hR _ (Ok_some h))
    replace h := Ok_f c1 h
    by_cases c2 : v1 = (2 : Int32)
    · replace h := Ok_t c2 h
      refine G_aald d_Hb_moved_28 12 2 rfl rfl (by rw [c2]; decide) (b := ad 15) (by rw [c2]; rfl) ?_
      refine G_iload_n d_Hb_moved_29 rfl 1 rfl ?_
      refine lx_2 d_Hb_moved_30 (Ok_ld h).1 (fun v4 e => ?_)
      replace h := (Ok_ld h).2 v4 e
      clear e
      exact G_iret rfl (vp_nar_int _) d_Hb_moved_31 (hR _ (Ok_some h))
    replace h := Ok_f c2 h
    exact Ok_none h
  replace h := Ok_f c h
  refine G_iconst d_Hb_moved_21 lt_iconst_m1 ?_
  exact G_iret rfl (vp_nar_int _) d_Hb_moved_22 (hR _ (Ok_some h))
theorem c_Hb_moved {l : Launch} {D : va_G} {cI cZ cJ : ClassId} {ad : Nat → Nat} (a1 a2 : Int32) (s : MS) {P : Int32 → Prop} (h : Ok (f_Hb_moved a1 a2 s) P) : Ct (XX l D cI cZ cJ ad) y_Hb_moved b_Hb_moved 3 (some .int) 0 [.ref (ad 0), .int a1, .int a2] s (fun r9 s9 => s9 = s ∧ P r9) :=
  Ct.of mi_Hb_moved (Nat.le_of_ble_eq_true rfl) (f_Hb_moved_w a1 a2 s (fun _ h => ⟨rfl, h⟩) h)
-- Hb_moves
noncomputable def f_Hb_moves (s : MS) : Option Int32 :=
  (f_Shed_isFilled s).bind fun v1 => if v1 = 0 then (some (-1 : Int32)) else (some (s.1 15))
theorem f_Hb_moves_w {l : Launch} {D : va_G} {cI cZ cJ : ClassId} {ad : Nat → Nat} (s : MS) {Q : Int32 → MS → Prop} {Post : Int32 → Prop} (hR : ∀ (r9 : Int32), Post (r9) → Q r9 s) (h : Ok (f_Hb_moves s) Post) : G (XX l D cI cZ cJ ad) "SmallHarbour" b_Hb_moves 1 (some .int) 1 0 [(0, .ref (ad 0))] [] s Q := by
  unfold f_Hb_moves at h
  refine G_aload_n d_Hb_moves_0 rfl 0 rfl ?_
  refine gx_Hb_barn d_Hb_moves_1 w_354 ?_
  refine G_callVp (st := []) (As := []) (b := ad 8) d_Hb_moves_4 mi_Shed_isFilled w_709 8 rfl rfl mv_Shed_isFilled rfl (Nat.le_of_ble_eq_true rfl) (by decide) (c_Shed_isFilled  s (Ok_bind h)) (fun v1 h hnv1 => ?_)
  refine G_if_eq (tgt := 20) d_Hb_moves_7 (by decide) (fun c => ?_) (fun c => ?_)
  · replace h := Ok_t c h
    refine G_iconst d_Hb_moves_20 lt_iconst_m1 ?_
    exact G_iret rfl (vp_nar_int _) d_Hb_moves_21 (hR _ (Ok_some h))
  replace h := Ok_f c h
  refine G_aload_n d_Hb_moves_10 rfl 0 rfl ?_
  refine gx_Hb_barn d_Hb_moves_11 w_354 ?_
  refine gx_Shed_fewest d_Hb_moves_14 w_228 ?_
  refine G_goto (tgt := 21) d_Hb_moves_17 (by decide) ?_
  exact G_iret rfl (vp_nar_int _) d_Hb_moves_21 (hR _ (Ok_some h))
theorem c_Hb_moves {l : Launch} {D : va_G} {cI cZ cJ : ClassId} {ad : Nat → Nat} (s : MS) {P : Int32 → Prop} (h : Ok (f_Hb_moves  s) P) : Ct (XX l D cI cZ cJ ad) y_Hb_moves b_Hb_moves 1 (some .int) 1 [.ref (ad 0)] s (fun r9 s9 => s9 = s ∧ P r9) :=
  Ct.of mi_Hb_moves (Nat.le_of_ble_eq_true rfl) (f_Hb_moves_w  s (fun _ h => ⟨rfl, h⟩) h)
-- Hb_owes
noncomputable def Hb_owes_l4 (x1 : Int32) (x2 x3 : Int32) (s : MS) : Option ((Int32 × Int32 × MS) ⊕ (Int32 × MS)) :=
  if (s.1 5) ≤ x3 then (xit (some (x2, s))) else (chk (inb x3 40) (bnd (s.2 14 x3.toNatClampNeg) fun v1 => if v1 = x1 then (bd2 (f_Hb_billOf x3 s) fun v3 s4 => bnd (x2 + v3) fun v5 => bnd (x3 + (1 : Int32)) fun v6 => some (.inl (v5, v6, s4))) else (bnd (x3 + (1 : Int32)) fun v2 => some (.inl (x2, v2, s)))))
theorem Hb_owes_l4_w {l : Launch} {D : va_G} {cI cZ cJ : ClassId} {ad : Nat → Nat} (x1 x2 x3 : Int32) (s : MS) {Q : Int32 → MS → Prop} {Post : ((Int32 × Int32 × MS) ⊕ (Int32 × MS)) → Prop} (hR : ∀ (r9 : Int32) (s9 : MS), Post (.inr ((r9, s9))) → Q r9 s9) (hL4 : ∀ (z2 z3 : Int32) (s9 : MS), Post (.inl (z2, z3, s9)) → G (XX l D cI cZ cJ ad) "SmallHarbour" b_Hb_owes 4 (some .int) 4 4 [(0, .ref (ad 0)), (1, .int x1), (2, .int z2), (3, .int z3)] [] s9 Q) (h : Ok (Hb_owes_l4 x1 x2 x3 s) Post) : G (XX l D cI cZ cJ ad) "SmallHarbour" b_Hb_owes 4 (some .int) 4 4 [(0, .ref (ad 0)), (1, .int x1), (2, .int x2), (3, .int x3)] [] s Q := by
  unfold Hb_owes_l4 at h
  refine G_iload_n d_Hb_owes_4 rfl 3 rfl ?_
  refine G_aload_n d_Hb_owes_5 rfl 0 rfl ?_
  refine gx_Hb_stays d_Hb_owes_6 w_351 ?_
  refine gx_Stays_count d_Hb_owes_9 w_124 ?_
  refine G_icmp_ge (tgt := 42) d_Hb_owes_12 (by decide) (fun c => ?_) (fun c => ?_)
  · replace h := Ok_t c h
    replace h := Ok_xit h
    refine G_iload_n d_Hb_owes_42 rfl 2 rfl ?_
    exact G_iret rfl (vp_nar_int _) d_Hb_owes_43 (hR _ _ (Ok_some h))
  replace h := Ok_f c h
  refine G_aload_n d_Hb_owes_15 rfl 0 rfl ?_
  refine gx_Hb_stays d_Hb_owes_16 w_351 ?_
  refine gx_Stays_boat d_Hb_owes_19 w_116 ?_
  refine G_iload_n d_Hb_owes_22 rfl 3 rfl ?_
  refine lx_14 d_Hb_owes_23 (Ok_ld h).1 (fun v1 e => ?_)
  replace h := (Ok_ld h).2 v1 e
  clear e
  refine G_iload_n d_Hb_owes_24 rfl 1 rfl ?_
  refine G_icmp_ne (tgt := 36) d_Hb_owes_25 (by decide) (fun c => ?_) (fun c => ?_)
  · replace h := Ok_f c h
    refine G_iinc d_Hb_owes_36 3 rfl lt_iconst_1 rfl (Nat.le_of_ble_eq_true rfl) (fun x => [(3, .int x), (0, .ref (ad 0)), (1, .int x1), (2, .int x2)]) (fun _ => rfl) (fun v2 e => ?_)
    replace h := Ok_bnd h v2 e
    clear e
    refine G_goto (tgt := 4) d_Hb_owes_39 (by decide) ?_
    refine G_lv [1, 2, 3, 0] rfl ?_
    exact hL4 x2 v2 s (Ok_some h)
  replace h := Ok_t c h
  refine G_iload_n d_Hb_owes_28 rfl 2 rfl ?_
  refine G_aload_n d_Hb_owes_29 rfl 0 rfl ?_
  refine G_iload_n d_Hb_owes_30 rfl 3 rfl ?_
  refine G_callVi (st := [.int x2]) (As := [.int x3]) (b := ad 0) d_Hb_owes_31 mi_Hb_billOf w_612 0 rfl rfl mv_Hb_billOf rfl (Nat.le_of_ble_eq_true rfl) (by decide) (c_Hb_billOf x3 s (Ok_bd2 h)) (fun v3 s4 h hnv3 => ?_)
  refine G_iadd d_Hb_owes_34 ?_
  refine G_istore_n d_Hb_owes_35 rfl (Nat.le_of_ble_eq_true rfl) (fun x => [(2, .int x), (0, .ref (ad 0)), (1, .int x1), (3, .int x3)]) (fun _ => rfl) (fun v5 e => ?_)
  replace h := Ok_bnd h v5 e
  clear e
  refine G_iinc d_Hb_owes_36 3 rfl lt_iconst_1 rfl (Nat.le_of_ble_eq_true rfl) (fun x => [(3, .int x), (2, .int v5), (0, .ref (ad 0)), (1, .int x1)]) (fun _ => rfl) (fun v6 e => ?_)
  replace h := Ok_bnd h v6 e
  clear e
  refine G_goto (tgt := 4) d_Hb_owes_39 (by decide) ?_
  refine G_lv [2, 3, 1, 0] rfl ?_
  exact hL4 v5 v6 s4 (Ok_some h)
noncomputable def f_Hb_owes (a1 : Int32) (s : MS) : Option (Int32 × MS) :=
  loop (fun z => Hb_owes_l4 a1 z.1 z.2.1 z.2.2) ((0 : Int32), (0 : Int32), s)
theorem f_Hb_owes_w {l : Launch} {D : va_G} {cI cZ cJ : ClassId} {ad : Nat → Nat} (a1 : Int32) (s : MS) {Q : Int32 → MS → Prop} {Post : (Int32 × MS) → Prop} (hR : ∀ (r9 : Int32) (s9 : MS), Post ((r9, s9)) → Q r9 s9) (h : Ok (f_Hb_owes a1 s) Post) : G (XX l D cI cZ cJ ad) "SmallHarbour" b_Hb_owes 4 (some .int) 4 0 [(0, .ref (ad 0)), (1, .int a1)] [] s Q := by
  unfold f_Hb_owes at h
  refine G_iconst d_Hb_owes_0 lt_iconst_0 ?_
  refine G_istore_n d_Hb_owes_1 rfl (Nat.le_of_ble_eq_true rfl) (fun x => [(2, .int x), (0, .ref (ad 0)), (1, .int a1)]) (fun _ => rfl) (fun x e => ?_)
  subst e
  refine G_iconst d_Hb_owes_2 lt_iconst_0 ?_
  refine G_istore_n d_Hb_owes_3 rfl (Nat.le_of_ble_eq_true rfl) (fun x => [(3, .int x), (2, .int (0 : Int32)), (0, .ref (ad 0)), (1, .int a1)]) (fun _ => rfl) (fun x e => ?_)
  subst e
  refine G_lv [2, 3, 1, 0] rfl ?_
  exact G_loop (J := (fun z => G (XX l D cI cZ cJ ad) "SmallHarbour" b_Hb_owes 4 (some .int) 4 4 [(0, .ref (ad 0)), (1, .int a1), (2, .int (z.1)), (3, .int (z.2.1))] [] z.2.2 Q)) (fun z h => Hb_owes_l4_w a1 z.1 z.2.1 z.2.2 (Post := Sum.elim (fun z => G (XX l D cI cZ cJ ad) "SmallHarbour" b_Hb_owes 4 (some .int) 4 4 [(0, .ref (ad 0)), (1, .int a1), (2, .int (z.1)), (3, .int (z.2.1))] [] z.2.2 Q) _) hR (fun z2 z3 s9 h => h) h) ((0 : Int32), (0 : Int32), s) h
theorem c_Hb_owes {l : Launch} {D : va_G} {cI cZ cJ : ClassId} {ad : Nat → Nat} (a1 : Int32) (s : MS) {P : Int32 → MS → Prop} (h : Ok2 (f_Hb_owes a1 s) P) : Ct (XX l D cI cZ cJ ad) y_Hb_owes b_Hb_owes 4 (some .int) 4 [.ref (ad 0), .int a1] s (P) :=
  Ct.of mi_Hb_owes (Nat.le_of_ble_eq_true rfl) (f_Hb_owes_w a1 s (Post := fun q => P q.1 q.2) (fun _ _ h => h) (Ok2_ok h))
-- Reader_isDigit
noncomputable def f_Reader_isDigit (a1 : Int32) : Option Int32 :=
  if a1 < (48 : Int32) then (some (0 : Int32)) else (if (57 : Int32) < a1 then (some (0 : Int32)) else (some (1 : Int32)))
theorem f_Reader_isDigit_w {l : Launch} {D : va_G} {cI cZ cJ : ClassId} {ad : Nat → Nat} (a1 : Int32) (s : MS) {Q : Int32 → MS → Prop} {Post : Int32 → Prop} (hR : ∀ (r9 : Int32), Post (r9) → Q r9 s) (h : Ok (f_Reader_isDigit a1) Post) : G (XX l D cI cZ cJ ad) "SmallHarbour$Reader" b_Reader_isDigit 1 (some .boolean) 0 0 [(0, .int a1)] [] s Q := by
  unfold f_Reader_isDigit at h
  refine G_iload_n d_Reader_isDigit_0 rfl 0 rfl ?_
  refine G_bipush d_Reader_isDigit_1 lt_bipush_48 ?_
  refine G_icmp_lt (tgt := 16) d_Reader_isDigit_3 (by decide) (fun c => ?_) (fun c => ?_)
  · replace h := Ok_t c h
    refine G_iconst d_Reader_isDigit_16 lt_iconst_0 ?_
    exact G_iret rfl rfl d_Reader_isDigit_17 (hR _ (Ok_some h))
  replace h := Ok_f c h
  refine G_iload_n d_Reader_isDigit_6 rfl 0 rfl ?_
  refine G_bipush d_Reader_isDigit_7 lt_bipush_57 ?_
  refine G_icmp_gt (tgt := 16) d_Reader_isDigit_9 (by decide) (fun c => ?_) (fun c => ?_)
  · replace h := Ok_t c h
    refine G_iconst d_Reader_isDigit_16 lt_iconst_0 ?_
    exact G_iret rfl rfl d_Reader_isDigit_17 (hR _ (Ok_some h))
  replace h := Ok_f c h
  refine G_iconst d_Reader_isDigit_12 lt_iconst_1 ?_
  refine G_goto (tgt := 17) d_Reader_isDigit_13 (by decide) ?_
  exact G_iret rfl rfl d_Reader_isDigit_17 (hR _ (Ok_some h))
theorem c_Reader_isDigit {l : Launch} {D : va_G} {cI cZ cJ : ClassId} {ad : Nat → Nat} (a1 : Int32) (s : MS) {P : Int32 → Prop} (h : Ok (f_Reader_isDigit a1) P) : Ct (XX l D cI cZ cJ ad) y_Reader_isDigit b_Reader_isDigit 1 (some .boolean) 0 [.int a1] s (fun r9 s9 => s9 = s ∧ P r9) :=
  Ct.of mi_Reader_isDigit (Nat.le_of_ble_eq_true rfl) (f_Reader_isDigit_w a1 s (fun _ h => ⟨rfl, h⟩) h)
-- Reader_comeToNumber
noncomputable def Reader_comeToNumber_l11 (s : MS) : Option ((MS) ⊕ MS) :=
  if (s.1 18) ≤ (s.1 23) then (xit (some s)) else (chk (inb (s.1 23) 200) (bnd (s.2 37 (s.1 23).toNatClampNeg) fun v1 => (f_Reader_isDigit v1).bind fun v2 => if v2 = 0 then (xit (some s)) else (chk (inb (s.1 23) 200) (bnd (s.2 37 (s.1 23).toNatClampNeg) fun v3 => bnd (if (100000 : Int32) < ((((s.1 25) * (10 : Int32)) + v3) - (48 : Int32)) then (100000 : Int32) else ((((s.1 25) * (10 : Int32)) + v3) - (48 : Int32))) fun v4 => bnd (pf s 25 v4) fun s5 => bnd (pf s5 23 ((s5.1 23) + (1 : Int32))) fun s6 => some (.inl s6)))))
theorem Reader_comeToNumber_l11_w {l : Launch} {D : va_G} {cI cZ cJ : ClassId} {ad : Nat → Nat} (s : MS) {Q : Int32 → MS → Prop} {Post : ((MS) ⊕ MS) → Prop} (hR : ∀ (s9 : MS), Post (.inr (s9)) → Q 0 s9) (hL11 : ∀ (s9 : MS), Post (.inl s9) → G (XX l D cI cZ cJ ad) "SmallHarbour$Reader" b_Reader_comeToNumber 1 none 1 11 [(0, .ref (ad 10))] [] s9 Q) (h : Ok (Reader_comeToNumber_l11 s) Post) : G (XX l D cI cZ cJ ad) "SmallHarbour$Reader" b_Reader_comeToNumber 1 none 1 11 [(0, .ref (ad 10))] [] s Q := by
  unfold Reader_comeToNumber_l11 at h
  refine G_aload_n d_Reader_comeToNumber_11 rfl 0 rfl ?_
  refine gx_Reader_next d_Reader_comeToNumber_12 w_291 ?_
  refine G_aload_n d_Reader_comeToNumber_15 rfl 0 rfl ?_
  refine gx_Reader_tape d_Reader_comeToNumber_16 w_289 ?_
  refine gx_Tape_count d_Reader_comeToNumber_19 w_268 ?_
  refine G_icmp_ge (tgt := 88) d_Reader_comeToNumber_22 (by decide) (fun c => ?_) (fun c => ?_)
  · replace h := Ok_t c h
    replace h := Ok_xit h
    exact G_vret rfl d_Reader_comeToNumber_88 (hR _ (Ok_some h))
  replace h := Ok_f c h
  refine G_aload_n d_Reader_comeToNumber_25 rfl 0 rfl ?_
  refine gx_Reader_tape d_Reader_comeToNumber_26 w_289 ?_
  refine gx_Tape_bytes d_Reader_comeToNumber_29 w_266 ?_
  refine G_aload_n d_Reader_comeToNumber_32 rfl 0 rfl ?_
  refine gx_Reader_next d_Reader_comeToNumber_33 w_291 ?_
  refine lx_37 d_Reader_comeToNumber_36 (Ok_ld h).1 (fun v1 e => ?_)
  replace h := (Ok_ld h).2 v1 e
  clear e
  refine G_callSp (st := []) (As := [.int v1]) d_Reader_comeToNumber_37 mi_Reader_isDigit w_741 w_742 rfl (Nat.le_of_ble_eq_true rfl) (by decide) (c_Reader_isDigit v1 s (Ok_bind h)) (fun v2 h hnv2 => ?_)
  refine G_if_eq (tgt := 88) d_Reader_comeToNumber_40 (by decide) (fun c => ?_) (fun c => ?_)
  · replace h := Ok_t c h
    replace h := Ok_xit h
    exact G_vret rfl d_Reader_comeToNumber_88 (hR _ (Ok_some h))
  replace h := Ok_f c h
  refine G_aload_n d_Reader_comeToNumber_43 rfl 0 rfl ?_
  refine G_aload_n d_Reader_comeToNumber_44 rfl 0 rfl ?_
  refine gx_Reader_value d_Reader_comeToNumber_45 w_293 ?_
  refine G_bipush d_Reader_comeToNumber_48 lt_bipush_10 ?_
  refine G_imul d_Reader_comeToNumber_50 ?_
  refine G_aload_n d_Reader_comeToNumber_51 rfl 0 rfl ?_
  refine gx_Reader_tape d_Reader_comeToNumber_52 w_289 ?_
  refine gx_Tape_bytes d_Reader_comeToNumber_55 w_266 ?_
  refine G_aload_n d_Reader_comeToNumber_58 rfl 0 rfl ?_
  refine gx_Reader_next d_Reader_comeToNumber_59 w_291 ?_
  refine lx_37 d_Reader_comeToNumber_62 (Ok_ld h).1 (fun v3 e => ?_)
  replace h := (Ok_ld h).2 v3 e
  clear e
  refine G_iadd d_Reader_comeToNumber_63 ?_
  refine G_bipush d_Reader_comeToNumber_64 lt_bipush_48 ?_
  refine G_isub d_Reader_comeToNumber_66 ?_
  refine G_ldc d_Reader_comeToNumber_67 w_748 ?_
  refine G_min d_Reader_comeToNumber_69 w_749 w_451 w_15 w_452 (by decide) (Nat.le_of_ble_eq_true rfl) (G_topi (fun v4 e => ?_))
  replace h := Ok_bnd h v4 e
  clear e
  refine px_Reader_value d_Reader_comeToNumber_72 w_293 (fun s5 e => ?_)
  replace h := Ok_bnd h s5 e
  clear e
  refine G_aload_n d_Reader_comeToNumber_75 rfl 0 rfl ?_
  refine G_dup d_Reader_comeToNumber_76 rfl ?_
  refine gx_Reader_next d_Reader_comeToNumber_77 w_291 ?_
  refine G_iconst d_Reader_comeToNumber_80 lt_iconst_1 ?_
  refine G_iadd d_Reader_comeToNumber_81 ?_
  refine px_Reader_next d_Reader_comeToNumber_82 w_291 (fun s6 e => ?_)
  replace h := Ok_bnd h s6 e
  clear e
  refine G_goto (tgt := 11) d_Reader_comeToNumber_85 (by decide) ?_
  exact hL11 s6 (Ok_some h)
noncomputable def f_Reader_comeToNumber (s : MS) : Option MS :=
  bnd (pf s 24 (48 : Int32)) fun s1 => bnd (pf s1 25 (0 : Int32)) fun s2 => loop (fun z => Reader_comeToNumber_l11 z) s2
theorem f_Reader_comeToNumber_w {l : Launch} {D : va_G} {cI cZ cJ : ClassId} {ad : Nat → Nat} (s : MS) {Q : Int32 → MS → Prop} {Post : MS → Prop} (hR : ∀ (s9 : MS), Post (s9) → Q 0 s9) (h : Ok (f_Reader_comeToNumber s) Post) : G (XX l D cI cZ cJ ad) "SmallHarbour$Reader" b_Reader_comeToNumber 1 none 1 0 [(0, .ref (ad 10))] [] s Q := by
  unfold f_Reader_comeToNumber at h
  refine G_aload_n d_Reader_comeToNumber_0 rfl 0 rfl ?_
  refine G_bipush d_Reader_comeToNumber_1 lt_bipush_48 ?_
  refine px_Reader_kind d_Reader_comeToNumber_3 w_292 (fun s1 e => ?_)
  replace h := Ok_bnd h s1 e
  clear e
  refine G_aload_n d_Reader_comeToNumber_6 rfl 0 rfl ?_
  refine G_iconst d_Reader_comeToNumber_7 lt_iconst_0 ?_
  refine px_Reader_value d_Reader_comeToNumber_8 w_293 (fun s2 e => ?_)
  replace h := Ok_bnd h s2 e
  clear e
  exact G_loop (J := (fun z => G (XX l D cI cZ cJ ad) "SmallHarbour$Reader" b_Reader_comeToNumber 1 none 1 11 [(0, .ref (ad 10))] [] z Q)) (fun z h => Reader_comeToNumber_l11_w z (Post := Sum.elim (fun z => G (XX l D cI cZ cJ ad) "SmallHarbour$Reader" b_Reader_comeToNumber 1 none 1 11 [(0, .ref (ad 10))] [] z Q) _) hR (fun s9 h => h) h) s2 h
theorem c_Reader_comeToNumber {l : Launch} {D : va_G} {cI cZ cJ : ClassId} {ad : Nat → Nat} (s : MS) {P : MS → Prop} (h : Ok (f_Reader_comeToNumber  s) P) : Ct (XX l D cI cZ cJ ad) y_Reader_comeToNumber b_Reader_comeToNumber 1 none 1 [.ref (ad 10)] s (fun _ s9 => P s9) :=
  Ct.of mi_Reader_comeToNumber (Nat.le_of_ble_eq_true rfl) (f_Reader_comeToNumber_w  s (fun _ h => h) h)
-- Reader_isLetter
noncomputable def Reader_isLetter_j12 (x0 : Int32) : Option Int32 :=
  if x0 < (65 : Int32) then (some (0 : Int32)) else (if (90 : Int32) < x0 then (some (0 : Int32)) else (some (1 : Int32)))
theorem Reader_isLetter_j12_w {l : Launch} {D : va_G} {cI cZ cJ : ClassId} {ad : Nat → Nat} (x0 : Int32) (s : MS) {Q : Int32 → MS → Prop} {Post : Int32 → Prop} (hR : ∀ (r9 : Int32), Post (r9) → Q r9 s) (h : Ok (Reader_isLetter_j12 x0) Post) : G (XX l D cI cZ cJ ad) "SmallHarbour$Reader" b_Reader_isLetter 1 (some .boolean) 0 12 [(0, .int x0)] [] s Q := by
  unfold Reader_isLetter_j12 at h
  refine G_iload_n d_Reader_isLetter_12 rfl 0 rfl ?_
  refine G_bipush d_Reader_isLetter_13 lt_bipush_65 ?_
  refine G_icmp_lt (tgt := 28) d_Reader_isLetter_15 (by decide) (fun c => ?_) (fun c => ?_)
  · replace h := Ok_t c h
    refine G_iconst d_Reader_isLetter_28 lt_iconst_0 ?_
    exact G_iret rfl rfl d_Reader_isLetter_29 (hR _ (Ok_some h))
  replace h := Ok_f c h
  refine G_iload_n d_Reader_isLetter_18 rfl 0 rfl ?_
  refine G_bipush d_Reader_isLetter_19 lt_bipush_90 ?_
  refine G_icmp_gt (tgt := 28) d_Reader_isLetter_21 (by decide) (fun c => ?_) (fun c => ?_)
  · replace h := Ok_t c h
    refine G_iconst d_Reader_isLetter_28 lt_iconst_0 ?_
    exact G_iret rfl rfl d_Reader_isLetter_29 (hR _ (Ok_some h))
  replace h := Ok_f c h
  refine G_iconst d_Reader_isLetter_24 lt_iconst_1 ?_
  refine G_goto (tgt := 29) d_Reader_isLetter_25 (by decide) ?_
  exact G_iret rfl rfl d_Reader_isLetter_29 (hR _ (Ok_some h))
noncomputable def f_Reader_isLetter (a1 : Int32) : Option Int32 :=
  if a1 < (97 : Int32) then (Reader_isLetter_j12 a1) else (if a1 ≤ (122 : Int32) then (some (1 : Int32)) else (Reader_isLetter_j12 a1))
theorem f_Reader_isLetter_w {l : Launch} {D : va_G} {cI cZ cJ : ClassId} {ad : Nat → Nat} (a1 : Int32) (s : MS) {Q : Int32 → MS → Prop} {Post : Int32 → Prop} (hR : ∀ (r9 : Int32), Post (r9) → Q r9 s) (h : Ok (f_Reader_isLetter a1) Post) : G (XX l D cI cZ cJ ad) "SmallHarbour$Reader" b_Reader_isLetter 1 (some .boolean) 0 0 [(0, .int a1)] [] s Q := by
  unfold f_Reader_isLetter at h
  refine G_iload_n d_Reader_isLetter_0 rfl 0 rfl ?_
  refine G_bipush d_Reader_isLetter_1 lt_bipush_97 ?_
  refine G_icmp_lt (tgt := 12) d_Reader_isLetter_3 (by decide) (fun c => ?_) (fun c => ?_)
  · replace h := Ok_t c h
    exact Reader_isLetter_j12_w a1 s hR h
  replace h := Ok_f c h
  refine G_iload_n d_Reader_isLetter_6 rfl 0 rfl ?_
  refine G_bipush d_Reader_isLetter_7 lt_bipush_122 ?_
  refine G_icmp_le (tgt := 24) d_Reader_isLetter_9 (by decide) (fun c => ?_) (fun c => ?_)
  · replace h := Ok_t c h
    refine G_iconst d_Reader_isLetter_24 lt_iconst_1 ?_
    refine G_goto (tgt := 29) d_Reader_isLetter_25 (by decide) ?_
    exact G_iret rfl rfl d_Reader_isLetter_29 (hR _ (Ok_some h))
  replace h := Ok_f c h
  exact Reader_isLetter_j12_w a1 s hR h
theorem c_Reader_isLetter {l : Launch} {D : va_G} {cI cZ cJ : ClassId} {ad : Nat → Nat} (a1 : Int32) (s : MS) {P : Int32 → Prop} (h : Ok (f_Reader_isLetter a1) P) : Ct (XX l D cI cZ cJ ad) y_Reader_isLetter b_Reader_isLetter 1 (some .boolean) 0 [.int a1] s (fun r9 s9 => s9 = s ∧ P r9) :=
  Ct.of mi_Reader_isLetter (Nat.le_of_ble_eq_true rfl) (f_Reader_isLetter_w a1 s (fun _ h => ⟨rfl, h⟩) h)
