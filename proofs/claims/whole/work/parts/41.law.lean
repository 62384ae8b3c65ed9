def St_levels (I : MS → MS → Prop) : Prop := ∀ (a1 : Int32) (sx sm : MS), I sx sm → ∃ (r : Int32) (sx2 : MS) (sm2 : MS), f_Hb_levels a1 sx = some (r, sx2) ∧ f_Md_levels a1 sm = some (r, sm2) ∧ I sx2 sm2
def St_level (I : MS → MS → Prop) : Prop := ∀ (a1 a2 : Int32) (sx sm : MS), I sx sm → ∃ (r : Int32) (sx2 : MS) (sm2 : MS), f_Hb_level a1 a2 sx = some (r, sx2) ∧ f_Md_level a1 a2 sm = some (r, sm2) ∧ I sx2 sm2
def St_berth (I : MS → MS → Prop) : Prop := ∀ (a1 a2 : Int32) (sx sm : MS), I sx sm → ∃ (r : Int32) (sx2 : MS) (sm2 : MS), f_Hb_berth a1 a2 sx = some (r, sx2) ∧ f_Md_berth a1 a2 sm = some (r, sm2) ∧ I sx2 sm2
def St_boat (I : MS → MS → Prop) : Prop := ∀ (a1 a2 a3 a4 : Int32) (sx sm : MS), I sx sm → ∃ (r : Int32) (sx2 : MS) (sm2 : MS), f_Hb_boat a1 a2 a3 a4 sx = some (r, sx2) ∧ f_Md_boat a1 a2 a3 a4 sm = some (r, sm2) ∧ I sx2 sm2
def St_away (I : MS → MS → Prop) : Prop := ∀ (a1 a2 a3 : Int32) (sx sm : MS), I sx sm → ∃ (r : Int32) (sx2 : MS) (sm2 : MS), f_Hb_away a1 a2 a3 sx = some (r, sx2) ∧ f_Md_away a1 a2 a3 sm = some (r, sm2) ∧ I sx2 sm2
def St_stay (I : MS → MS → Prop) : Prop := ∀ (a1 a2 a3 : Int32) (sx sm : MS), I sx sm → ∃ (r : Int32) (sx2 : MS) (sm2 : MS), f_Hb_stay a1 a2 a3 sx = some (r, sx2) ∧ f_Md_stay a1 a2 a3 sm = some (r, sm2) ∧ I sx2 sm2
def St_leaves (I : MS → MS → Prop) : Prop := ∀ (a1 a2 : Int32) (sx sm : MS), I sx sm → ∃ (r : Int32) (sx2 : MS) (sm2 : MS), f_Hb_leaves a1 a2 sx = some (r, sx2) ∧ f_Md_leaves a1 a2 sm = some (r, sm2) ∧ I sx2 sm2
def St_home (I : MS → MS → Prop) : Prop := ∀ (a1 a2 : Int32) (sx sm : MS), I sx sm → ∃ (r : Int32) (sx2 : MS) (sm2 : MS), f_Hb_home a1 a2 sx = some (r, sx2) ∧ f_Md_home a1 a2 sm = some (r, sm2) ∧ I sx2 sm2
def St_moved (I : MS → MS → Prop) : Prop := ∀ (a1 a2 : Int32) (sx sm : MS), I sx sm → ∃ (r : Int32), f_Hb_moved a1 a2 sx = some r ∧ f_Md_moved a1 a2 sm = some r ∧ I sx sm
def St_stayOf (I : MS → MS → Prop) : Prop := ∀ (a1 a2 : Int32) (sx sm : MS), I sx sm → ∃ (r : Int32) (sx2 : MS) (sm2 : MS), f_Hb_stayOf a1 a2 sx = some (r, sx2) ∧ f_Md_stayOf a1 a2 sm = some (r, sm2) ∧ I sx2 sm2
def St_lies (I : MS → MS → Prop) : Prop := ∀ (a1 a2 : Int32) (sx sm : MS), I sx sm → ∃ (r : Int32), f_Hb_lies a1 a2 sx = some r ∧ f_Md_lies a1 a2 sm = some r ∧ I sx sm
def St_boatOf (I : MS → MS → Prop) : Prop := ∀ (a1 a2 : Int32) (sx sm : MS), I sx sm → ∃ (r : Int32), f_Hb_boatOf a1 a2 sx = some r ∧ f_Md_boatOf a1 a2 sm = some r ∧ I sx sm
def St_fits (I : MS → MS → Prop) : Prop := ∀ (a1 a2 a3 : Int32) (sx sm : MS), I sx sm → ∃ (r : Int32), f_Hb_fits a1 a2 a3 sx = some r ∧ f_Md_fits a1 a2 a3 sm = some r ∧ I sx sm
def St_hoist (I : MS → MS → Prop) : Prop := ∀ (a1 a2 a3 : Int32) (sx sm : MS), I sx sm → ∃ (r : Int32) (sx2 : MS) (sm2 : MS), f_Hb_hoist a1 a2 a3 sx = some (r, sx2) ∧ f_Md_hoist a1 a2 a3 sm = some (r, sm2) ∧ I sx2 sm2
def St_broken (I : MS → MS → Prop) : Prop := ∀ (a1 a2 : Int32) (sx sm : MS), (a2 = 0 ∨ a2 = 1) → I sx sm → ∃ (r : Int32) (sx2 : MS) (sm2 : MS), f_Hb_broken a1 a2 sx = some (r, sx2) ∧ f_Md_broken a1 a2 sm = some (r, sm2) ∧ I sx2 sm2
def St_lift (I : MS → MS → Prop) : Prop := ∀ (a1 a2 a3 : Int32) (sx sm : MS), I sx sm → ∃ (r : Int32) (sx2 : MS) (sm2 : MS), f_Hb_lift a1 a2 a3 sx = some (r, sx2) ∧ f_Md_lift a1 a2 a3 sm = some (r, sm2) ∧ I sx2 sm2
def St_lifted (I : MS → MS → Prop) : Prop := ∀ (a1 : Int32) (sx sm : MS), I sx sm → ∃ (r : Int32) (sm2 : MS), f_Hb_lifted a1 sx = some r ∧ f_Md_lifted a1 sm = some (r, sm2) ∧ I sx sm2
def St_shed (I : MS → MS → Prop) : Prop := ∀ (a1 a2 : Int32) (sx sm : MS), I sx sm → ∃ (r : Int32) (sx2 : MS) (sm2 : MS), f_Hb_shed a1 a2 sx = some (r, sx2) ∧ f_Md_shed a1 a2 sm = some (r, sm2) ∧ I sx2 sm2
def St_winter (I : MS → MS → Prop) : Prop := ∀ (a1 a2 : Int32) (sx sm : MS), I sx sm → ∃ (r : Int32) (sx2 : MS) (sm2 : MS), f_Hb_winter a1 a2 sx = some (r, sx2) ∧ f_Md_winter a1 a2 sm = some (r, sm2) ∧ I sx2 sm2
def St_moves (I : MS → MS → Prop) : Prop := ∀ (sx sm : MS), I sx sm → ∃ (r : Int32) (sm2 : MS), f_Hb_moves  sx = some r ∧ f_Md_moves  sm = some (r, sm2) ∧ I sx sm2
def St_lane (I : MS → MS → Prop) : Prop := ∀ (a1 : Int32) (sx sm : MS), I sx sm → ∃ (r : Int32) (sm2 : MS), f_Hb_lane a1 sx = some r ∧ f_Md_lane a1 sm = some (r, sm2) ∧ I sx sm2
def St_feed (I : MS → MS → Prop) : Prop := ∀ (a1 a2 a3 a4 a5 : Int32) (sx sm : MS), I sx sm → ∃ (r : Int32) (sx2 : MS) (sm2 : MS), f_Hb_feed a1 a2 a3 a4 a5 sx = some (r, sx2) ∧ f_Md_feed a1 a2 a3 a4 a5 sm = some (r, sm2) ∧ I sx2 sm2
def St_end (I : MS → MS → Prop) : Prop := ∀ (a1 : Int32) (sx sm : MS), I sx sm → ∃ (r : Int32) (sx2 : MS) (sm2 : MS), f_Hb_end a1 sx = some (r, sx2) ∧ f_Md_end a1 sm = some (r, sm2) ∧ I sx2 sm2
def St_rule (I : MS → MS → Prop) : Prop := ∀ (a1 : Int32) (sx sm : MS), I sx sm → ∃ (r : Int32) (sx2 : MS) (sm2 : MS), f_Hb_rule a1 sx = some (r, sx2) ∧ f_Md_rule a1 sm = some (r, sm2) ∧ I sx2 sm2
def St_fault (I : MS → MS → Prop) : Prop := ∀ (a1 : Int32) (sx sm : MS), I sx sm → ∃ (r : Int32), f_Hb_fault a1 sx = some r ∧ f_Md_fault a1 sm = some r ∧ I sx sm
def St_says (I : MS → MS → Prop) : Prop := ∀ (a1 a2 a3 a4 : Int32) (sx sm : MS), I sx sm → ∃ (r : Int32) (sx2 : MS) (sm2 : MS), f_Hb_says a1 a2 a3 a4 sx = some (r, sx2) ∧ f_Md_says a1 a2 a3 a4 sm = some (r, sm2) ∧ I sx2 sm2
def St_owes (I : MS → MS → Prop) : Prop := ∀ (a1 : Int32) (sx sm : MS), I sx sm → ∃ (r : Int32) (sx2 : MS) (sm2 : MS), f_Hb_owes a1 sx = some (r, sx2) ∧ f_Md_owes a1 sm = some (r, sm2) ∧ I sx2 sm2
def St_about (I : MS → MS → Prop) : Prop := ∀ (a1 : Int32) (sx sm : MS), I sx sm → ∃ (r : Int32), f_Hb_about a1 sx = some r ∧ f_Md_about a1 sm = some r ∧ I sx sm
theorem law_levels {I : MS → MS → Prop} (hI : St_levels I) {l : Launch} {D : va_G} {cI cZ cJ : ClassId} {ax am : Nat → Nat} {p : Program} {e : Env} {s : State} {m : MethodId} {below : List Frame} {meth : Method} {c : Code} {b L : Nat} {xs : Nat → Int32} (hC : LC p s m meth c b L xs D cI cZ cJ) (x3 a1 a2 a3 a4 a5 : Int32) (h1 : vp_in (x3 + 1) L) (h2 : vp_in (x3 + 2) L) (h3 : vp_in (x3 + 3) L) (h4 : vp_in (x3 + 4) L) (h5 : vp_in (x3 + 5) L) (e1 : xs (x3 + 1).toNatClampNeg = a1) (e2 : xs (x3 + 2).toNatClampNeg = a2) (e3 : xs (x3 + 3).toNatClampNeg = a3) (e4 : xs (x3 + 4).toNatClampNeg = a4) (e5 : xs (x3 + 5).toNatClampNeg = a5) (sx sm : MS) (hi : I sx sm) (kk : ∀ sx2 sm2, I sx2 sm2 → GL l D cI cZ cJ ax am p e s m below meth c b 1120 [(0, .ref b), (1, .ref (ax 0)), (2, .ref (am 0)), (3, .int x3)] [] sx2 sm2) : GL l D cI cZ cJ ax am p e s m below meth c b 160 [(0, .ref b), (1, .ref (ax 0)), (2, .ref (am 0)), (3, .int x3)] [] sx sm := by
  obtain ⟨r, sx2, sm2, hx1, hm1, hi2⟩ := hI a1 sx sm hi
  refine L_aload_n hC d_law_160 rfl 1 rfl ?_
  refine L_aload_n hC d_law_161 rfl 0 rfl ?_
  refine L_iload_n hC d_law_162 rfl 3 rfl ?_
  refine L_iconst hC d_law_163 lt_iconst_1 ?_
  refine L_iadd hC d_law_164 ?_
  refine L_sld hC d_law_165 h1 e1 ?_
  refine L_callX (As := [.int a1]) (st := []) hC d_law_166 mi_Hb_levels w_387 rfl rfl mv_Hb_levels rfl (Nat.le_of_ble_eq_true rfl) (by decide) (c_Hb_levels a1 sx (P := fun q z => q = r ∧ z = sx2) ⟨r, sx2, hx1, rfl, rfl⟩) (fun v z hq => ?_)
  obtain ⟨hq1, hq2⟩ := hq
  rw [hq1, hq2]
  refine L_aload_n hC d_law_169 rfl 2 rfl ?_
  refine L_aload_n hC d_law_170 rfl 0 rfl ?_
  refine L_iload_n hC d_law_171 rfl 3 rfl ?_
  refine L_iconst hC d_law_172 lt_iconst_1 ?_
  refine L_iadd hC d_law_173 ?_
  refine L_sld hC d_law_174 h1 e1 ?_
  refine L_callM (As := [.int a1]) (st := [.int r]) hC d_law_175 mi_Md_levels w_1041 rfl rfl mv_Md_levels rfl (Nat.le_of_ble_eq_true rfl) (by decide) (c_Md_levels a1 sm (P := fun q z => q = r ∧ z = sm2) ⟨r, sm2, hm1, rfl, rfl⟩) (fun v z hq => ?_)
  obtain ⟨hq1, hq2⟩ := hq
  rw [hq1, hq2]
  refine L_icmp_eq (tgt := 1120) hC d_law_178 (by decide) (fun _ => ?_) (fun h9 => absurd rfl h9)
  exact kk _ _ hi2
theorem law_level {I : MS → MS → Prop} (hI : St_level I) {l : Launch} {D : va_G} {cI cZ cJ : ClassId} {ax am : Nat → Nat} {p : Program} {e : Env} {s : State} {m : MethodId} {below : List Frame} {meth : Method} {c : Code} {b L : Nat} {xs : Nat → Int32} (hC : LC p s m meth c b L xs D cI cZ cJ) (x3 a1 a2 a3 a4 a5 : Int32) (h1 : vp_in (x3 + 1) L) (h2 : vp_in (x3 + 2) L) (h3 : vp_in (x3 + 3) L) (h4 : vp_in (x3 + 4) L) (h5 : vp_in (x3 + 5) L) (e1 : xs (x3 + 1).toNatClampNeg = a1) (e2 : xs (x3 + 2).toNatClampNeg = a2) (e3 : xs (x3 + 3).toNatClampNeg = a3) (e4 : xs (x3 + 4).toNatClampNeg = a4) (e5 : xs (x3 + 5).toNatClampNeg = a5) (sx sm : MS) (hi : I sx sm) (kk : ∀ sx2 sm2, I sx2 sm2 → GL l D cI cZ cJ ax am p e s m below meth c b 1120 [(0, .ref b), (1, .ref (ax 0)), (2, .ref (am 0)), (3, .int x3)] [] sx2 sm2) : GL l D cI cZ cJ ax am p e s m below meth c b 183 [(0, .ref b), (1, .ref (ax 0)), (2, .ref (am 0)), (3, .int x3)] [] sx sm := by
  obtain ⟨r, sx2, sm2, hx1, hm1, hi2⟩ := hI a1 a2 sx sm hi
  refine L_aload_n hC d_law_183 rfl 1 rfl ?_
  refine L_aload_n hC d_law_184 rfl 0 rfl ?_
  refine L_iload_n hC d_law_185 rfl 3 rfl ?_
  refine L_iconst hC d_law_186 lt_iconst_1 ?_
  refine L_iadd hC d_law_187 ?_
  refine L_sld hC d_law_188 h1 e1 ?_
  refine L_aload_n hC d_law_189 rfl 0 rfl ?_
  refine L_iload_n hC d_law_190 rfl 3 rfl ?_
  refine L_iconst hC d_law_191 lt_iconst_2 ?_
  refine L_iadd hC d_law_192 ?_
  refine L_sld hC d_law_193 h2 e2 ?_
  refine L_callX (As := [.int a1, .int a2]) (st := []) hC d_law_194 mi_Hb_level w_406 rfl rfl mv_Hb_level rfl (Nat.le_of_ble_eq_true rfl) (by decide) (c_Hb_level a1 a2 sx (P := fun q z => q = r ∧ z = sx2) ⟨r, sx2, hx1, rfl, rfl⟩) (fun v z hq => ?_)
  obtain ⟨hq1, hq2⟩ := hq
  rw [hq1, hq2]
  refine L_aload_n hC d_law_197 rfl 2 rfl ?_
  refine L_aload_n hC d_law_198 rfl 0 rfl ?_
  refine L_iload_n hC d_law_199 rfl 3 rfl ?_
  refine L_iconst hC d_law_200 lt_iconst_1 ?_
  refine L_iadd hC d_law_201 ?_
  refine L_sld hC d_law_202 h1 e1 ?_
  refine L_aload_n hC d_law_203 rfl 0 rfl ?_
  refine L_iload_n hC d_law_204 rfl 3 rfl ?_
  refine L_iconst hC d_law_205 lt_iconst_2 ?_
  refine L_iadd hC d_law_206 ?_
  refine L_sld hC d_law_207 h2 e2 ?_
  refine L_callM (As := [.int a1, .int a2]) (st := [.int r]) hC d_law_208 mi_Md_level w_1052 rfl rfl mv_Md_level rfl (Nat.le_of_ble_eq_true rfl) (by decide) (c_Md_level a1 a2 sm (P := fun q z => q = r ∧ z = sm2) ⟨r, sm2, hm1, rfl, rfl⟩) (fun v z hq => ?_)
  obtain ⟨hq1, hq2⟩ := hq
  rw [hq1, hq2]
  refine L_icmp_eq (tgt := 1120) hC d_law_211 (by decide) (fun _ => ?_) (fun h9 => absurd rfl h9)
  exact kk _ _ hi2
theorem law_berth {I : MS → MS → Prop} (hI : St_berth I) {l : Launch} {D : va_G} {cI cZ cJ : ClassId} {ax am : Nat → Nat} {p : Program} {e : Env} {s : State} {m : MethodId} {below : List Frame} {meth : Method} {c : Code} {b L : Nat} {xs : Nat → Int32} (hC : LC p s m meth c b L xs D cI cZ cJ) (x3 a1 a2 a3 a4 a5 : Int32) (h1 : vp_in (x3 + 1) L) (h2 : vp_in (x3 + 2) L) (h3 : vp_in (x3 + 3) L) (h4 : vp_in (x3 + 4) L) (h5 : vp_in (x3 + 5) L) (e1 : xs (x3 + 1).toNatClampNeg = a1) (e2 : xs (x3 + 2).toNatClampNeg = a2) (e3 : xs (x3 + 3).toNatClampNeg = a3) (e4 : xs (x3 + 4).toNatClampNeg = a4) (e5 : xs (x3 + 5).toNatClampNeg = a5) (sx sm : MS) (hi : I sx sm) (kk : ∀ sx2 sm2, I sx2 sm2 → GL l D cI cZ cJ ax am p e s m below meth c b 1120 [(0, .ref b), (1, .ref (ax 0)), (2, .ref (am 0)), (3, .int x3)] [] sx2 sm2) : GL l D cI cZ cJ ax am p e s m below meth c b 216 [(0, .ref b), (1, .ref (ax 0)), (2, .ref (am 0)), (3, .int x3)] [] sx sm := by
  obtain ⟨r, sx2, sm2, hx1, hm1, hi2⟩ := hI a1 a2 sx sm hi
  refine L_aload_n hC d_law_216 rfl 1 rfl ?_
  refine L_aload_n hC d_law_217 rfl 0 rfl ?_
  refine L_iload_n hC d_law_218 rfl 3 rfl ?_
  refine L_iconst hC d_law_219 lt_iconst_1 ?_
  refine L_iadd hC d_law_220 ?_
  refine L_sld hC d_law_221 h1 e1 ?_
  refine L_aload_n hC d_law_222 rfl 0 rfl ?_
  refine L_iload_n hC d_law_223 rfl 3 rfl ?_
  refine L_iconst hC d_law_224 lt_iconst_2 ?_
  refine L_iadd hC d_law_225 ?_
  refine L_sld hC d_law_226 h2 e2 ?_
  refine L_callX (As := [.int a1, .int a2]) (st := []) hC d_law_227 mi_Hb_berth w_414 rfl rfl mv_Hb_berth rfl (Nat.le_of_ble_eq_true rfl) (by decide) (c_Hb_berth a1 a2 sx (P := fun q z => q = r ∧ z = sx2) ⟨r, sx2, hx1, rfl, rfl⟩) (fun v z hq => ?_)
  obtain ⟨hq1, hq2⟩ := hq
  rw [hq1, hq2]
  refine L_aload_n hC d_law_230 rfl 2 rfl ?_
  refine L_aload_n hC d_law_231 rfl 0 rfl ?_
  refine L_iload_n hC d_law_232 rfl 3 rfl ?_
  refine L_iconst hC d_law_233 lt_iconst_1 ?_
  refine L_iadd hC d_law_234 ?_
  refine L_sld hC d_law_235 h1 e1 ?_
  refine L_aload_n hC d_law_236 rfl 0 rfl ?_
  refine L_iload_n hC d_law_237 rfl 3 rfl ?_
  refine L_iconst hC d_law_238 lt_iconst_2 ?_
  refine L_iadd hC d_law_239 ?_
  refine L_sld hC d_law_240 h2 e2 ?_
  refine L_callM (As := [.int a1, .int a2]) (st := [.int r]) hC d_law_241 mi_Md_berth w_1056 rfl rfl mv_Md_berth rfl (Nat.le_of_ble_eq_true rfl) (by decide) (c_Md_berth a1 a2 sm (P := fun q z => q = r ∧ z = sm2) ⟨r, sm2, hm1, rfl, rfl⟩) (fun v z hq => ?_)
  obtain ⟨hq1, hq2⟩ := hq
  rw [hq1, hq2]
  refine L_icmp_eq (tgt := 1120) hC d_law_244 (by decide) (fun _ => ?_) (fun h9 => absurd rfl h9)
  exact kk _ _ hi2
theorem law_boat {I : MS → MS → Prop} (hI : St_boat I) {l : Launch} {D : va_G} {cI cZ cJ : ClassId} {ax am : Nat → Nat} {p : Program} {e : Env} {s : State} {m : MethodId} {below : List Frame} {meth : Method} {c : Code} {b L : Nat} {xs : Nat → Int32} (hC : LC p s m meth c b L xs D cI cZ cJ) (x3 a1 a2 a3 a4 a5 : Int32) (h1 : vp_in (x3 + 1) L) (h2 : vp_in (x3 + 2) L) (h3 : vp_in (x3 + 3) L) (h4 : vp_in (x3 + 4) L) (h5 : vp_in (x3 + 5) L) (e1 : xs (x3 + 1).toNatClampNeg = a1) (e2 : xs (x3 + 2).toNatClampNeg = a2) (e3 : xs (x3 + 3).toNatClampNeg = a3) (e4 : xs (x3 + 4).toNatClampNeg = a4) (e5 : xs (x3 + 5).toNatClampNeg = a5) (sx sm : MS) (hi : I sx sm) (kk : ∀ sx2 sm2, I sx2 sm2 → GL l D cI cZ cJ ax am p e s m below meth c b 1120 [(0, .ref b), (1, .ref (ax 0)), (2, .ref (am 0)), (3, .int x3)] [] sx2 sm2) : GL l D cI cZ cJ ax am p e s m below meth c b 249 [(0, .ref b), (1, .ref (ax 0)), (2, .ref (am 0)), (3, .int x3)] [] sx sm := by
  obtain ⟨r, sx2, sm2, hx1, hm1, hi2⟩ := hI a1 a2 a3 a4 sx sm hi
  refine L_aload_n hC d_law_249 rfl 1 rfl ?_
  refine L_aload_n hC d_law_250 rfl 0 rfl ?_
  refine L_iload_n hC d_law_251 rfl 3 rfl ?_
  refine L_iconst hC d_law_252 lt_iconst_1 ?_
  refine L_iadd hC d_law_253 ?_
  refine L_sld hC d_law_254 h1 e1 ?_
  refine L_aload_n hC d_law_255 rfl 0 rfl ?_
  refine L_iload_n hC d_law_256 rfl 3 rfl ?_
  refine L_iconst hC d_law_257 lt_iconst_2 ?_
  refine L_iadd hC d_law_258 ?_
  refine L_sld hC d_law_259 h2 e2 ?_
  refine L_aload_n hC d_law_260 rfl 0 rfl ?_
  refine L_iload_n hC d_law_261 rfl 3 rfl ?_
  refine L_iconst hC d_law_262 lt_iconst_3 ?_
  refine L_iadd hC d_law_263 ?_
  refine L_sld hC d_law_264 h3 e3 ?_
  refine L_aload_n hC d_law_265 rfl 0 rfl ?_
  refine L_iload_n hC d_law_266 rfl 3 rfl ?_
  refine L_iconst hC d_law_267 lt_iconst_4 ?_
  refine L_iadd hC d_law_268 ?_
  refine L_sld hC d_law_269 h4 e4 ?_
  refine L_callX (As := [.int a1, .int a2, .int a3, .int a4]) (st := []) hC d_law_270 mi_Hb_boat w_425 rfl rfl mv_Hb_boat rfl (Nat.le_of_ble_eq_true rfl) (by decide) (c_Hb_boat a1 a2 a3 a4 sx (P := fun q z => q = r ∧ z = sx2) ⟨r, sx2, hx1, rfl, rfl⟩) (fun v z hq => ?_)
  obtain ⟨hq1, hq2⟩ := hq
  rw [hq1, hq2]
  refine L_aload_n hC d_law_273 rfl 2 rfl ?_
  refine L_aload_n hC d_law_274 rfl 0 rfl ?_
  refine L_iload_n hC d_law_275 rfl 3 rfl ?_
  refine L_iconst hC d_law_276 lt_iconst_1 ?_
  refine L_iadd hC d_law_277 ?_
  refine L_sld hC d_law_278 h1 e1 ?_
  refine L_aload_n hC d_law_279 rfl 0 rfl ?_
  refine L_iload_n hC d_law_280 rfl 3 rfl ?_
  refine L_iconst hC d_law_281 lt_iconst_2 ?_
  refine L_iadd hC d_law_282 ?_
  refine L_sld hC d_law_283 h2 e2 ?_
  refine L_aload_n hC d_law_284 rfl 0 rfl ?_
  refine L_iload_n hC d_law_285 rfl 3 rfl ?_
  refine L_iconst hC d_law_286 lt_iconst_3 ?_
  refine L_iadd hC d_law_287 ?_
  refine L_sld hC d_law_288 h3 e3 ?_
  refine L_aload_n hC d_law_289 rfl 0 rfl ?_
  refine L_iload_n hC d_law_290 rfl 3 rfl ?_
  refine L_iconst hC d_law_291 lt_iconst_4 ?_
  refine L_iadd hC d_law_292 ?_
  refine L_sld hC d_law_293 h4 e4 ?_
  refine L_callM (As := [.int a1, .int a2, .int a3, .int a4]) (st := [.int r]) hC d_law_294 mi_Md_boat w_1060 rfl rfl mv_Md_boat rfl (Nat.le_of_ble_eq_true rfl) (by decide) (c_Md_boat a1 a2 a3 a4 sm (P := fun q z => q = r ∧ z = sm2) ⟨r, sm2, hm1, rfl, rfl⟩) (fun v z hq => ?_)
  obtain ⟨hq1, hq2⟩ := hq
  rw [hq1, hq2]
  refine L_icmp_eq (tgt := 1120) hC d_law_297 (by decide) (fun _ => ?_) (fun h9 => absurd rfl h9)
  exact kk _ _ hi2
theorem law_away {I : MS → MS → Prop} (hI : St_away I) {l : Launch} {D : va_G} {cI cZ cJ : ClassId} {ax am : Nat → Nat} {p : Program} {e : Env} {s : State} {m : MethodId} {below : List Frame} {meth : Method} {c : Code} {b L : Nat} {xs : Nat → Int32} (hC : LC p s m meth c b L xs D cI cZ cJ) (x3 a1 a2 a3 a4 a5 : Int32) (h1 : vp_in (x3 + 1) L) (h2 : vp_in (x3 + 2) L) (h3 : vp_in (x3 + 3) L) (h4 : vp_in (x3 + 4) L) (h5 : vp_in (x3 + 5) L) (e1 : xs (x3 + 1).toNatClampNeg = a1) (e2 : xs (x3 + 2).toNatClampNeg = a2) (e3 : xs (x3 + 3).toNatClampNeg = a3) (e4 : xs (x3 + 4).toNatClampNeg = a4) (e5 : xs (x3 + 5).toNatClampNeg = a5) (sx sm : MS) (hi : I sx sm) (kk : ∀ sx2 sm2, I sx2 sm2 → GL l D cI cZ cJ ax am p e s m below meth c b 1120 [(0, .ref b), (1, .ref (ax 0)), (2, .ref (am 0)), (3, .int x3)] [] sx2 sm2) : GL l D cI cZ cJ ax am p e s m below meth c b 302 [(0, .ref b), (1, .ref (ax 0)), (2, .ref (am 0)), (3, .int x3)] [] sx sm := by
  obtain ⟨r, sx2, sm2, hx1, hm1, hi2⟩ := hI a1 a2 a3 sx sm hi
  refine L_aload_n hC d_law_302 rfl 1 rfl ?_
  refine L_aload_n hC d_law_303 rfl 0 rfl ?_
  refine L_iload_n hC d_law_304 rfl 3 rfl ?_
  refine L_iconst hC d_law_305 lt_iconst_1 ?_
  refine L_iadd hC d_law_306 ?_
  refine L_sld hC d_law_307 h1 e1 ?_
  refine L_aload_n hC d_law_308 rfl 0 rfl ?_
  refine L_iload_n hC d_law_309 rfl 3 rfl ?_
  refine L_iconst hC d_law_310 lt_iconst_2 ?_
  refine L_iadd hC d_law_311 ?_
  refine L_sld hC d_law_312 h2 e2 ?_
  refine L_aload_n hC d_law_313 rfl 0 rfl ?_
  refine L_iload_n hC d_law_314 rfl 3 rfl ?_
  refine L_iconst hC d_law_315 lt_iconst_3 ?_
  refine L_iadd hC d_law_316 ?_
  refine L_sld hC d_law_317 h3 e3 ?_
  refine L_callX (As := [.int a1, .int a2, .int a3]) (st := []) hC d_law_318 mi_Hb_away w_508 rfl rfl mv_Hb_away rfl (Nat.le_of_ble_eq_true rfl) (by decide) (c_Hb_away a1 a2 a3 sx (P := fun q z => q = r ∧ z = sx2) ⟨r, sx2, hx1, rfl, rfl⟩) (fun v z hq => ?_)
  obtain ⟨hq1, hq2⟩ := hq
  rw [hq1, hq2]
  refine L_aload_n hC d_law_321 rfl 2 rfl ?_
  refine L_aload_n hC d_law_322 rfl 0 rfl ?_
  refine L_iload_n hC d_law_323 rfl 3 rfl ?_
  refine L_iconst hC d_law_324 lt_iconst_1 ?_
  refine L_iadd hC d_law_325 ?_
  refine L_sld hC d_law_326 h1 e1 ?_
  refine L_aload_n hC d_law_327 rfl 0 rfl ?_
  refine L_iload_n hC d_law_328 rfl 3 rfl ?_
  refine L_iconst hC d_law_329 lt_iconst_2 ?_
  refine L_iadd hC d_law_330 ?_
  refine L_sld hC d_law_331 h2 e2 ?_
  refine L_aload_n hC d_law_332 rfl 0 rfl ?_
  refine L_iload_n hC d_law_333 rfl 3 rfl ?_
  refine L_iconst hC d_law_334 lt_iconst_3 ?_
  refine L_iadd hC d_law_335 ?_
  refine L_sld hC d_law_336 h3 e3 ?_
  refine L_callM (As := [.int a1, .int a2, .int a3]) (st := [.int r]) hC d_law_337 mi_Md_away w_1072 rfl rfl mv_Md_away rfl (Nat.le_of_ble_eq_true rfl) (by decide) (c_Md_away a1 a2 a3 sm (P := fun q z => q = r ∧ z = sm2) ⟨r, sm2, hm1, rfl, rfl⟩) (fun v z hq => ?_)
  obtain ⟨hq1, hq2⟩ := hq
  rw [hq1, hq2]
  refine L_icmp_eq (tgt := 1120) hC d_law_340 (by decide) (fun _ => ?_) (fun h9 => absurd rfl h9)
  exact kk _ _ hi2
theorem law_stay {I : MS → MS → Prop} (hI : St_stay I) {l : Launch} {D : va_G} {cI cZ cJ : ClassId} {ax am : Nat → Nat} {p : Program} {e : Env} {s : State} {m : MethodId} {below : List Frame} {meth : Method} {c : Code} {b L : Nat} {xs : Nat → Int32} (hC : LC p s m meth c b L xs D cI cZ cJ) (x3 a1 a2 a3 a4 a5 : Int32) (h1 : vp_in (x3 + 1) L) (h2 : vp_in (x3 + 2) L) (h3 : vp_in (x3 + 3) L) (h4 : vp_in (x3 + 4) L) (h5 : vp_in (x3 + 5) L) (e1 : xs (x3 + 1).toNatClampNeg = a1) (e2 : xs (x3 + 2).toNatClampNeg = a2) (e3 : xs (x3 + 3).toNatClampNeg = a3) (e4 : xs (x3 + 4).toNatClampNeg = a4) (e5 : xs (x3 + 5).toNatClampNeg = a5) (sx sm : MS) (hi : I sx sm) (kk : ∀ sx2 sm2, I sx2 sm2 → GL l D cI cZ cJ ax am p e s m below meth c b 1120 [(0, .ref b), (1, .ref (ax 0)), (2, .ref (am 0)), (3, .int x3)] [] sx2 sm2) : GL l D cI cZ cJ ax am p e s m below meth c b 345 [(0, .ref b), (1, .ref (ax 0)), (2, .ref (am 0)), (3, .int x3)] [] sx sm := by
  obtain ⟨r, sx2, sm2, hx1, hm1, hi2⟩ := hI a1 a2 a3 sx sm hi
  refine L_aload_n hC d_law_345 rfl 1 rfl ?_
  refine L_aload_n hC d_law_346 rfl 0 rfl ?_
  refine L_iload_n hC d_law_347 rfl 3 rfl ?_
  refine L_iconst hC d_law_348 lt_iconst_1 ?_
  refine L_iadd hC d_law_349 ?_
  refine L_sld hC d_law_350 h1 e1 ?_
  refine L_aload_n hC d_law_351 rfl 0 rfl ?_
  refine L_iload_n hC d_law_352 rfl 3 rfl ?_
  refine L_iconst hC d_law_353 lt_iconst_2 ?_
  refine L_iadd hC d_law_354 ?_
  refine L_sld hC d_law_355 h2 e2 ?_
  refine L_aload_n hC d_law_356 rfl 0 rfl ?_
  refine L_iload_n hC d_law_357 rfl 3 rfl ?_
  refine L_iconst hC d_law_358 lt_iconst_3 ?_
  refine L_iadd hC d_law_359 ?_
  refine L_sld hC d_law_360 h3 e3 ?_
  refine L_callX (As := [.int a1, .int a2, .int a3]) (st := []) hC d_law_361 mi_Hb_stay w_519 rfl rfl mv_Hb_stay rfl (Nat.le_of_ble_eq_true rfl) (by decide) (c_Hb_stay a1 a2 a3 sx (P := fun q z => q = r ∧ z = sx2) ⟨r, sx2, hx1, rfl, rfl⟩) (fun v z hq => ?_)
  obtain ⟨hq1, hq2⟩ := hq
  rw [hq1, hq2]
  refine L_aload_n hC d_law_364 rfl 2 rfl ?_
  refine L_aload_n hC d_law_365 rfl 0 rfl ?_
  refine L_iload_n hC d_law_366 rfl 3 rfl ?_
  refine L_iconst hC d_law_367 lt_iconst_1 ?_
  refine L_iadd hC d_law_368 ?_
  refine L_sld hC d_law_369 h1 e1 ?_
  refine L_aload_n hC d_law_370 rfl 0 rfl ?_
  refine L_iload_n hC d_law_371 rfl 3 rfl ?_
  refine L_iconst hC d_law_372 lt_iconst_2 ?_
  refine L_iadd hC d_law_373 ?_
  refine L_sld hC d_law_374 h2 e2 ?_
  refine L_aload_n hC d_law_375 rfl 0 rfl ?_
  refine L_iload_n hC d_law_376 rfl 3 rfl ?_
  refine L_iconst hC d_law_377 lt_iconst_3 ?_
  refine L_iadd hC d_law_378 ?_
  refine L_sld hC d_law_379 h3 e3 ?_
  refine L_callM (As := [.int a1, .int a2, .int a3]) (st := [.int r]) hC d_law_380 mi_Md_stay w_1084 rfl rfl mv_Md_stay rfl (Nat.le_of_ble_eq_true rfl) (by decide) (c_Md_stay a1 a2 a3 sm (P := fun q z => q = r ∧ z = sm2) ⟨r, sm2, hm1, rfl, rfl⟩) (fun v z hq => ?_)
  obtain ⟨hq1, hq2⟩ := hq
  rw [hq1, hq2]
  refine L_icmp_eq (tgt := 1120) hC d_law_383 (by decide) (fun _ => ?_) (fun h9 => absurd rfl h9)
  exact kk _ _ hi2
theorem law_leaves {I : MS → MS → Prop} (hI : St_leaves I) {l : Launch} {D : va_G} {cI cZ cJ : ClassId} {ax am : Nat → Nat} {p : Program} {e : Env} {s : State} {m : MethodId} {below : List Frame} {meth : Method} {c : Code} {b L : Nat} {xs : Nat → Int32} (hC : LC p s m meth c b L xs D cI cZ cJ) (x3 a1 a2 a3 a4 a5 : Int32) (h1 : vp_in (x3 + 1) L) (h2 : vp_in (x3 + 2) L) (h3 : vp_in (x3 + 3) L) (h4 : vp_in (x3 + 4) L) (h5 : vp_in (x3 + 5) L) (e1 : xs (x3 + 1).toNatClampNeg = a1) (e2 : xs (x3 + 2).toNatClampNeg = a2) (e3 : xs (x3 + 3).toNatClampNeg = a3) (e4 : xs (x3 + 4).toNatClampNeg = a4) (e5 : xs (x3 + 5).toNatClampNeg = a5) (sx sm : MS) (hi : I sx sm) (kk : ∀ sx2 sm2, I sx2 sm2 → GL l D cI cZ cJ ax am p e s m below meth c b 1120 [(0, .ref b), (1, .ref (ax 0)), (2, .ref (am 0)), (3, .int x3)] [] sx2 sm2) : GL l D cI cZ cJ ax am p e s m below meth c b 388 [(0, .ref b), (1, .ref (ax 0)), (2, .ref (am 0)), (3, .int x3)] [] sx sm := by
  obtain ⟨r, sx2, sm2, hx1, hm1, hi2⟩ := hI a1 a2 sx sm hi
  refine L_aload_n hC d_law_388 rfl 1 rfl ?_
  refine L_aload_n hC d_law_389 rfl 0 rfl ?_
  refine L_iload_n hC d_law_390 rfl 3 rfl ?_
  refine L_iconst hC d_law_391 lt_iconst_1 ?_
  refine L_iadd hC d_law_392 ?_
  refine L_sld hC d_law_393 h1 e1 ?_
  refine L_aload_n hC d_law_394 rfl 0 rfl ?_
  refine L_iload_n hC d_law_395 rfl 3 rfl ?_
  refine L_iconst hC d_law_396 lt_iconst_2 ?_
  refine L_iadd hC d_law_397 ?_
  refine L_sld hC d_law_398 h2 e2 ?_
  refine L_callX (As := [.int a1, .int a2]) (st := []) hC d_law_399 mi_Hb_leaves w_531 rfl rfl mv_Hb_leaves rfl (Nat.le_of_ble_eq_true rfl) (by decide) (c_Hb_leaves a1 a2 sx (P := fun q z => q = r ∧ z = sx2) ⟨r, sx2, hx1, rfl, rfl⟩) (fun v z hq => ?_)
  obtain ⟨hq1, hq2⟩ := hq
  rw [hq1, hq2]
  refine L_aload_n hC d_law_402 rfl 2 rfl ?_
  refine L_aload_n hC d_law_403 rfl 0 rfl ?_
  refine L_iload_n hC d_law_404 rfl 3 rfl ?_
  refine L_iconst hC d_law_405 lt_iconst_1 ?_
  refine L_iadd hC d_law_406 ?_
  refine L_sld hC d_law_407 h1 e1 ?_
  refine L_aload_n hC d_law_408 rfl 0 rfl ?_
  refine L_iload_n hC d_law_409 rfl 3 rfl ?_
  refine L_iconst hC d_law_410 lt_iconst_2 ?_
  refine L_iadd hC d_law_411 ?_
  refine L_sld hC d_law_412 h2 e2 ?_
  refine L_callM (As := [.int a1, .int a2]) (st := [.int r]) hC d_law_413 mi_Md_leaves w_1116 rfl rfl mv_Md_leaves rfl (Nat.le_of_ble_eq_true rfl) (by decide) (c_Md_leaves a1 a2 sm (P := fun q z => q = r ∧ z = sm2) ⟨r, sm2, hm1, rfl, rfl⟩) (fun v z hq => ?_)
  obtain ⟨hq1, hq2⟩ := hq
  rw [hq1, hq2]
  refine L_icmp_eq (tgt := 1120) hC d_law_416 (by decide) (fun _ => ?_) (fun h9 => absurd rfl h9)
  exact kk _ _ hi2
theorem law_home {I : MS → MS → Prop} (hI : St_home I) {l : Launch} {D : va_G} {cI cZ cJ : ClassId} {ax am : Nat → Nat} {p : Program} {e : Env} {s : State} {m : MethodId} {below : List Frame} {meth : Method} {c : Code} {b L : Nat} {xs : Nat → Int32} (hC : LC p s m meth c b L xs D cI cZ cJ) (x3 a1 a2 a3 a4 a5 : Int32) (h1 : vp_in (x3 + 1) L) (h2 : vp_in (x3 + 2) L) (h3 : vp_in (x3 + 3) L) (h4 : vp_in (x3 + 4) L) (h5 : vp_in (x3 + 5) L) (e1 : xs (x3 + 1).toNatClampNeg = a1) (e2 : xs (x3 + 2).toNatClampNeg = a2) (e3 : xs (x3 + 3).toNatClampNeg = a3) (e4 : xs (x3 + 4).toNatClampNeg = a4) (e5 : xs (x3 + 5).toNatClampNeg = a5) (sx sm : MS) (hi : I sx sm) (kk : ∀ sx2 sm2, I sx2 sm2 → GL l D cI cZ cJ ax am p e s m below meth c b 1120 [(0, .ref b), (1, .ref (ax 0)), (2, .ref (am 0)), (3, .int x3)] [] sx2 sm2) : GL l D cI cZ cJ ax am p e s m below meth c b 421 [(0, .ref b), (1, .ref (ax 0)), (2, .ref (am 0)), (3, .int x3)] [] sx sm := by
  obtain ⟨r, sx2, sm2, hx1, hm1, hi2⟩ := hI a1 a2 sx sm hi
  refine L_aload_n hC d_law_421 rfl 1 rfl ?_
  refine L_aload_n hC d_law_422 rfl 0 rfl ?_
  refine L_iload_n hC d_law_423 rfl 3 rfl ?_
  refine L_iconst hC d_law_424 lt_iconst_1 ?_
  refine L_iadd hC d_law_425 ?_
  refine L_sld hC d_law_426 h1 e1 ?_
  refine L_aload_n hC d_law_427 rfl 0 rfl ?_
  refine L_iload_n hC d_law_428 rfl 3 rfl ?_
  refine L_iconst hC d_law_429 lt_iconst_2 ?_
  refine L_iadd hC d_law_430 ?_
  refine L_sld hC d_law_431 h2 e2 ?_
  refine L_callX (As := [.int a1, .int a2]) (st := []) hC d_law_432 mi_Hb_home w_539 rfl rfl mv_Hb_home rfl (Nat.le_of_ble_eq_true rfl) (by decide) (c_Hb_home a1 a2 sx (P := fun q z => q = r ∧ z = sx2) ⟨r, sx2, hx1, rfl, rfl⟩) (fun v z hq => ?_)
  obtain ⟨hq1, hq2⟩ := hq
  rw [hq1, hq2]
  refine L_aload_n hC d_law_435 rfl 2 rfl ?_
  refine L_aload_n hC d_law_436 rfl 0 rfl ?_
  refine L_iload_n hC d_law_437 rfl 3 rfl ?_
  refine L_iconst hC d_law_438 lt_iconst_1 ?_
  refine L_iadd hC d_law_439 ?_
  refine L_sld hC d_law_440 h1 e1 ?_
  refine L_aload_n hC d_law_441 rfl 0 rfl ?_
  refine L_iload_n hC d_law_442 rfl 3 rfl ?_
  refine L_iconst hC d_law_443 lt_iconst_2 ?_
  refine L_iadd hC d_law_444 ?_
  refine L_sld hC d_law_445 h2 e2 ?_
  refine L_callM (As := [.int a1, .int a2]) (st := [.int r]) hC d_law_446 mi_Md_home w_1120 rfl rfl mv_Md_home rfl (Nat.le_of_ble_eq_true rfl) (by decide) (c_Md_home a1 a2 sm (P := fun q z => q = r ∧ z = sm2) ⟨r, sm2, hm1, rfl, rfl⟩) (fun v z hq => ?_)
  obtain ⟨hq1, hq2⟩ := hq
  rw [hq1, hq2]
  refine L_icmp_eq (tgt := 1120) hC d_law_449 (by decide) (fun _ => ?_) (fun h9 => absurd rfl h9)
  exact kk _ _ hi2
theorem law_moved {I : MS → MS → Prop} (hI : St_moved I) {l : Launch} {D : va_G} {cI cZ cJ : ClassId} {ax am : Nat → Nat} {p : Program} {e : Env} {s : State} {m : MethodId} {below : List Frame} {meth : Method} {c : Code} {b L : Nat} {xs : Nat → Int32} (hC : LC p s m meth c b L xs D cI cZ cJ) (x3 a1 a2 a3 a4 a5 : Int32) (h1 : vp_in (x3 + 1) L) (h2 : vp_in (x3 + 2) L) (h3 : vp_in (x3 + 3) L) (h4 : vp_in (x3 + 4) L) (h5 : vp_in (x3 + 5) L) (e1 : xs (x3 + 1).toNatClampNeg = a1) (e2 : xs (x3 + 2).toNatClampNeg = a2) (e3 : xs (x3 + 3).toNatClampNeg = a3) (e4 : xs (x3 + 4).toNatClampNeg = a4) (e5 : xs (x3 + 5).toNatClampNeg = a5) (sx sm : MS) (hi : I sx sm) (kk : ∀ sx2 sm2, I sx2 sm2 → GL l D cI cZ cJ ax am p e s m below meth c b 1120 [(0, .ref b), (1, .ref (ax 0)), (2, .ref (am 0)), (3, .int x3)] [] sx2 sm2) : GL l D cI cZ cJ ax am p e s m below meth c b 454 [(0, .ref b), (1, .ref (ax 0)), (2, .ref (am 0)), (3, .int x3)] [] sx sm := by
  obtain ⟨r, hx1, hm1, hi2⟩ := hI a1 a2 sx sm hi
  refine L_aload_n hC d_law_454 rfl 1 rfl ?_
  refine L_aload_n hC d_law_455 rfl 0 rfl ?_
  refine L_iload_n hC d_law_456 rfl 3 rfl ?_
  refine L_iconst hC d_law_457 lt_iconst_1 ?_
  refine L_iadd hC d_law_458 ?_
  refine L_sld hC d_law_459 h1 e1 ?_
  refine L_aload_n hC d_law_460 rfl 0 rfl ?_
  refine L_iload_n hC d_law_461 rfl 3 rfl ?_
  refine L_iconst hC d_law_462 lt_iconst_2 ?_
  refine L_iadd hC d_law_463 ?_
  refine L_sld hC d_law_464 h2 e2 ?_
  refine L_callX (As := [.int a1, .int a2]) (st := []) hC d_law_465 mi_Hb_moved w_604 rfl rfl mv_Hb_moved rfl (Nat.le_of_ble_eq_true rfl) (by decide) (c_Hb_moved a1 a2 sx (P := fun q => q = r) ⟨r, hx1, rfl⟩) (fun v z hq => ?_)
  obtain ⟨hq2, hq1⟩ := hq
  rw [hq1, hq2]
  refine L_aload_n hC d_law_468 rfl 2 rfl ?_
  refine L_aload_n hC d_law_469 rfl 0 rfl ?_
  refine L_iload_n hC d_law_470 rfl 3 rfl ?_
  refine L_iconst hC d_law_471 lt_iconst_1 ?_
  refine L_iadd hC d_law_472 ?_
  refine L_sld hC d_law_473 h1 e1 ?_
  refine L_aload_n hC d_law_474 rfl 0 rfl ?_
  refine L_iload_n hC d_law_475 rfl 3 rfl ?_
  refine L_iconst hC d_law_476 lt_iconst_2 ?_
  refine L_iadd hC d_law_477 ?_
  refine L_sld hC d_law_478 h2 e2 ?_
  refine L_callM (As := [.int a1, .int a2]) (st := [.int r]) hC d_law_479 mi_Md_moved w_1153 rfl rfl mv_Md_moved rfl (Nat.le_of_ble_eq_true rfl) (by decide) (c_Md_moved a1 a2 sm (P := fun q => q = r) ⟨r, hm1, rfl⟩) (fun v z hq => ?_)
  obtain ⟨hq2, hq1⟩ := hq
  rw [hq1, hq2]
  refine L_icmp_eq (tgt := 1120) hC d_law_482 (by decide) (fun _ => ?_) (fun h9 => absurd rfl h9)
  exact kk _ _ hi2
theorem law_stayOf {I : MS → MS → Prop} (hI : St_stayOf I) {l : Launch} {D : va_G} {cI cZ cJ : ClassId} {ax am : Nat → Nat} {p : Program} {e : Env} {s : State} {m : MethodId} {below : List Frame} {meth : Method} {c : Code} {b L : Nat} {xs : Nat → Int32} (hC : LC p s m meth c b L xs D cI cZ cJ) (x3 a1 a2 a3 a4 a5 : Int32) (h1 : vp_in (x3 + 1) L) (h2 : vp_in (x3 + 2) L) (h3 : vp_in (x3 + 3) L) (h4 : vp_in (x3 + 4) L) (h5 : vp_in (x3 + 5) L) (e1 : xs (x3 + 1).toNatClampNeg = a1) (e2 : xs (x3 + 2).toNatClampNeg = a2) (e3 : xs (x3 + 3).toNatClampNeg = a3) (e4 : xs (x3 + 4).toNatClampNeg = a4) (e5 : xs (x3 + 5).toNatClampNeg = a5) (sx sm : MS) (hi : I sx sm) (kk : ∀ sx2 sm2, I sx2 sm2 → GL l D cI cZ cJ ax am p e s m below meth c b 1120 [(0, .ref b), (1, .ref (ax 0)), (2, .ref (am 0)), (3, .int x3)] [] sx2 sm2) : GL l D cI cZ cJ ax am p e s m below meth c b 487 [(0, .ref b), (1, .ref (ax 0)), (2, .ref (am 0)), (3, .int x3)] [] sx sm := by
  obtain ⟨r, sx2, sm2, hx1, hm1, hi2⟩ := hI a1 a2 sx sm hi
  refine L_aload_n hC d_law_487 rfl 1 rfl ?_
  refine L_aload_n hC d_law_488 rfl 0 rfl ?_
  refine L_iload_n hC d_law_489 rfl 3 rfl ?_
  refine L_iconst hC d_law_490 lt_iconst_1 ?_
  refine L_iadd hC d_law_491 ?_
  refine L_sld hC d_law_492 h1 e1 ?_
  refine L_aload_n hC d_law_493 rfl 0 rfl ?_
  refine L_iload_n hC d_law_494 rfl 3 rfl ?_
  refine L_iconst hC d_law_495 lt_iconst_2 ?_
  refine L_iadd hC d_law_496 ?_
  refine L_sld hC d_law_497 h2 e2 ?_
  refine L_callX (As := [.int a1, .int a2]) (st := []) hC d_law_498 mi_Hb_stayOf w_608 rfl rfl mv_Hb_stayOf rfl (Nat.le_of_ble_eq_true rfl) (by decide) (c_Hb_stayOf a1 a2 sx (P := fun q z => q = r ∧ z = sx2) ⟨r, sx2, hx1, rfl, rfl⟩) (fun v z hq => ?_)
  obtain ⟨hq1, hq2⟩ := hq
  rw [hq1, hq2]
  refine L_aload_n hC d_law_501 rfl 2 rfl ?_
  refine L_aload_n hC d_law_502 rfl 0 rfl ?_
  refine L_iload_n hC d_law_503 rfl 3 rfl ?_
  refine L_iconst hC d_law_504 lt_iconst_1 ?_
  refine L_iadd hC d_law_505 ?_
  refine L_sld hC d_law_506 h1 e1 ?_
  refine L_aload_n hC d_law_507 rfl 0 rfl ?_
  refine L_iload_n hC d_law_508 rfl 3 rfl ?_
  refine L_iconst hC d_law_509 lt_iconst_2 ?_
  refine L_iadd hC d_law_510 ?_
  refine L_sld hC d_law_511 h2 e2 ?_
  refine L_callM (As := [.int a1, .int a2]) (st := [.int r]) hC d_law_512 mi_Md_stayOf w_1157 rfl rfl mv_Md_stayOf rfl (Nat.le_of_ble_eq_true rfl) (by decide) (c_Md_stayOf a1 a2 sm (P := fun q z => q = r ∧ z = sm2) ⟨r, sm2, hm1, rfl, rfl⟩) (fun v z hq => ?_)
  obtain ⟨hq1, hq2⟩ := hq
  rw [hq1, hq2]
  refine L_icmp_eq (tgt := 1120) hC d_law_515 (by decide) (fun _ => ?_) (fun h9 => absurd rfl h9)
  exact kk _ _ hi2
theorem law_lies {I : MS → MS → Prop} (hI : St_lies I) {l : Launch} {D : va_G} {cI cZ cJ : ClassId} {ax am : Nat → Nat} {p : Program} {e : Env} {s : State} {m : MethodId} {below : List Frame} {meth : Method} {c : Code} {b L : Nat} {xs : Nat → Int32} (hC : LC p s m meth c b L xs D cI cZ cJ) (x3 a1 a2 a3 a4 a5 : Int32) (h1 : vp_in (x3 + 1) L) (h2 : vp_in (x3 + 2) L) (h3 : vp_in (x3 + 3) L) (h4 : vp_in (x3 + 4) L) (h5 : vp_in (x3 + 5) L) (e1 : xs (x3 + 1).toNatClampNeg = a1) (e2 : xs (x3 + 2).toNatClampNeg = a2) (e3 : xs (x3 + 3).toNatClampNeg = a3) (e4 : xs (x3 + 4).toNatClampNeg = a4) (e5 : xs (x3 + 5).toNatClampNeg = a5) (sx sm : MS) (hi : I sx sm) (kk : ∀ sx2 sm2, I sx2 sm2 → GL l D cI cZ cJ ax am p e s m below meth c b 1120 [(0, .ref b), (1, .ref (ax 0)), (2, .ref (am 0)), (3, .int x3)] [] sx2 sm2) : GL l D cI cZ cJ ax am p e s m below meth c b 520 [(0, .ref b), (1, .ref (ax 0)), (2, .ref (am 0)), (3, .int x3)] [] sx sm := by
  obtain ⟨r, hx1, hm1, hi2⟩ := hI a1 a2 sx sm hi
  refine L_aload_n hC d_law_520 rfl 1 rfl ?_
  refine L_aload_n hC d_law_521 rfl 0 rfl ?_
  refine L_iload_n hC d_law_522 rfl 3 rfl ?_
  refine L_iconst hC d_law_523 lt_iconst_1 ?_
  refine L_iadd hC d_law_524 ?_
  refine L_sld hC d_law_525 h1 e1 ?_
  refine L_aload_n hC d_law_526 rfl 0 rfl ?_
  refine L_iload_n hC d_law_527 rfl 3 rfl ?_
  refine L_iconst hC d_law_528 lt_iconst_2 ?_
  refine L_iadd hC d_law_529 ?_
  refine L_sld hC d_law_530 h2 e2 ?_
  refine L_callX (As := [.int a1, .int a2]) (st := []) hC d_law_531 mi_Hb_lies w_492 rfl rfl mv_Hb_lies rfl (Nat.le_of_ble_eq_true rfl) (by decide) (c_Hb_lies a1 a2 sx (P := fun q => q = r) ⟨r, hx1, rfl⟩) (fun v z hq => ?_)
  obtain ⟨hq2, hq1⟩ := hq
  rw [hq1, hq2]
  refine L_aload_n hC d_law_534 rfl 2 rfl ?_
  refine L_aload_n hC d_law_535 rfl 0 rfl ?_
  refine L_iload_n hC d_law_536 rfl 3 rfl ?_
  refine L_iconst hC d_law_537 lt_iconst_1 ?_
  refine L_iadd hC d_law_538 ?_
  refine L_sld hC d_law_539 h1 e1 ?_
  refine L_aload_n hC d_law_540 rfl 0 rfl ?_
  refine L_iload_n hC d_law_541 rfl 3 rfl ?_
  refine L_iconst hC d_law_542 lt_iconst_2 ?_
  refine L_iadd hC d_law_543 ?_
  refine L_sld hC d_law_544 h2 e2 ?_
  refine L_callM (As := [.int a1, .int a2]) (st := [.int r]) hC d_law_545 mi_Md_lies w_1172 rfl rfl mv_Md_lies rfl (Nat.le_of_ble_eq_true rfl) (by decide) (c_Md_lies a1 a2 sm (P := fun q => q = r) ⟨r, hm1, rfl⟩) (fun v z hq => ?_)
  obtain ⟨hq2, hq1⟩ := hq
  rw [hq1, hq2]
  refine L_icmp_eq (tgt := 1120) hC d_law_548 (by decide) (fun _ => ?_) (fun h9 => absurd rfl h9)
  exact kk _ _ hi2
theorem law_boatOf {I : MS → MS → Prop} (hI : St_boatOf I) {l : Launch} {D : va_G} {cI cZ cJ : ClassId} {ax am : Nat → Nat} {p : Program} {e : Env} {s : State} {m : MethodId} {below : List Frame} {meth : Method} {c : Code} {b L : Nat} {xs : Nat → Int32} (hC : LC p s m meth c b L xs D cI cZ cJ) (x3 a1 a2 a3 a4 a5 : Int32) (h1 : vp_in (x3 + 1) L) (h2 : vp_in (x3 + 2) L) (h3 : vp_in (x3 + 3) L) (h4 : vp_in (x3 + 4) L) (h5 : vp_in (x3 + 5) L) (e1 : xs (x3 + 1).toNatClampNeg = a1) (e2 : xs (x3 + 2).toNatClampNeg = a2) (e3 : xs (x3 + 3).toNatClampNeg = a3) (e4 : xs (x3 + 4).toNatClampNeg = a4) (e5 : xs (x3 + 5).toNatClampNeg = a5) (sx sm : MS) (hi : I sx sm) (kk : ∀ sx2 sm2, I sx2 sm2 → GL l D cI cZ cJ ax am p e s m below meth c b 1120 [(0, .ref b), (1, .ref (ax 0)), (2, .ref (am 0)), (3, .int x3)] [] sx2 sm2) : GL l D cI cZ cJ ax am p e s m below meth c b 553 [(0, .ref b), (1, .ref (ax 0)), (2, .ref (am 0)), (3, .int x3)] [] sx sm := by
  obtain ⟨r, hx1, hm1, hi2⟩ := hI a1 a2 sx sm hi
  refine L_aload_n hC d_law_553 rfl 1 rfl ?_
  refine L_aload_n hC d_law_554 rfl 0 rfl ?_
  refine L_iload_n hC d_law_555 rfl 3 rfl ?_
  refine L_iconst hC d_law_556 lt_iconst_1 ?_
  refine L_iadd hC d_law_557 ?_
  refine L_sld hC d_law_558 h1 e1 ?_
  refine L_aload_n hC d_law_559 rfl 0 rfl ?_
  refine L_iload_n hC d_law_560 rfl 3 rfl ?_
  refine L_iconst hC d_law_561 lt_iconst_2 ?_
  refine L_iadd hC d_law_562 ?_
  refine L_sld hC d_law_563 h2 e2 ?_
  refine L_callX (As := [.int a1, .int a2]) (st := []) hC d_law_564 mi_Hb_boatOf w_461 rfl rfl mv_Hb_boatOf rfl (Nat.le_of_ble_eq_true rfl) (by decide) (c_Hb_boatOf a1 a2 sx (P := fun q => q = r) ⟨r, hx1, rfl⟩) (fun v z hq => ?_)
  obtain ⟨hq2, hq1⟩ := hq
  rw [hq1, hq2]
  refine L_aload_n hC d_law_567 rfl 2 rfl ?_
  refine L_aload_n hC d_law_568 rfl 0 rfl ?_
  refine L_iload_n hC d_law_569 rfl 3 rfl ?_
  refine L_iconst hC d_law_570 lt_iconst_1 ?_
  refine L_iadd hC d_law_571 ?_
  refine L_sld hC d_law_572 h1 e1 ?_
  refine L_aload_n hC d_law_573 rfl 0 rfl ?_
  refine L_iload_n hC d_law_574 rfl 3 rfl ?_
  refine L_iconst hC d_law_575 lt_iconst_2 ?_
  refine L_iadd hC d_law_576 ?_
  refine L_sld hC d_law_577 h2 e2 ?_
  refine L_callM (As := [.int a1, .int a2]) (st := [.int r]) hC d_law_578 mi_Md_boatOf w_1176 rfl rfl mv_Md_boatOf rfl (Nat.le_of_ble_eq_true rfl) (by decide) (c_Md_boatOf a1 a2 sm (P := fun q => q = r) ⟨r, hm1, rfl⟩) (fun v z hq => ?_)
  obtain ⟨hq2, hq1⟩ := hq
  rw [hq1, hq2]
  refine L_icmp_eq (tgt := 1120) hC d_law_581 (by decide) (fun _ => ?_) (fun h9 => absurd rfl h9)
  exact kk _ _ hi2
theorem law_fits {I : MS → MS → Prop} (hI : St_fits I) {l : Launch} {D : va_G} {cI cZ cJ : ClassId} {ax am : Nat → Nat} {p : Program} {e : Env} {s : State} {m : MethodId} {below : List Frame} {meth : Method} {c : Code} {b L : Nat} {xs : Nat → Int32} (hC : LC p s m meth c b L xs D cI cZ cJ) (x3 a1 a2 a3 a4 a5 : Int32) (h1 : vp_in (x3 + 1) L) (h2 : vp_in (x3 + 2) L) (h3 : vp_in (x3 + 3) L) (h4 : vp_in (x3 + 4) L) (h5 : vp_in (x3 + 5) L) (e1 : xs (x3 + 1).toNatClampNeg = a1) (e2 : xs (x3 + 2).toNatClampNeg = a2) (e3 : xs (x3 + 3).toNatClampNeg = a3) (e4 : xs (x3 + 4).toNatClampNeg = a4) (e5 : xs (x3 + 5).toNatClampNeg = a5) (sx sm : MS) (hi : I sx sm) (kk : ∀ sx2 sm2, I sx2 sm2 → GL l D cI cZ cJ ax am p e s m below meth c b 1120 [(0, .ref b), (1, .ref (ax 0)), (2, .ref (am 0)), (3, .int x3)] [] sx2 sm2) : GL l D cI cZ cJ ax am p e s m below meth c b 586 [(0, .ref b), (1, .ref (ax 0)), (2, .ref (am 0)), (3, .int x3)] [] sx sm := by
  obtain ⟨r, hx1, hm1, hi2⟩ := hI a1 a2 a3 sx sm hi
  refine L_aload_n hC d_law_586 rfl 1 rfl ?_
  refine L_aload_n hC d_law_587 rfl 0 rfl ?_
  refine L_iload_n hC d_law_588 rfl 3 rfl ?_
  refine L_iconst hC d_law_589 lt_iconst_1 ?_
  refine L_iadd hC d_law_590 ?_
  refine L_sld hC d_law_591 h1 e1 ?_
  refine L_aload_n hC d_law_592 rfl 0 rfl ?_
  refine L_iload_n hC d_law_593 rfl 3 rfl ?_
  refine L_iconst hC d_law_594 lt_iconst_2 ?_
  refine L_iadd hC d_law_595 ?_
  refine L_sld hC d_law_596 h2 e2 ?_
  refine L_aload_n hC d_law_597 rfl 0 rfl ?_
  refine L_iload_n hC d_law_598 rfl 3 rfl ?_
  refine L_iconst hC d_law_599 lt_iconst_3 ?_
  refine L_iadd hC d_law_600 ?_
  refine L_sld hC d_law_601 h3 e3 ?_
  refine L_callX (As := [.int a1, .int a2, .int a3]) (st := []) hC d_law_602 mi_Hb_fits w_484 rfl rfl mv_Hb_fits rfl (Nat.le_of_ble_eq_true rfl) (by decide) (c_Hb_fits a1 a2 a3 sx (P := fun q => q = r) ⟨r, hx1, rfl⟩) (fun v z hq => ?_)
  obtain ⟨hq2, hq1⟩ := hq
  rw [hq1, hq2]
  refine L_aload_n hC d_law_605 rfl 2 rfl ?_
  refine L_aload_n hC d_law_606 rfl 0 rfl ?_
  refine L_iload_n hC d_law_607 rfl 3 rfl ?_
  refine L_iconst hC d_law_608 lt_iconst_1 ?_
  refine L_iadd hC d_law_609 ?_
  refine L_sld hC d_law_610 h1 e1 ?_
  refine L_aload_n hC d_law_611 rfl 0 rfl ?_
  refine L_iload_n hC d_law_612 rfl 3 rfl ?_
  refine L_iconst hC d_law_613 lt_iconst_2 ?_
  refine L_iadd hC d_law_614 ?_
  refine L_sld hC d_law_615 h2 e2 ?_
  refine L_aload_n hC d_law_616 rfl 0 rfl ?_
  refine L_iload_n hC d_law_617 rfl 3 rfl ?_
  refine L_iconst hC d_law_618 lt_iconst_3 ?_
  refine L_iadd hC d_law_619 ?_
  refine L_sld hC d_law_620 h3 e3 ?_
  refine L_callM (As := [.int a1, .int a2, .int a3]) (st := [.int r]) hC d_law_621 mi_Md_fits w_1180 rfl rfl mv_Md_fits rfl (Nat.le_of_ble_eq_true rfl) (by decide) (c_Md_fits a1 a2 a3 sm (P := fun q => q = r) ⟨r, hm1, rfl⟩) (fun v z hq => ?_)
  obtain ⟨hq2, hq1⟩ := hq
  rw [hq1, hq2]
  refine L_icmp_eq (tgt := 1120) hC d_law_624 (by decide) (fun _ => ?_) (fun h9 => absurd rfl h9)
  exact kk _ _ hi2
theorem law_hoist {I : MS → MS → Prop} (hI : St_hoist I) {l : Launch} {D : va_G} {cI cZ cJ : ClassId} {ax am : Nat → Nat} {p : Program} {e : Env} {s : State} {m : MethodId} {below : List Frame} {meth : Method} {c : Code} {b L : Nat} {xs : Nat → Int32} (hC : LC p s m meth c b L xs D cI cZ cJ) (x3 a1 a2 a3 a4 a5 : Int32) (h1 : vp_in (x3 + 1) L) (h2 : vp_in (x3 + 2) L) (h3 : vp_in (x3 + 3) L) (h4 : vp_in (x3 + 4) L) (h5 : vp_in (x3 + 5) L) (e1 : xs (x3 + 1).toNatClampNeg = a1) (e2 : xs (x3 + 2).toNatClampNeg = a2) (e3 : xs (x3 + 3).toNatClampNeg = a3) (e4 : xs (x3 + 4).toNatClampNeg = a4) (e5 : xs (x3 + 5).toNatClampNeg = a5) (sx sm : MS) (hi : I sx sm) (kk : ∀ sx2 sm2, I sx2 sm2 → GL l D cI cZ cJ ax am p e s m below meth c b 1120 [(0, .ref b), (1, .ref (ax 0)), (2, .ref (am 0)), (3, .int x3)] [] sx2 sm2) : GL l D cI cZ cJ ax am p e s m below meth c b 629 [(0, .ref b), (1, .ref (ax 0)), (2, .ref (am 0)), (3, .int x3)] [] sx sm := by
  obtain ⟨r, sx2, sm2, hx1, hm1, hi2⟩ := hI a1 a2 a3 sx sm hi
  refine L_aload_n hC d_law_629 rfl 1 rfl ?_
  refine L_aload_n hC d_law_630 rfl 0 rfl ?_
  refine L_iload_n hC d_law_631 rfl 3 rfl ?_
  refine L_iconst hC d_law_632 lt_iconst_1 ?_
  refine L_iadd hC d_law_633 ?_
  refine L_sld hC d_law_634 h1 e1 ?_
  refine L_aload_n hC d_law_635 rfl 0 rfl ?_
  refine L_iload_n hC d_law_636 rfl 3 rfl ?_
  refine L_iconst hC d_law_637 lt_iconst_2 ?_
  refine L_iadd hC d_law_638 ?_
  refine L_sld hC d_law_639 h2 e2 ?_
  refine L_aload_n hC d_law_640 rfl 0 rfl ?_
  refine L_iload_n hC d_law_641 rfl 3 rfl ?_
  refine L_iconst hC d_law_642 lt_iconst_3 ?_
  refine L_iadd hC d_law_643 ?_
  refine L_sld hC d_law_644 h3 e3 ?_
  refine L_callX (As := [.int a1, .int a2, .int a3]) (st := []) hC d_law_645 mi_Hb_hoist w_639 rfl rfl mv_Hb_hoist rfl (Nat.le_of_ble_eq_true rfl) (by decide) (c_Hb_hoist a1 a2 a3 sx (P := fun q z => q = r ∧ z = sx2) ⟨r, sx2, hx1, rfl, rfl⟩) (fun v z hq => ?_)
  obtain ⟨hq1, hq2⟩ := hq
  rw [hq1, hq2]
  refine L_aload_n hC d_law_648 rfl 2 rfl ?_
  refine L_aload_n hC d_law_649 rfl 0 rfl ?_
  refine L_iload_n hC d_law_650 rfl 3 rfl ?_
  refine L_iconst hC d_law_651 lt_iconst_1 ?_
  refine L_iadd hC d_law_652 ?_
  refine L_sld hC d_law_653 h1 e1 ?_
  refine L_aload_n hC d_law_654 rfl 0 rfl ?_
  refine L_iload_n hC d_law_655 rfl 3 rfl ?_
  refine L_iconst hC d_law_656 lt_iconst_2 ?_
  refine L_iadd hC d_law_657 ?_
  refine L_sld hC d_law_658 h2 e2 ?_
  refine L_aload_n hC d_law_659 rfl 0 rfl ?_
  refine L_iload_n hC d_law_660 rfl 3 rfl ?_
  refine L_iconst hC d_law_661 lt_iconst_3 ?_
  refine L_iadd hC d_law_662 ?_
  refine L_sld hC d_law_663 h3 e3 ?_
  refine L_callM (As := [.int a1, .int a2, .int a3]) (st := [.int r]) hC d_law_664 mi_Md_hoist w_1184 rfl rfl mv_Md_hoist rfl (Nat.le_of_ble_eq_true rfl) (by decide) (c_Md_hoist a1 a2 a3 sm (P := fun q z => q = r ∧ z = sm2) ⟨r, sm2, hm1, rfl, rfl⟩) (fun v z hq => ?_)
  obtain ⟨hq1, hq2⟩ := hq
  rw [hq1, hq2]
  refine L_icmp_eq (tgt := 1120) hC d_law_667 (by decide) (fun _ => ?_) (fun h9 => absurd rfl h9)
  exact kk _ _ hi2
theorem law_broken {I : MS → MS → Prop} (hI : St_broken I) {l : Launch} {D : va_G} {cI cZ cJ : ClassId} {ax am : Nat → Nat} {p : Program} {e : Env} {s : State} {m : MethodId} {below : List Frame} {meth : Method} {c : Code} {b L : Nat} {xs : Nat → Int32} (hC : LC p s m meth c b L xs D cI cZ cJ) (x3 a1 a2 a3 a4 a5 : Int32) (h1 : vp_in (x3 + 1) L) (h2 : vp_in (x3 + 2) L) (h3 : vp_in (x3 + 3) L) (h4 : vp_in (x3 + 4) L) (h5 : vp_in (x3 + 5) L) (e1 : xs (x3 + 1).toNatClampNeg = a1) (e2 : xs (x3 + 2).toNatClampNeg = a2) (e3 : xs (x3 + 3).toNatClampNeg = a3) (e4 : xs (x3 + 4).toNatClampNeg = a4) (e5 : xs (x3 + 5).toNatClampNeg = a5) (sx sm : MS) (hi : I sx sm) (kk : ∀ sx2 sm2, I sx2 sm2 → GL l D cI cZ cJ ax am p e s m below meth c b 1120 [(0, .ref b), (1, .ref (ax 0)), (2, .ref (am 0)), (3, .int x3)] [] sx2 sm2) : GL l D cI cZ cJ ax am p e s m below meth c b 672 [(0, .ref b), (1, .ref (ax 0)), (2, .ref (am 0)), (3, .int x3)] [] sx sm := by
  by_cases cb : a2 = 0
  · obtain ⟨r, sx2, sm2, hx1, hm1, hi2⟩ := hI a1 (0 : Int32) sx sm (Or.inl rfl) hi
    refine L_aload_n hC d_law_672 rfl 1 rfl ?_
    refine L_aload_n hC d_law_673 rfl 0 rfl ?_
    refine L_iload_n hC d_law_674 rfl 3 rfl ?_
    refine L_iconst hC d_law_675 lt_iconst_1 ?_
    refine L_iadd hC d_law_676 ?_
    refine L_sld hC d_law_677 h1 e1 ?_
    refine L_aload_n hC d_law_678 rfl 0 rfl ?_
    refine L_iload_n hC d_law_679 rfl 3 rfl ?_
    refine L_iconst hC d_law_680 lt_iconst_2 ?_
    refine L_iadd hC d_law_681 ?_
    refine L_sld hC d_law_682 h2 e2 ?_
    refine L_if_eq (tgt := 690) hC d_law_683 (by decide) (fun c0 => ?_) (fun c0 => absurd cb c0)
    refine L_iconst hC d_law_690 lt_iconst_0 ?_
    refine L_callX (As := [.int a1, .int (0 : Int32)]) (st := []) hC d_law_691 mi_Hb_broken w_648 rfl rfl mv_Hb_broken rfl (Nat.le_of_ble_eq_true rfl) (by decide) (c_Hb_broken a1 (0 : Int32) sx (P := fun q z => q = r ∧ z = sx2) ⟨r, sx2, hx1, rfl, rfl⟩) (fun v z hq => ?_)
    obtain ⟨hq1, hq2⟩ := hq
    rw [hq1, hq2]
    refine L_aload_n hC d_law_694 rfl 2 rfl ?_
    refine L_aload_n hC d_law_695 rfl 0 rfl ?_
    refine L_iload_n hC d_law_696 rfl 3 rfl ?_
    refine L_iconst hC d_law_697 lt_iconst_1 ?_
    refine L_iadd hC d_law_698 ?_
    refine L_sld hC d_law_699 h1 e1 ?_
    refine L_aload_n hC d_law_700 rfl 0 rfl ?_
    refine L_iload_n hC d_law_701 rfl 3 rfl ?_
    refine L_iconst hC d_law_702 lt_iconst_2 ?_
    refine L_iadd hC d_law_703 ?_
    refine L_sld hC d_law_704 h2 e2 ?_
    refine L_if_eq (tgt := 712) hC d_law_705 (by decide) (fun c0 => ?_) (fun c0 => absurd cb c0)
    refine L_iconst hC d_law_712 lt_iconst_0 ?_
    refine L_callM (As := [.int a1, .int (0 : Int32)]) (st := [.int r]) hC d_law_713 mi_Md_broken w_1188 rfl rfl mv_Md_broken rfl (Nat.le_of_ble_eq_true rfl) (by decide) (c_Md_broken a1 (0 : Int32) sm (P := fun q z => q = r ∧ z = sm2) ⟨r, sm2, hm1, rfl, rfl⟩) (fun v z hq => ?_)
    obtain ⟨hq1, hq2⟩ := hq
    rw [hq1, hq2]
    refine L_icmp_eq (tgt := 1120) hC d_law_716 (by decide) (fun _ => ?_) (fun h9 => absurd rfl h9)
    exact kk _ _ hi2
  obtain ⟨r, sx2, sm2, hx1, hm1, hi2⟩ := hI a1 (1 : Int32) sx sm (Or.inr rfl) hi
  refine L_aload_n hC d_law_672 rfl 1 rfl ?_
  refine L_aload_n hC d_law_673 rfl 0 rfl ?_
  refine L_iload_n hC d_law_674 rfl 3 rfl ?_
  refine L_iconst hC d_law_675 lt_iconst_1 ?_
  refine L_iadd hC d_law_676 ?_
  refine L_sld hC d_law_677 h1 e1 ?_
  refine L_aload_n hC d_law_678 rfl 0 rfl ?_
  refine L_iload_n hC d_law_679 rfl 3 rfl ?_
  refine L_iconst hC d_law_680 lt_iconst_2 ?_
  refine L_iadd hC d_law_681 ?_
  refine L_sld hC d_law_682 h2 e2 ?_
  refine L_if_eq (tgt := 690) hC d_law_683 (by decide) (fun c0 => absurd c0 cb) (fun c0 => ?_)
  refine L_iconst hC d_law_686 lt_iconst_1 ?_
  refine L_goto (tgt := 691) hC d_law_687 (by decide) ?_
  refine L_callX (As := [.int a1, .int (1 : Int32)]) (st := []) hC d_law_691 mi_Hb_broken w_648 rfl rfl mv_Hb_broken rfl (Nat.le_of_ble_eq_true rfl) (by decide) (c_Hb_broken a1 (1 : Int32) sx (P := fun q z => q = r ∧ z = sx2) ⟨r, sx2, hx1, rfl, rfl⟩) (fun v z hq => ?_)
  obtain ⟨hq1, hq2⟩ := hq
  rw [hq1, hq2]
  refine L_aload_n hC d_law_694 rfl 2 rfl ?_
  refine L_aload_n hC d_law_695 rfl 0 rfl ?_
  refine L_iload_n hC d_law_696 rfl 3 rfl ?_
  refine L_iconst hC d_law_697 lt_iconst_1 ?_
  refine L_iadd hC d_law_698 ?_
  refine L_sld hC d_law_699 h1 e1 ?_
  refine L_aload_n hC d_law_700 rfl 0 rfl ?_
  refine L_iload_n hC d_law_701 rfl 3 rfl ?_
  refine L_iconst hC d_law_702 lt_iconst_2 ?_
  refine L_iadd hC d_law_703 ?_
  refine L_sld hC d_law_704 h2 e2 ?_
  refine L_if_eq (tgt := 712) hC d_law_705 (by decide) (fun c0 => absurd c0 cb) (fun c0 => ?_)
  refine L_iconst hC d_law_708 lt_iconst_1 ?_
  refine L_goto (tgt := 713) hC d_law_709 (by decide) ?_
  refine L_callM (As := [.int a1, .int (1 : Int32)]) (st := [.int r]) hC d_law_713 mi_Md_broken w_1188 rfl rfl mv_Md_broken rfl (Nat.le_of_ble_eq_true rfl) (by decide) (c_Md_broken a1 (1 : Int32) sm (P := fun q z => q = r ∧ z = sm2) ⟨r, sm2, hm1, rfl, rfl⟩) (fun v z hq => ?_)
  obtain ⟨hq1, hq2⟩ := hq
  rw [hq1, hq2]
  refine L_icmp_eq (tgt := 1120) hC d_law_716 (by decide) (fun _ => ?_) (fun h9 => absurd rfl h9)
  exact kk _ _ hi2
theorem law_lift {I : MS → MS → Prop} (hI : St_lift I) {l : Launch} {D : va_G} {cI cZ cJ : ClassId} {ax am : Nat → Nat} {p : Program} {e : Env} {s : State} {m : MethodId} {below : List Frame} {meth : Method} {c : Code} {b L : Nat} {xs : Nat → Int32} (hC : LC p s m meth c b L xs D cI cZ cJ) (x3 a1 a2 a3 a4 a5 : Int32) (h1 : vp_in (x3 + 1) L) (h2 : vp_in (x3 + 2) L) (h3 : vp_in (x3 + 3) L) (h4 : vp_in (x3 + 4) L) (h5 : vp_in (x3 + 5) L) (e1 : xs (x3 + 1).toNatClampNeg = a1) (e2 : xs (x3 + 2).toNatClampNeg = a2) (e3 : xs (x3 + 3).toNatClampNeg = a3) (e4 : xs (x3 + 4).toNatClampNeg = a4) (e5 : xs (x3 + 5).toNatClampNeg = a5) (sx sm : MS) (hi : I sx sm) (kk : ∀ sx2 sm2, I sx2 sm2 → GL l D cI cZ cJ ax am p e s m below meth c b 1120 [(0, .ref b), (1, .ref (ax 0)), (2, .ref (am 0)), (3, .int x3)] [] sx2 sm2) : GL l D cI cZ cJ ax am p e s m below meth c b 721 [(0, .ref b), (1, .ref (ax 0)), (2, .ref (am 0)), (3, .int x3)] [] sx sm := by
  obtain ⟨r, sx2, sm2, hx1, hm1, hi2⟩ := hI a1 a2 a3 sx sm hi
  refine L_aload_n hC d_law_721 rfl 1 rfl ?_
  refine L_aload_n hC d_law_722 rfl 0 rfl ?_
  refine L_iload_n hC d_law_723 rfl 3 rfl ?_
  refine L_iconst hC d_law_724 lt_iconst_1 ?_
  refine L_iadd hC d_law_725 ?_
  refine L_sld hC d_law_726 h1 e1 ?_
  refine L_aload_n hC d_law_727 rfl 0 rfl ?_
  refine L_iload_n hC d_law_728 rfl 3 rfl ?_
  refine L_iconst hC d_law_729 lt_iconst_2 ?_
  refine L_iadd hC d_law_730 ?_
  refine L_sld hC d_law_731 h2 e2 ?_
  refine L_aload_n hC d_law_732 rfl 0 rfl ?_
  refine L_iload_n hC d_law_733 rfl 3 rfl ?_
  refine L_iconst hC d_law_734 lt_iconst_3 ?_
  refine L_iadd hC d_law_735 ?_
  refine L_sld hC d_law_736 h3 e3 ?_
  refine L_callX (As := [.int a1, .int a2, .int a3]) (st := []) hC d_law_737 mi_Hb_lift w_652 rfl rfl mv_Hb_lift rfl (Nat.le_of_ble_eq_true rfl) (by decide) (c_Hb_lift a1 a2 a3 sx (P := fun q z => q = r ∧ z = sx2) ⟨r, sx2, hx1, rfl, rfl⟩) (fun v z hq => ?_)
  obtain ⟨hq1, hq2⟩ := hq
  rw [hq1, hq2]
  refine L_aload_n hC d_law_740 rfl 2 rfl ?_
  refine L_aload_n hC d_law_741 rfl 0 rfl ?_
  refine L_iload_n hC d_law_742 rfl 3 rfl ?_
  refine L_iconst hC d_law_743 lt_iconst_1 ?_
  refine L_iadd hC d_law_744 ?_
  refine L_sld hC d_law_745 h1 e1 ?_
  refine L_aload_n hC d_law_746 rfl 0 rfl ?_
  refine L_iload_n hC d_law_747 rfl 3 rfl ?_
  refine L_iconst hC d_law_748 lt_iconst_2 ?_
  refine L_iadd hC d_law_749 ?_
  refine L_sld hC d_law_750 h2 e2 ?_
  refine L_aload_n hC d_law_751 rfl 0 rfl ?_
  refine L_iload_n hC d_law_752 rfl 3 rfl ?_
  refine L_iconst hC d_law_753 lt_iconst_3 ?_
  refine L_iadd hC d_law_754 ?_
  refine L_sld hC d_law_755 h3 e3 ?_
  refine L_callM (As := [.int a1, .int a2, .int a3]) (st := [.int r]) hC d_law_756 mi_Md_lift w_1192 rfl rfl mv_Md_lift rfl (Nat.le_of_ble_eq_true rfl) (by decide) (c_Md_lift a1 a2 a3 sm (P := fun q z => q = r ∧ z = sm2) ⟨r, sm2, hm1, rfl, rfl⟩) (fun v z hq => ?_)
  obtain ⟨hq1, hq2⟩ := hq
  rw [hq1, hq2]
  refine L_icmp_eq (tgt := 1120) hC d_law_759 (by decide) (fun _ => ?_) (fun h9 => absurd rfl h9)
  exact kk _ _ hi2
theorem law_lifted {I : MS → MS → Prop} (hI : St_lifted I) {l : Launch} {D : va_G} {cI cZ cJ : ClassId} {ax am : Nat → Nat} {p : Program} {e : Env} {s : State} {m : MethodId} {below : List Frame} {meth : Method} {c : Code} {b L : Nat} {xs : Nat → Int32} (hC : LC p s m meth c b L xs D cI cZ cJ) (x3 a1 a2 a3 a4 a5 : Int32) (h1 : vp_in (x3 + 1) L) (h2 : vp_in (x3 + 2) L) (h3 : vp_in (x3 + 3) L) (h4 : vp_in (x3 + 4) L) (h5 : vp_in (x3 + 5) L) (e1 : xs (x3 + 1).toNatClampNeg = a1) (e2 : xs (x3 + 2).toNatClampNeg = a2) (e3 : xs (x3 + 3).toNatClampNeg = a3) (e4 : xs (x3 + 4).toNatClampNeg = a4) (e5 : xs (x3 + 5).toNatClampNeg = a5) (sx sm : MS) (hi : I sx sm) (kk : ∀ sx2 sm2, I sx2 sm2 → GL l D cI cZ cJ ax am p e s m below meth c b 1120 [(0, .ref b), (1, .ref (ax 0)), (2, .ref (am 0)), (3, .int x3)] [] sx2 sm2) : GL l D cI cZ cJ ax am p e s m below meth c b 764 [(0, .ref b), (1, .ref (ax 0)), (2, .ref (am 0)), (3, .int x3)] [] sx sm := by
  obtain ⟨r, sm2, hx1, hm1, hi2⟩ := hI a1 sx sm hi
  refine L_aload_n hC d_law_764 rfl 1 rfl ?_
  refine L_aload_n hC d_law_765 rfl 0 rfl ?_
  refine L_iload_n hC d_law_766 rfl 3 rfl ?_
  refine L_iconst hC d_law_767 lt_iconst_1 ?_
  refine L_iadd hC d_law_768 ?_
  refine L_sld hC d_law_769 h1 e1 ?_
  refine L_callX (As := [.int a1]) (st := []) hC d_law_770 mi_Hb_lifted w_660 rfl rfl mv_Hb_lifted rfl (Nat.le_of_ble_eq_true rfl) (by decide) (c_Hb_lifted a1 sx (P := fun q => q = r) ⟨r, hx1, rfl⟩) (fun v z hq => ?_)
  obtain ⟨hq2, hq1⟩ := hq
  rw [hq1, hq2]
  refine L_aload_n hC d_law_773 rfl 2 rfl ?_
  refine L_aload_n hC d_law_774 rfl 0 rfl ?_
  refine L_iload_n hC d_law_775 rfl 3 rfl ?_
  refine L_iconst hC d_law_776 lt_iconst_1 ?_
  refine L_iadd hC d_law_777 ?_
  refine L_sld hC d_law_778 h1 e1 ?_
  refine L_callM (As := [.int a1]) (st := [.int r]) hC d_law_779 mi_Md_lifted w_1196 rfl rfl mv_Md_lifted rfl (Nat.le_of_ble_eq_true rfl) (by decide) (c_Md_lifted a1 sm (P := fun q z => q = r ∧ z = sm2) ⟨r, sm2, hm1, rfl, rfl⟩) (fun v z hq => ?_)
  obtain ⟨hq1, hq2⟩ := hq
  rw [hq1, hq2]
  refine L_icmp_eq (tgt := 1120) hC d_law_782 (by decide) (fun _ => ?_) (fun h9 => absurd rfl h9)
  exact kk _ _ hi2
theorem law_shed {I : MS → MS → Prop} (hI : St_shed I) {l : Launch} {D : va_G} {cI cZ cJ : ClassId} {ax am : Nat → Nat} {p : Program} {e : Env} {s : State} {m : MethodId} {below : List Frame} {meth : Method} {c : Code} {b L : Nat} {xs : Nat → Int32} (hC : LC p s m meth c b L xs D cI cZ cJ) (x3 a1 a2 a3 a4 a5 : Int32) (h1 : vp_in (x3 + 1) L) (h2 : vp_in (x3 + 2) L) (h3 : vp_in (x3 + 3) L) (h4 : vp_in (x3 + 4) L) (h5 : vp_in (x3 + 5) L) (e1 : xs (x3 + 1).toNatClampNeg = a1) (e2 : xs (x3 + 2).toNatClampNeg = a2) (e3 : xs (x3 + 3).toNatClampNeg = a3) (e4 : xs (x3 + 4).toNatClampNeg = a4) (e5 : xs (x3 + 5).toNatClampNeg = a5) (sx sm : MS) (hi : I sx sm) (kk : ∀ sx2 sm2, I sx2 sm2 → GL l D cI cZ cJ ax am p e s m below meth c b 1120 [(0, .ref b), (1, .ref (ax 0)), (2, .ref (am 0)), (3, .int x3)] [] sx2 sm2) : GL l D cI cZ cJ ax am p e s m below meth c b 787 [(0, .ref b), (1, .ref (ax 0)), (2, .ref (am 0)), (3, .int x3)] [] sx sm := by
  obtain ⟨r, sx2, sm2, hx1, hm1, hi2⟩ := hI a1 a2 sx sm hi
  refine L_aload_n hC d_law_787 rfl 1 rfl ?_
  refine L_aload_n hC d_law_788 rfl 0 rfl ?_
  refine L_iload_n hC d_law_789 rfl 3 rfl ?_
  refine L_iconst hC d_law_790 lt_iconst_1 ?_
  refine L_iadd hC d_law_791 ?_
  refine L_sld hC d_law_792 h1 e1 ?_
  refine L_aload_n hC d_law_793 rfl 0 rfl ?_
  refine L_iload_n hC d_law_794 rfl 3 rfl ?_
  refine L_iconst hC d_law_795 lt_iconst_2 ?_
  refine L_iadd hC d_law_796 ?_
  refine L_sld hC d_law_797 h2 e2 ?_
  refine L_callX (As := [.int a1, .int a2]) (st := []) hC d_law_798 mi_Hb_shed w_674 rfl rfl mv_Hb_shed rfl (Nat.le_of_ble_eq_true rfl) (by decide) (c_Hb_shed a1 a2 sx (P := fun q z => q = r ∧ z = sx2) ⟨r, sx2, hx1, rfl, rfl⟩) (fun v z hq => ?_)
  obtain ⟨hq1, hq2⟩ := hq
  rw [hq1, hq2]
  refine L_aload_n hC d_law_801 rfl 2 rfl ?_
  refine L_aload_n hC d_law_802 rfl 0 rfl ?_
  refine L_iload_n hC d_law_803 rfl 3 rfl ?_
  refine L_iconst hC d_law_804 lt_iconst_1 ?_
  refine L_iadd hC d_law_805 ?_
  refine L_sld hC d_law_806 h1 e1 ?_
  refine L_aload_n hC d_law_807 rfl 0 rfl ?_
  refine L_iload_n hC d_law_808 rfl 3 rfl ?_
  refine L_iconst hC d_law_809 lt_iconst_2 ?_
  refine L_iadd hC d_law_810 ?_
  refine L_sld hC d_law_811 h2 e2 ?_
  refine L_callM (As := [.int a1, .int a2]) (st := [.int r]) hC d_law_812 mi_Md_shed w_1204 rfl rfl mv_Md_shed rfl (Nat.le_of_ble_eq_true rfl) (by decide) (c_Md_shed a1 a2 sm (P := fun q z => q = r ∧ z = sm2) ⟨r, sm2, hm1, rfl, rfl⟩) (fun v z hq => ?_)
  obtain ⟨hq1, hq2⟩ := hq
  rw [hq1, hq2]
  refine L_icmp_eq (tgt := 1120) hC d_law_815 (by decide) (fun _ => ?_) (fun h9 => absurd rfl h9)
  exact kk _ _ hi2
theorem law_winter {I : MS → MS → Prop} (hI : St_winter I) {l : Launch} {D : va_G} {cI cZ cJ : ClassId} {ax am : Nat → Nat} {p : Program} {e : Env} {s : State} {m : MethodId} {below : List Frame} {meth : Method} {c : Code} {b L : Nat} {xs : Nat → Int32} (hC : LC p s m meth c b L xs D cI cZ cJ) (x3 a1 a2 a3 a4 a5 : Int32) (h1 : vp_in (x3 + 1) L) (h2 : vp_in (x3 + 2) L) (h3 : vp_in (x3 + 3) L) (h4 : vp_in (x3 + 4) L) (h5 : vp_in (x3 + 5) L) (e1 : xs (x3 + 1).toNatClampNeg = a1) (e2 : xs (x3 + 2).toNatClampNeg = a2) (e3 : xs (x3 + 3).toNatClampNeg = a3) (e4 : xs (x3 + 4).toNatClampNeg = a4) (e5 : xs (x3 + 5).toNatClampNeg = a5) (sx sm : MS) (hi : I sx sm) (kk : ∀ sx2 sm2, I sx2 sm2 → GL l D cI cZ cJ ax am p e s m below meth c b 1120 [(0, .ref b), (1, .ref (ax 0)), (2, .ref (am 0)), (3, .int x3)] [] sx2 sm2) : GL l D cI cZ cJ ax am p e s m below meth c b 820 [(0, .ref b), (1, .ref (ax 0)), (2, .ref (am 0)), (3, .int x3)] [] sx sm := by
  obtain ⟨r, sx2, sm2, hx1, hm1, hi2⟩ := hI a1 a2 sx sm hi
  refine L_aload_n hC d_law_820 rfl 1 rfl ?_
  refine L_aload_n hC d_law_821 rfl 0 rfl ?_
  refine L_iload_n hC d_law_822 rfl 3 rfl ?_
  refine L_iconst hC d_law_823 lt_iconst_1 ?_
  refine L_iadd hC d_law_824 ?_
  refine L_sld hC d_law_825 h1 e1 ?_
  refine L_aload_n hC d_law_826 rfl 0 rfl ?_
  refine L_iload_n hC d_law_827 rfl 3 rfl ?_
  refine L_iconst hC d_law_828 lt_iconst_2 ?_
  refine L_iadd hC d_law_829 ?_
  refine L_sld hC d_law_830 h2 e2 ?_
  refine L_callX (As := [.int a1, .int a2]) (st := []) hC d_law_831 mi_Hb_winter w_683 rfl rfl mv_Hb_winter rfl (Nat.le_of_ble_eq_true rfl) (by decide) (c_Hb_winter a1 a2 sx (P := fun q z => q = r ∧ z = sx2) ⟨r, sx2, hx1, rfl, rfl⟩) (fun v z hq => ?_)
  obtain ⟨hq1, hq2⟩ := hq
  rw [hq1, hq2]
  refine L_aload_n hC d_law_834 rfl 2 rfl ?_
  refine L_aload_n hC d_law_835 rfl 0 rfl ?_
  refine L_iload_n hC d_law_836 rfl 3 rfl ?_
  refine L_iconst hC d_law_837 lt_iconst_1 ?_
  refine L_iadd hC d_law_838 ?_
  refine L_sld hC d_law_839 h1 e1 ?_
  refine L_aload_n hC d_law_840 rfl 0 rfl ?_
  refine L_iload_n hC d_law_841 rfl 3 rfl ?_
  refine L_iconst hC d_law_842 lt_iconst_2 ?_
  refine L_iadd hC d_law_843 ?_
  refine L_sld hC d_law_844 h2 e2 ?_
  refine L_callM (As := [.int a1, .int a2]) (st := [.int r]) hC d_law_845 mi_Md_winter w_1208 rfl rfl mv_Md_winter rfl (Nat.le_of_ble_eq_true rfl) (by decide) (c_Md_winter a1 a2 sm (P := fun q z => q = r ∧ z = sm2) ⟨r, sm2, hm1, rfl, rfl⟩) (fun v z hq => ?_)
  obtain ⟨hq1, hq2⟩ := hq
  rw [hq1, hq2]
  refine L_icmp_eq (tgt := 1120) hC d_law_848 (by decide) (fun _ => ?_) (fun h9 => absurd rfl h9)
  exact kk _ _ hi2
theorem law_moves {I : MS → MS → Prop} (hI : St_moves I) {l : Launch} {D : va_G} {cI cZ cJ : ClassId} {ax am : Nat → Nat} {p : Program} {e : Env} {s : State} {m : MethodId} {below : List Frame} {meth : Method} {c : Code} {b L : Nat} {xs : Nat → Int32} (hC : LC p s m meth c b L xs D cI cZ cJ) (x3 a1 a2 a3 a4 a5 : Int32) (h1 : vp_in (x3 + 1) L) (h2 : vp_in (x3 + 2) L) (h3 : vp_in (x3 + 3) L) (h4 : vp_in (x3 + 4) L) (h5 : vp_in (x3 + 5) L) (e1 : xs (x3 + 1).toNatClampNeg = a1) (e2 : xs (x3 + 2).toNatClampNeg = a2) (e3 : xs (x3 + 3).toNatClampNeg = a3) (e4 : xs (x3 + 4).toNatClampNeg = a4) (e5 : xs (x3 + 5).toNatClampNeg = a5) (sx sm : MS) (hi : I sx sm) (kk : ∀ sx2 sm2, I sx2 sm2 → GL l D cI cZ cJ ax am p e s m below meth c b 1120 [(0, .ref b), (1, .ref (ax 0)), (2, .ref (am 0)), (3, .int x3)] [] sx2 sm2) : GL l D cI cZ cJ ax am p e s m below meth c b 853 [(0, .ref b), (1, .ref (ax 0)), (2, .ref (am 0)), (3, .int x3)] [] sx sm := by
  obtain ⟨r, sm2, hx1, hm1, hi2⟩ := hI  sx sm hi
  refine L_aload_n hC d_law_853 rfl 1 rfl ?_
  refine L_callX (As := []) (st := []) hC d_law_854 mi_Hb_moves w_705 rfl rfl mv_Hb_moves rfl (Nat.le_of_ble_eq_true rfl) (by decide) (c_Hb_moves  sx (P := fun q => q = r) ⟨r, hx1, rfl⟩) (fun v z hq => ?_)
  obtain ⟨hq2, hq1⟩ := hq
  rw [hq1, hq2]
  refine L_aload_n hC d_law_857 rfl 2 rfl ?_
  refine L_callM (As := []) (st := [.int r]) hC d_law_858 mi_Md_moves w_1212 rfl rfl mv_Md_moves rfl (Nat.le_of_ble_eq_true rfl) (by decide) (c_Md_moves  sm (P := fun q z => q = r ∧ z = sm2) ⟨r, sm2, hm1, rfl, rfl⟩) (fun v z hq => ?_)
  obtain ⟨hq1, hq2⟩ := hq
  rw [hq1, hq2]
  refine L_icmp_eq (tgt := 1120) hC d_law_861 (by decide) (fun _ => ?_) (fun h9 => absurd rfl h9)
  exact kk _ _ hi2
theorem law_lane {I : MS → MS → Prop} (hI : St_lane I) {l : Launch} {D : va_G} {cI cZ cJ : ClassId} {ax am : Nat → Nat} {p : Program} {e : Env} {s : State} {m : MethodId} {below : List Frame} {meth : Method} {c : Code} {b L : Nat} {xs : Nat → Int32} (hC : LC p s m meth c b L xs D cI cZ cJ) (x3 a1 a2 a3 a4 a5 : Int32) (h1 : vp_in (x3 + 1) L) (h2 : vp_in (x3 + 2) L) (h3 : vp_in (x3 + 3) L) (h4 : vp_in (x3 + 4) L) (h5 : vp_in (x3 + 5) L) (e1 : xs (x3 + 1).toNatClampNeg = a1) (e2 : xs (x3 + 2).toNatClampNeg = a2) (e3 : xs (x3 + 3).toNatClampNeg = a3) (e4 : xs (x3 + 4).toNatClampNeg = a4) (e5 : xs (x3 + 5).toNatClampNeg = a5) (sx sm : MS) (hi : I sx sm) (kk : ∀ sx2 sm2, I sx2 sm2 → GL l D cI cZ cJ ax am p e s m below meth c b 1120 [(0, .ref b), (1, .ref (ax 0)), (2, .ref (am 0)), (3, .int x3)] [] sx2 sm2) : GL l D cI cZ cJ ax am p e s m below meth c b 866 [(0, .ref b), (1, .ref (ax 0)), (2, .ref (am 0)), (3, .int x3)] [] sx sm := by
  obtain ⟨r, sm2, hx1, hm1, hi2⟩ := hI a1 sx sm hi
  refine L_aload_n hC d_law_866 rfl 1 rfl ?_
  refine L_aload_n hC d_law_867 rfl 0 rfl ?_
  refine L_iload_n hC d_law_868 rfl 3 rfl ?_
  refine L_iconst hC d_law_869 lt_iconst_1 ?_
  refine L_iadd hC d_law_870 ?_
  refine L_sld hC d_law_871 h1 e1 ?_
  refine L_callX (As := [.int a1]) (st := []) hC d_law_872 mi_Hb_lane w_713 rfl rfl mv_Hb_lane rfl (Nat.le_of_ble_eq_true rfl) (by decide) (c_Hb_lane a1 sx (P := fun q => q = r) ⟨r, hx1, rfl⟩) (fun v z hq => ?_)
  obtain ⟨hq2, hq1⟩ := hq
  rw [hq1, hq2]
  refine L_aload_n hC d_law_875 rfl 2 rfl ?_
  refine L_aload_n hC d_law_876 rfl 0 rfl ?_
  refine L_iload_n hC d_law_877 rfl 3 rfl ?_
  refine L_iconst hC d_law_878 lt_iconst_1 ?_
  refine L_iadd hC d_law_879 ?_
  refine L_sld hC d_law_880 h1 e1 ?_
  refine L_callM (As := [.int a1]) (st := [.int r]) hC d_law_881 mi_Md_lane w_1224 rfl rfl mv_Md_lane rfl (Nat.le_of_ble_eq_true rfl) (by decide) (c_Md_lane a1 sm (P := fun q z => q = r ∧ z = sm2) ⟨r, sm2, hm1, rfl, rfl⟩) (fun v z hq => ?_)
  obtain ⟨hq1, hq2⟩ := hq
  rw [hq1, hq2]
  refine L_icmp_eq (tgt := 1120) hC d_law_884 (by decide) (fun _ => ?_) (fun h9 => absurd rfl h9)
  exact kk _ _ hi2
theorem law_feed {I : MS → MS → Prop} (hI : St_feed I) {l : Launch} {D : va_G} {cI cZ cJ : ClassId} {ax am : Nat → Nat} {p : Program} {e : Env} {s : State} {m : MethodId} {below : List Frame} {meth : Method} {c : Code} {b L : Nat} {xs : Nat → Int32} (hC : LC p s m meth c b L xs D cI cZ cJ) (x3 a1 a2 a3 a4 a5 : Int32) (h1 : vp_in (x3 + 1) L) (h2 : vp_in (x3 + 2) L) (h3 : vp_in (x3 + 3) L) (h4 : vp_in (x3 + 4) L) (h5 : vp_in (x3 + 5) L) (e1 : xs (x3 + 1).toNatClampNeg = a1) (e2 : xs (x3 + 2).toNatClampNeg = a2) (e3 : xs (x3 + 3).toNatClampNeg = a3) (e4 : xs (x3 + 4).toNatClampNeg = a4) (e5 : xs (x3 + 5).toNatClampNeg = a5) (sx sm : MS) (hi : I sx sm) (kk : ∀ sx2 sm2, I sx2 sm2 → GL l D cI cZ cJ ax am p e s m below meth c b 1120 [(0, .ref b), (1, .ref (ax 0)), (2, .ref (am 0)), (3, .int x3)] [] sx2 sm2) : GL l D cI cZ cJ ax am p e s m below meth c b 889 [(0, .ref b), (1, .ref (ax 0)), (2, .ref (am 0)), (3, .int x3)] [] sx sm := by
  obtain ⟨r, sx2, sm2, hx1, hm1, hi2⟩ := hI a1 a2 a3 a4 a5 sx sm hi
  refine L_aload_n hC d_law_889 rfl 1 rfl ?_
  refine L_aload_n hC d_law_890 rfl 0 rfl ?_
  refine L_iload_n hC d_law_891 rfl 3 rfl ?_
  refine L_iconst hC d_law_892 lt_iconst_1 ?_
  refine L_iadd hC d_law_893 ?_
  refine L_sld hC d_law_894 h1 e1 ?_
  refine L_aload_n hC d_law_895 rfl 0 rfl ?_
  refine L_iload_n hC d_law_896 rfl 3 rfl ?_
  refine L_iconst hC d_law_897 lt_iconst_2 ?_
  refine L_iadd hC d_law_898 ?_
  refine L_sld hC d_law_899 h2 e2 ?_
  refine L_aload_n hC d_law_900 rfl 0 rfl ?_
  refine L_iload_n hC d_law_901 rfl 3 rfl ?_
  refine L_iconst hC d_law_902 lt_iconst_3 ?_
  refine L_iadd hC d_law_903 ?_
  refine L_sld hC d_law_904 h3 e3 ?_
  refine L_aload_n hC d_law_905 rfl 0 rfl ?_
  refine L_iload_n hC d_law_906 rfl 3 rfl ?_
  refine L_iconst hC d_law_907 lt_iconst_4 ?_
  refine L_iadd hC d_law_908 ?_
  refine L_sld hC d_law_909 h4 e4 ?_
  refine L_aload_n hC d_law_910 rfl 0 rfl ?_
  refine L_iload_n hC d_law_911 rfl 3 rfl ?_
  refine L_iconst hC d_law_912 lt_iconst_5 ?_
  refine L_iadd hC d_law_913 ?_
  refine L_sld hC d_law_914 h5 e5 ?_
  refine L_callX (As := [.int a1, .int a2, .int a3, .int a4, .int a5]) (st := []) hC d_law_915 mi_Hb_feed w_717 rfl rfl mv_Hb_feed rfl (Nat.le_of_ble_eq_true rfl) (by decide) (c_Hb_feed a1 a2 a3 a4 a5 sx (P := fun q z => q = r ∧ z = sx2) ⟨r, sx2, hx1, rfl, rfl⟩) (fun v z hq => ?_)
  obtain ⟨hq1, hq2⟩ := hq
  rw [hq1, hq2]
  refine L_aload_n hC d_law_918 rfl 2 rfl ?_
  refine L_aload_n hC d_law_919 rfl 0 rfl ?_
  refine L_iload_n hC d_law_920 rfl 3 rfl ?_
  refine L_iconst hC d_law_921 lt_iconst_1 ?_
  refine L_iadd hC d_law_922 ?_
  refine L_sld hC d_law_923 h1 e1 ?_
  refine L_aload_n hC d_law_924 rfl 0 rfl ?_
  refine L_iload_n hC d_law_925 rfl 3 rfl ?_
  refine L_iconst hC d_law_926 lt_iconst_2 ?_
  refine L_iadd hC d_law_927 ?_
  refine L_sld hC d_law_928 h2 e2 ?_
  refine L_aload_n hC d_law_929 rfl 0 rfl ?_
  refine L_iload_n hC d_law_930 rfl 3 rfl ?_
  refine L_iconst hC d_law_931 lt_iconst_3 ?_
  refine L_iadd hC d_law_932 ?_
  refine L_sld hC d_law_933 h3 e3 ?_
  refine L_aload_n hC d_law_934 rfl 0 rfl ?_
  refine L_iload_n hC d_law_935 rfl 3 rfl ?_
  refine L_iconst hC d_law_936 lt_iconst_4 ?_
  refine L_iadd hC d_law_937 ?_
  refine L_sld hC d_law_938 h4 e4 ?_
  refine L_aload_n hC d_law_939 rfl 0 rfl ?_
  refine L_iload_n hC d_law_940 rfl 3 rfl ?_
  refine L_iconst hC d_law_941 lt_iconst_5 ?_
  refine L_iadd hC d_law_942 ?_
  refine L_sld hC d_law_943 h5 e5 ?_
  refine L_callM (As := [.int a1, .int a2, .int a3, .int a4, .int a5]) (st := [.int r]) hC d_law_944 mi_Md_feed w_1228 rfl rfl mv_Md_feed rfl (Nat.le_of_ble_eq_true rfl) (by decide) (c_Md_feed a1 a2 a3 a4 a5 sm (P := fun q z => q = r ∧ z = sm2) ⟨r, sm2, hm1, rfl, rfl⟩) (fun v z hq => ?_)
  obtain ⟨hq1, hq2⟩ := hq
  rw [hq1, hq2]
  refine L_icmp_eq (tgt := 1120) hC d_law_947 (by decide) (fun _ => ?_) (fun h9 => absurd rfl h9)
  exact kk _ _ hi2
theorem law_end {I : MS → MS → Prop} (hI : St_end I) {l : Launch} {D : va_G} {cI cZ cJ : ClassId} {ax am : Nat → Nat} {p : Program} {e : Env} {s : State} {m : MethodId} {below : List Frame} {meth : Method} {c : Code} {b L : Nat} {xs : Nat → Int32} (hC : LC p s m meth c b L xs D cI cZ cJ) (x3 a1 a2 a3 a4 a5 : Int32) (h1 : vp_in (x3 + 1) L) (h2 : vp_in (x3 + 2) L) (h3 : vp_in (x3 + 3) L) (h4 : vp_in (x3 + 4) L) (h5 : vp_in (x3 + 5) L) (e1 : xs (x3 + 1).toNatClampNeg = a1) (e2 : xs (x3 + 2).toNatClampNeg = a2) (e3 : xs (x3 + 3).toNatClampNeg = a3) (e4 : xs (x3 + 4).toNatClampNeg = a4) (e5 : xs (x3 + 5).toNatClampNeg = a5) (sx sm : MS) (hi : I sx sm) (kk : ∀ sx2 sm2, I sx2 sm2 → GL l D cI cZ cJ ax am p e s m below meth c b 1120 [(0, .ref b), (1, .ref (ax 0)), (2, .ref (am 0)), (3, .int x3)] [] sx2 sm2) : GL l D cI cZ cJ ax am p e s m below meth c b 952 [(0, .ref b), (1, .ref (ax 0)), (2, .ref (am 0)), (3, .int x3)] [] sx sm := by
  obtain ⟨r, sx2, sm2, hx1, hm1, hi2⟩ := hI a1 sx sm hi
  refine L_aload_n hC d_law_952 rfl 1 rfl ?_
  refine L_aload_n hC d_law_953 rfl 0 rfl ?_
  refine L_iload_n hC d_law_954 rfl 3 rfl ?_
  refine L_iconst hC d_law_955 lt_iconst_1 ?_
  refine L_iadd hC d_law_956 ?_
  refine L_sld hC d_law_957 h1 e1 ?_
  refine L_callX (As := [.int a1]) (st := []) hC d_law_958 mi_Hb_end w_725 rfl rfl mv_Hb_end rfl (Nat.le_of_ble_eq_true rfl) (by decide) (c_Hb_end a1 sx (P := fun q z => q = r ∧ z = sx2) ⟨r, sx2, hx1, rfl, rfl⟩) (fun v z hq => ?_)
  obtain ⟨hq1, hq2⟩ := hq
  rw [hq1, hq2]
  refine L_aload_n hC d_law_961 rfl 2 rfl ?_
  refine L_aload_n hC d_law_962 rfl 0 rfl ?_
  refine L_iload_n hC d_law_963 rfl 3 rfl ?_
  refine L_iconst hC d_law_964 lt_iconst_1 ?_
  refine L_iadd hC d_law_965 ?_
  refine L_sld hC d_law_966 h1 e1 ?_
  refine L_callM (As := [.int a1]) (st := [.int r]) hC d_law_967 mi_Md_end w_1236 rfl rfl mv_Md_end rfl (Nat.le_of_ble_eq_true rfl) (by decide) (c_Md_end a1 sm (P := fun q z => q = r ∧ z = sm2) ⟨r, sm2, hm1, rfl, rfl⟩) (fun v z hq => ?_)
  obtain ⟨hq1, hq2⟩ := hq
  rw [hq1, hq2]
  refine L_icmp_eq (tgt := 1120) hC d_law_970 (by decide) (fun _ => ?_) (fun h9 => absurd rfl h9)
  exact kk _ _ hi2
theorem law_rule {I : MS → MS → Prop} (hI : St_rule I) {l : Launch} {D : va_G} {cI cZ cJ : ClassId} {ax am : Nat → Nat} {p : Program} {e : Env} {s : State} {m : MethodId} {below : List Frame} {meth : Method} {c : Code} {b L : Nat} {xs : Nat → Int32} (hC : LC p s m meth c b L xs D cI cZ cJ) (x3 a1 a2 a3 a4 a5 : Int32) (h1 : vp_in (x3 + 1) L) (h2 : vp_in (x3 + 2) L) (h3 : vp_in (x3 + 3) L) (h4 : vp_in (x3 + 4) L) (h5 : vp_in (x3 + 5) L) (e1 : xs (x3 + 1).toNatClampNeg = a1) (e2 : xs (x3 + 2).toNatClampNeg = a2) (e3 : xs (x3 + 3).toNatClampNeg = a3) (e4 : xs (x3 + 4).toNatClampNeg = a4) (e5 : xs (x3 + 5).toNatClampNeg = a5) (sx sm : MS) (hi : I sx sm) (kk : ∀ sx2 sm2, I sx2 sm2 → GL l D cI cZ cJ ax am p e s m below meth c b 1120 [(0, .ref b), (1, .ref (ax 0)), (2, .ref (am 0)), (3, .int x3)] [] sx2 sm2) : GL l D cI cZ cJ ax am p e s m below meth c b 975 [(0, .ref b), (1, .ref (ax 0)), (2, .ref (am 0)), (3, .int x3)] [] sx sm := by
  obtain ⟨r, sx2, sm2, hx1, hm1, hi2⟩ := hI a1 sx sm hi
  refine L_aload_n hC d_law_975 rfl 1 rfl ?_
  refine L_aload_n hC d_law_976 rfl 0 rfl ?_
  refine L_iload_n hC d_law_977 rfl 3 rfl ?_
  refine L_iconst hC d_law_978 lt_iconst_1 ?_
  refine L_iadd hC d_law_979 ?_
  refine L_sld hC d_law_980 h1 e1 ?_
  refine L_callX (As := [.int a1]) (st := []) hC d_law_981 mi_Hb_rule w_729 rfl rfl mv_Hb_rule rfl (Nat.le_of_ble_eq_true rfl) (by decide) (c_Hb_rule a1 sx (P := fun q z => q = r ∧ z = sx2) ⟨r, sx2, hx1, rfl, rfl⟩) (fun v z hq => ?_)
  obtain ⟨hq1, hq2⟩ := hq
  rw [hq1, hq2]
  refine L_aload_n hC d_law_984 rfl 2 rfl ?_
  refine L_aload_n hC d_law_985 rfl 0 rfl ?_
  refine L_iload_n hC d_law_986 rfl 3 rfl ?_
  refine L_iconst hC d_law_987 lt_iconst_1 ?_
  refine L_iadd hC d_law_988 ?_
  refine L_sld hC d_law_989 h1 e1 ?_
  refine L_callM (As := [.int a1]) (st := [.int r]) hC d_law_990 mi_Md_rule w_1240 rfl rfl mv_Md_rule rfl (Nat.le_of_ble_eq_true rfl) (by decide) (c_Md_rule a1 sm (P := fun q z => q = r ∧ z = sm2) ⟨r, sm2, hm1, rfl, rfl⟩) (fun v z hq => ?_)
  obtain ⟨hq1, hq2⟩ := hq
  rw [hq1, hq2]
  refine L_icmp_eq (tgt := 1120) hC d_law_993 (by decide) (fun _ => ?_) (fun h9 => absurd rfl h9)
  exact kk _ _ hi2
theorem law_fault {I : MS → MS → Prop} (hI : St_fault I) {l : Launch} {D : va_G} {cI cZ cJ : ClassId} {ax am : Nat → Nat} {p : Program} {e : Env} {s : State} {m : MethodId} {below : List Frame} {meth : Method} {c : Code} {b L : Nat} {xs : Nat → Int32} (hC : LC p s m meth c b L xs D cI cZ cJ) (x3 a1 a2 a3 a4 a5 : Int32) (h1 : vp_in (x3 + 1) L) (h2 : vp_in (x3 + 2) L) (h3 : vp_in (x3 + 3) L) (h4 : vp_in (x3 + 4) L) (h5 : vp_in (x3 + 5) L) (e1 : xs (x3 + 1).toNatClampNeg = a1) (e2 : xs (x3 + 2).toNatClampNeg = a2) (e3 : xs (x3 + 3).toNatClampNeg = a3) (e4 : xs (x3 + 4).toNatClampNeg = a4) (e5 : xs (x3 + 5).toNatClampNeg = a5) (sx sm : MS) (hi : I sx sm) (kk : ∀ sx2 sm2, I sx2 sm2 → GL l D cI cZ cJ ax am p e s m below meth c b 1120 [(0, .ref b), (1, .ref (ax 0)), (2, .ref (am 0)), (3, .int x3)] [] sx2 sm2) : GL l D cI cZ cJ ax am p e s m below meth c b 998 [(0, .ref b), (1, .ref (ax 0)), (2, .ref (am 0)), (3, .int x3)] [] sx sm := by
  obtain ⟨r, hx1, hm1, hi2⟩ := hI a1 sx sm hi
  refine L_aload_n hC d_law_998 rfl 1 rfl ?_
  refine L_aload_n hC d_law_999 rfl 0 rfl ?_
  refine L_iload_n hC d_law_1000 rfl 3 rfl ?_
  refine L_iconst hC d_law_1001 lt_iconst_1 ?_
  refine L_iadd hC d_law_1002 ?_
  refine L_sld hC d_law_1003 h1 e1 ?_
  refine L_callX (As := [.int a1]) (st := []) hC d_law_1004 mi_Hb_fault w_814 rfl rfl mv_Hb_fault rfl (Nat.le_of_ble_eq_true rfl) (by decide) (c_Hb_fault a1 sx (P := fun q => q = r) ⟨r, hx1, rfl⟩) (fun v z hq => ?_)
  obtain ⟨hq2, hq1⟩ := hq
  rw [hq1, hq2]
  refine L_aload_n hC d_law_1007 rfl 2 rfl ?_
  refine L_aload_n hC d_law_1008 rfl 0 rfl ?_
  refine L_iload_n hC d_law_1009 rfl 3 rfl ?_
  refine L_iconst hC d_law_1010 lt_iconst_1 ?_
  refine L_iadd hC d_law_1011 ?_
  refine L_sld hC d_law_1012 h1 e1 ?_
  refine L_callM (As := [.int a1]) (st := [.int r]) hC d_law_1013 mi_Md_fault w_1312 rfl rfl mv_Md_fault rfl (Nat.le_of_ble_eq_true rfl) (by decide) (c_Md_fault a1 sm (P := fun q => q = r) ⟨r, hm1, rfl⟩) (fun v z hq => ?_)
  obtain ⟨hq2, hq1⟩ := hq
  rw [hq1, hq2]
  refine L_icmp_eq (tgt := 1120) hC d_law_1016 (by decide) (fun _ => ?_) (fun h9 => absurd rfl h9)
  exact kk _ _ hi2
theorem law_says {I : MS → MS → Prop} (hI : St_says I) {l : Launch} {D : va_G} {cI cZ cJ : ClassId} {ax am : Nat → Nat} {p : Program} {e : Env} {s : State} {m : MethodId} {below : List Frame} {meth : Method} {c : Code} {b L : Nat} {xs : Nat → Int32} (hC : LC p s m meth c b L xs D cI cZ cJ) (x3 a1 a2 a3 a4 a5 : Int32) (h1 : vp_in (x3 + 1) L) (h2 : vp_in (x3 + 2) L) (h3 : vp_in (x3 + 3) L) (h4 : vp_in (x3 + 4) L) (h5 : vp_in (x3 + 5) L) (e1 : xs (x3 + 1).toNatClampNeg = a1) (e2 : xs (x3 + 2).toNatClampNeg = a2) (e3 : xs (x3 + 3).toNatClampNeg = a3) (e4 : xs (x3 + 4).toNatClampNeg = a4) (e5 : xs (x3 + 5).toNatClampNeg = a5) (sx sm : MS) (hi : I sx sm) (kk : ∀ sx2 sm2, I sx2 sm2 → GL l D cI cZ cJ ax am p e s m below meth c b 1120 [(0, .ref b), (1, .ref (ax 0)), (2, .ref (am 0)), (3, .int x3)] [] sx2 sm2) : GL l D cI cZ cJ ax am p e s m below meth c b 1021 [(0, .ref b), (1, .ref (ax 0)), (2, .ref (am 0)), (3, .int x3)] [] sx sm := by
  obtain ⟨r, sx2, sm2, hx1, hm1, hi2⟩ := hI a1 a2 a3 a4 sx sm hi
  refine L_aload_n hC d_law_1021 rfl 1 rfl ?_
  refine L_aload_n hC d_law_1022 rfl 0 rfl ?_
  refine L_iload_n hC d_law_1023 rfl 3 rfl ?_
  refine L_iconst hC d_law_1024 lt_iconst_1 ?_
  refine L_iadd hC d_law_1025 ?_
  refine L_sld hC d_law_1026 h1 e1 ?_
  refine L_aload_n hC d_law_1027 rfl 0 rfl ?_
  refine L_iload_n hC d_law_1028 rfl 3 rfl ?_
  refine L_iconst hC d_law_1029 lt_iconst_2 ?_
  refine L_iadd hC d_law_1030 ?_
  refine L_sld hC d_law_1031 h2 e2 ?_
  refine L_aload_n hC d_law_1032 rfl 0 rfl ?_
  refine L_iload_n hC d_law_1033 rfl 3 rfl ?_
  refine L_iconst hC d_law_1034 lt_iconst_3 ?_
  refine L_iadd hC d_law_1035 ?_
  refine L_sld hC d_law_1036 h3 e3 ?_
  refine L_aload_n hC d_law_1037 rfl 0 rfl ?_
  refine L_iload_n hC d_law_1038 rfl 3 rfl ?_
  refine L_iconst hC d_law_1039 lt_iconst_4 ?_
  refine L_iadd hC d_law_1040 ?_
  refine L_sld hC d_law_1041 h4 e4 ?_
  refine L_callX (As := [.int a1, .int a2, .int a3, .int a4]) (st := []) hC d_law_1042 mi_Hb_says w_818 rfl rfl mv_Hb_says rfl (Nat.le_of_ble_eq_true rfl) (by decide) (c_Hb_says a1 a2 a3 a4 sx (P := fun q z => q = r ∧ z = sx2) ⟨r, sx2, hx1, rfl, rfl⟩) (fun v z hq => ?_)
  obtain ⟨hq1, hq2⟩ := hq
  rw [hq1, hq2]
  refine L_aload_n hC d_law_1045 rfl 2 rfl ?_
  refine L_aload_n hC d_law_1046 rfl 0 rfl ?_
  refine L_iload_n hC d_law_1047 rfl 3 rfl ?_
  refine L_iconst hC d_law_1048 lt_iconst_1 ?_
  refine L_iadd hC d_law_1049 ?_
  refine L_sld hC d_law_1050 h1 e1 ?_
  refine L_aload_n hC d_law_1051 rfl 0 rfl ?_
  refine L_iload_n hC d_law_1052 rfl 3 rfl ?_
  refine L_iconst hC d_law_1053 lt_iconst_2 ?_
  refine L_iadd hC d_law_1054 ?_
  refine L_sld hC d_law_1055 h2 e2 ?_
  refine L_aload_n hC d_law_1056 rfl 0 rfl ?_
  refine L_iload_n hC d_law_1057 rfl 3 rfl ?_
  refine L_iconst hC d_law_1058 lt_iconst_3 ?_
  refine L_iadd hC d_law_1059 ?_
  refine L_sld hC d_law_1060 h3 e3 ?_
  refine L_aload_n hC d_law_1061 rfl 0 rfl ?_
  refine L_iload_n hC d_law_1062 rfl 3 rfl ?_
  refine L_iconst hC d_law_1063 lt_iconst_4 ?_
  refine L_iadd hC d_law_1064 ?_
  refine L_sld hC d_law_1065 h4 e4 ?_
  refine L_callM (As := [.int a1, .int a2, .int a3, .int a4]) (st := [.int r]) hC d_law_1066 mi_Md_says w_1316 rfl rfl mv_Md_says rfl (Nat.le_of_ble_eq_true rfl) (by decide) (c_Md_says a1 a2 a3 a4 sm (P := fun q z => q = r ∧ z = sm2) ⟨r, sm2, hm1, rfl, rfl⟩) (fun v z hq => ?_)
  obtain ⟨hq1, hq2⟩ := hq
  rw [hq1, hq2]
  refine L_icmp_eq (tgt := 1120) hC d_law_1069 (by decide) (fun _ => ?_) (fun h9 => absurd rfl h9)
  exact kk _ _ hi2
theorem law_owes {I : MS → MS → Prop} (hI : St_owes I) {l : Launch} {D : va_G} {cI cZ cJ : ClassId} {ax am : Nat → Nat} {p : Program} {e : Env} {s : State} {m : MethodId} {below : List Frame} {meth : Method} {c : Code} {b L : Nat} {xs : Nat → Int32} (hC : LC p s m meth c b L xs D cI cZ cJ) (x3 a1 a2 a3 a4 a5 : Int32) (h1 : vp_in (x3 + 1) L) (h2 : vp_in (x3 + 2) L) (h3 : vp_in (x3 + 3) L) (h4 : vp_in (x3 + 4) L) (h5 : vp_in (x3 + 5) L) (e1 : xs (x3 + 1).toNatClampNeg = a1) (e2 : xs (x3 + 2).toNatClampNeg = a2) (e3 : xs (x3 + 3).toNatClampNeg = a3) (e4 : xs (x3 + 4).toNatClampNeg = a4) (e5 : xs (x3 + 5).toNatClampNeg = a5) (sx sm : MS) (hi : I sx sm) (kk : ∀ sx2 sm2, I sx2 sm2 → GL l D cI cZ cJ ax am p e s m below meth c b 1120 [(0, .ref b), (1, .ref (ax 0)), (2, .ref (am 0)), (3, .int x3)] [] sx2 sm2) : GL l D cI cZ cJ ax am p e s m below meth c b 1074 [(0, .ref b), (1, .ref (ax 0)), (2, .ref (am 0)), (3, .int x3)] [] sx sm := by
  obtain ⟨r, sx2, sm2, hx1, hm1, hi2⟩ := hI a1 sx sm hi
  refine L_aload_n hC d_law_1074 rfl 1 rfl ?_
  refine L_aload_n hC d_law_1075 rfl 0 rfl ?_
  refine L_iload_n hC d_law_1076 rfl 3 rfl ?_
  refine L_iconst hC d_law_1077 lt_iconst_1 ?_
  refine L_iadd hC d_law_1078 ?_
  refine L_sld hC d_law_1079 h1 e1 ?_
  refine L_callX (As := [.int a1]) (st := []) hC d_law_1080 mi_Hb_owes w_822 rfl rfl mv_Hb_owes rfl (Nat.le_of_ble_eq_true rfl) (by decide) (c_Hb_owes a1 sx (P := fun q z => q = r ∧ z = sx2) ⟨r, sx2, hx1, rfl, rfl⟩) (fun v z hq => ?_)
  obtain ⟨hq1, hq2⟩ := hq
  rw [hq1, hq2]
  refine L_aload_n hC d_law_1083 rfl 2 rfl ?_
  refine L_aload_n hC d_law_1084 rfl 0 rfl ?_
  refine L_iload_n hC d_law_1085 rfl 3 rfl ?_
  refine L_iconst hC d_law_1086 lt_iconst_1 ?_
  refine L_iadd hC d_law_1087 ?_
  refine L_sld hC d_law_1088 h1 e1 ?_
  refine L_callM (As := [.int a1]) (st := [.int r]) hC d_law_1089 mi_Md_owes w_1320 rfl rfl mv_Md_owes rfl (Nat.le_of_ble_eq_true rfl) (by decide) (c_Md_owes a1 sm (P := fun q z => q = r ∧ z = sm2) ⟨r, sm2, hm1, rfl, rfl⟩) (fun v z hq => ?_)
  obtain ⟨hq1, hq2⟩ := hq
  rw [hq1, hq2]
  refine L_icmp_eq (tgt := 1120) hC d_law_1092 (by decide) (fun _ => ?_) (fun h9 => absurd rfl h9)
  exact kk _ _ hi2
theorem law_about {I : MS → MS → Prop} (hI : St_about I) {l : Launch} {D : va_G} {cI cZ cJ : ClassId} {ax am : Nat → Nat} {p : Program} {e : Env} {s : State} {m : MethodId} {below : List Frame} {meth : Method} {c : Code} {b L : Nat} {xs : Nat → Int32} (hC : LC p s m meth c b L xs D cI cZ cJ) (x3 a1 a2 a3 a4 a5 : Int32) (h1 : vp_in (x3 + 1) L) (h2 : vp_in (x3 + 2) L) (h3 : vp_in (x3 + 3) L) (h4 : vp_in (x3 + 4) L) (h5 : vp_in (x3 + 5) L) (e1 : xs (x3 + 1).toNatClampNeg = a1) (e2 : xs (x3 + 2).toNatClampNeg = a2) (e3 : xs (x3 + 3).toNatClampNeg = a3) (e4 : xs (x3 + 4).toNatClampNeg = a4) (e5 : xs (x3 + 5).toNatClampNeg = a5) (sx sm : MS) (hi : I sx sm) (kk : ∀ sx2 sm2, I sx2 sm2 → GL l D cI cZ cJ ax am p e s m below meth c b 1120 [(0, .ref b), (1, .ref (ax 0)), (2, .ref (am 0)), (3, .int x3)] [] sx2 sm2) : GL l D cI cZ cJ ax am p e s m below meth c b 1097 [(0, .ref b), (1, .ref (ax 0)), (2, .ref (am 0)), (3, .int x3)] [] sx sm := by
  obtain ⟨r, hx1, hm1, hi2⟩ := hI a1 sx sm hi
  refine L_aload_n hC d_law_1097 rfl 1 rfl ?_
  refine L_aload_n hC d_law_1098 rfl 0 rfl ?_
  refine L_iload_n hC d_law_1099 rfl 3 rfl ?_
  refine L_iconst hC d_law_1100 lt_iconst_1 ?_
  refine L_iadd hC d_law_1101 ?_
  refine L_sld hC d_law_1102 h1 e1 ?_
  refine L_callX (As := [.int a1]) (st := []) hC d_law_1103 mi_Hb_about w_826 rfl rfl mv_Hb_about rfl (Nat.le_of_ble_eq_true rfl) (by decide) (c_Hb_about a1 sx (P := fun q => q = r) ⟨r, hx1, rfl⟩) (fun v z hq => ?_)
  obtain ⟨hq2, hq1⟩ := hq
  rw [hq1, hq2]
  refine L_aload_n hC d_law_1106 rfl 2 rfl ?_
  refine L_aload_n hC d_law_1107 rfl 0 rfl ?_
  refine L_iload_n hC d_law_1108 rfl 3 rfl ?_
  refine L_iconst hC d_law_1109 lt_iconst_1 ?_
  refine L_iadd hC d_law_1110 ?_
  refine L_sld hC d_law_1111 h1 e1 ?_
  refine L_callM (As := [.int a1]) (st := [.int r]) hC d_law_1112 mi_Md_about w_1324 rfl rfl mv_Md_about rfl (Nat.le_of_ble_eq_true rfl) (by decide) (c_Md_about a1 sm (P := fun q => q = r) ⟨r, hm1, rfl⟩) (fun v z hq => ?_)
  obtain ⟨hq2, hq1⟩ := hq
  rw [hq1, hq2]
  refine L_icmp_eq (tgt := 1120) hC d_law_1115 (by decide) (fun _ => ?_) (fun h9 => absurd rfl h9)
  exact kk _ _ hi2
def Steps_ok (I : MS → MS → Prop) : Prop := St_levels I ∧ St_level I ∧ St_berth I ∧ St_boat I ∧ St_away I ∧ St_stay I ∧ St_leaves I ∧ St_home I ∧ St_moved I ∧ St_stayOf I ∧ St_lies I ∧ St_boatOf I ∧ St_fits I ∧ St_hoist I ∧ St_broken I ∧ St_lift I ∧ St_lifted I ∧ St_shed I ∧ St_winter I ∧ St_moves I ∧ St_lane I ∧ St_feed I ∧ St_end I ∧ St_rule I ∧ St_fault I ∧ St_says I ∧ St_owes I ∧ St_about I
theorem law_loop {I : MS → MS → Prop} (hSt : Steps_ok I) {l : Launch} {D : va_G} {cI cZ cJ : ClassId} {ax am : Nat → Nat} {p : Program} {e : Env} {s : State} {m : MethodId} {below : List Frame} {meth : Method} {c : Code} {b L : Nat} {xs : Nat → Int32} (hL : L ≤ 3072) (hC : LC p s m meth c b L xs D cI cZ cJ) :
    ∀ (n i : Nat) (x3 : Int32), i ≤ L → L + 1 ≤ i + n → x3 = nI i → ∀ (sx sm : MS), I sx sm → GL l D cI cZ cJ ax am p e s m below meth c b 18 [(0, .ref b), (1, .ref (ax 0)), (2, .ref (am 0)), (3, .int x3)] [] sx sm := by
  obtain ⟨t0, t1, t2, t3, t4, t5, t6, t7, t8, t9, t10, t11, t12, t13, t14, t15, t16, t17, t18, t19, t20, t21, t22, t23, t24, t25, t26, t27⟩ := hSt
  intro n
  induction n with
  | zero =>
    intro i x3 h1 h2
    exact absurd h2 (by omega)
  | succ n ih =>
    intro i x3 hi hin e3 sx sm hinv
    refine L_iload_n hC d_law_18 rfl 3 rfl ?_
    refine L_aload_n hC d_law_19 rfl 0 rfl ?_
    refine L_slen hC d_law_20 ?_
    refine L_bipush hC d_law_21 lt_bipush_6 ?_
    refine L_isub hC d_law_23 ?_
    have hti : (Int32.ofNat L - (6 : Int32)).toInt = (L : Int) - 6 := pk_sub_toInt (a := L) (b := 6) (by omega) (by omega)
    have hx3 : x3.toInt = (i : Int) := by rw [e3]; exact nI_toInt (by omega)
    refine L_icmp_gt (tgt := 1126) hC d_law_24 (by decide) (fun c1 => ?_) (fun c1 => ?_)
    · intro H locs ls hP hD hS hl
      obtain ⟨hx, hb, hr, hml, hown, hts, hX, hbl, hlocks, hgv⟩ := hC.1
      refine lv_iconst (v := 1) hx hb d_law_1126 (by decide) ?_
      refine va_forget (fun q hq => hS.2.2 q hq) ?_
      refine W.widen (k := 600000) (n := 7302249) (by omega) (by omega) ?_
      exact lw_ret hx hb hr hlocks d_law_1127
    have hle : i + 6 ≤ L := by
      rw [Int32.lt_iff_toInt_lt, hti, hx3] at c1
      omega
    have hv : ∀ (j : Nat) (y : Int32), j ≤ 5 → y = nI j → vp_in (x3 + y) L := fun j y hj ey => by
      rw [e3, ey, nI_add]
      exact vp_in_nI (by omega) (by omega)
    have h0 : vp_in x3 L := by rw [e3]; exact vp_in_nI (by omega) (by omega)
    have kk : ∀ sx2 sm2, I sx2 sm2 → GL l D cI cZ cJ ax am p e s m below meth c b 1120 [(0, .ref b), (1, .ref (ax 0)), (2, .ref (am 0)), (3, .int x3)] [] sx2 sm2 := by
      intro sx2 sm2 hi2
      refine L_iinc (v := x3 + 6) (lv2 := [(3, .int (x3 + 6)), (0, .ref b), (1, .ref (ax 0)), (2, .ref (am 0))]) hC d_law_1120 3 rfl lt_iconst_6 rfl (by decide) rfl ?_
      refine L_goto (tgt := 18) hC d_law_1123 (by decide) ?_
      refine L_lv hC [1, 2, 3, 0] rfl ?_
      exact ih (i + 6) (x3 + 6) hle (by omega) (by rw [e3]; exact nI_add i 6) sx2 sm2 hi2
    refine L_aload_n hC d_law_27 rfl 0 rfl ?_
    refine L_iload_n hC d_law_28 rfl 3 rfl ?_
    refine L_sld hC d_law_29 h0 rfl ?_
    refine L_bipush hC d_law_30 lt_bipush_31 ?_
    refine L_iand hC d_law_32 ?_
    generalize xs x3.toNatClampNeg &&& (31 : Int32) = v
    by_cases c0 : v = (0 : Int32)
    · refine L_tableIn (tgt := 160) hC d_law_33 (by rw [c0]; decide) (by rw [c0]; decide) (by rw [c0]; rfl) (by decide) ?_
      exact law_levels t0 hC x3 _ _ _ _ _ (hv 1 1 (by omega) rfl) (hv 2 2 (by omega) rfl) (hv 3 3 (by omega) rfl) (hv 4 4 (by omega) rfl) (hv 5 5 (by omega) rfl) rfl rfl rfl rfl rfl sx sm hinv kk
    have n0 := ne_ti (z := 0) (by decide) c0
    by_cases c1 : v = (1 : Int32)
    · refine L_tableIn (tgt := 183) hC d_law_33 (by rw [c1]; decide) (by rw [c1]; decide) (by rw [c1]; rfl) (by decide) ?_
      exact law_level t1 hC x3 _ _ _ _ _ (hv 1 1 (by omega) rfl) (hv 2 2 (by omega) rfl) (hv 3 3 (by omega) rfl) (hv 4 4 (by omega) rfl) (hv 5 5 (by omega) rfl) rfl rfl rfl rfl rfl sx sm hinv kk
    have n1 := ne_ti (z := 1) (by decide) c1
    by_cases c2 : v = (2 : Int32)
    · refine L_tableIn (tgt := 216) hC d_law_33 (by rw [c2]; decide) (by rw [c2]; decide) (by rw [c2]; rfl) (by decide) ?_
      exact law_berth t2 hC x3 _ _ _ _ _ (hv 1 1 (by omega) rfl) (hv 2 2 (by omega) rfl) (hv 3 3 (by omega) rfl) (hv 4 4 (by omega) rfl) (hv 5 5 (by omega) rfl) rfl rfl rfl rfl rfl sx sm hinv kk
    have n2 := ne_ti (z := 2) (by decide) c2
    by_cases c3 : v = (3 : Int32)
    · refine L_tableIn (tgt := 249) hC d_law_33 (by rw [c3]; decide) (by rw [c3]; decide) (by rw [c3]; rfl) (by decide) ?_
      exact law_boat t3 hC x3 _ _ _ _ _ (hv 1 1 (by omega) rfl) (hv 2 2 (by omega) rfl) (hv 3 3 (by omega) rfl) (hv 4 4 (by omega) rfl) (hv 5 5 (by omega) rfl) rfl rfl rfl rfl rfl sx sm hinv kk
    have n3 := ne_ti (z := 3) (by decide) c3
    by_cases c4 : v = (4 : Int32)
    · refine L_tableIn (tgt := 302) hC d_law_33 (by rw [c4]; decide) (by rw [c4]; decide) (by rw [c4]; rfl) (by decide) ?_
      exact law_away t4 hC x3 _ _ _ _ _ (hv 1 1 (by omega) rfl) (hv 2 2 (by omega) rfl) (hv 3 3 (by omega) rfl) (hv 4 4 (by omega) rfl) (hv 5 5 (by omega) rfl) rfl rfl rfl rfl rfl sx sm hinv kk
    have n4 := ne_ti (z := 4) (by decide) c4
    by_cases c5 : v = (5 : Int32)
    · refine L_tableIn (tgt := 345) hC d_law_33 (by rw [c5]; decide) (by rw [c5]; decide) (by rw [c5]; rfl) (by decide) ?_
      exact law_stay t5 hC x3 _ _ _ _ _ (hv 1 1 (by omega) rfl) (hv 2 2 (by omega) rfl) (hv 3 3 (by omega) rfl) (hv 4 4 (by omega) rfl) (hv 5 5 (by omega) rfl) rfl rfl rfl rfl rfl sx sm hinv kk
    have n5 := ne_ti (z := 5) (by decide) c5
    by_cases c6 : v = (6 : Int32)
    · refine L_tableIn (tgt := 388) hC d_law_33 (by rw [c6]; decide) (by rw [c6]; decide) (by rw [c6]; rfl) (by decide) ?_
      exact law_leaves t6 hC x3 _ _ _ _ _ (hv 1 1 (by omega) rfl) (hv 2 2 (by omega) rfl) (hv 3 3 (by omega) rfl) (hv 4 4 (by omega) rfl) (hv 5 5 (by omega) rfl) rfl rfl rfl rfl rfl sx sm hinv kk
    have n6 := ne_ti (z := 6) (by decide) c6
    by_cases c7 : v = (7 : Int32)
    · refine L_tableIn (tgt := 421) hC d_law_33 (by rw [c7]; decide) (by rw [c7]; decide) (by rw [c7]; rfl) (by decide) ?_
      exact law_home t7 hC x3 _ _ _ _ _ (hv 1 1 (by omega) rfl) (hv 2 2 (by omega) rfl) (hv 3 3 (by omega) rfl) (hv 4 4 (by omega) rfl) (hv 5 5 (by omega) rfl) rfl rfl rfl rfl rfl sx sm hinv kk
    have n7 := ne_ti (z := 7) (by decide) c7
    by_cases c8 : v = (8 : Int32)
    · refine L_tableIn (tgt := 454) hC d_law_33 (by rw [c8]; decide) (by rw [c8]; decide) (by rw [c8]; rfl) (by decide) ?_
      exact law_moved t8 hC x3 _ _ _ _ _ (hv 1 1 (by omega) rfl) (hv 2 2 (by omega) rfl) (hv 3 3 (by omega) rfl) (hv 4 4 (by omega) rfl) (hv 5 5 (by omega) rfl) rfl rfl rfl rfl rfl sx sm hinv kk
    have n8 := ne_ti (z := 8) (by decide) c8
    by_cases c9 : v = (9 : Int32)
    · refine L_tableIn (tgt := 487) hC d_law_33 (by rw [c9]; decide) (by rw [c9]; decide) (by rw [c9]; rfl) (by decide) ?_
      exact law_stayOf t9 hC x3 _ _ _ _ _ (hv 1 1 (by omega) rfl) (hv 2 2 (by omega) rfl) (hv 3 3 (by omega) rfl) (hv 4 4 (by omega) rfl) (hv 5 5 (by omega) rfl) rfl rfl rfl rfl rfl sx sm hinv kk
    have n9 := ne_ti (z := 9) (by decide) c9
    by_cases c10 : v = (10 : Int32)
    · refine L_tableIn (tgt := 520) hC d_law_33 (by rw [c10]; decide) (by rw [c10]; decide) (by rw [c10]; rfl) (by decide) ?_
      exact law_lies t10 hC x3 _ _ _ _ _ (hv 1 1 (by omega) rfl) (hv 2 2 (by omega) rfl) (hv 3 3 (by omega) rfl) (hv 4 4 (by omega) rfl) (hv 5 5 (by omega) rfl) rfl rfl rfl rfl rfl sx sm hinv kk
    have n10 := ne_ti (z := 10) (by decide) c10
    by_cases c11 : v = (11 : Int32)
    · refine L_tableIn (tgt := 553) hC d_law_33 (by rw [c11]; decide) (by rw [c11]; decide) (by rw [c11]; rfl) (by decide) ?_
      exact law_boatOf t11 hC x3 _ _ _ _ _ (hv 1 1 (by omega) rfl) (hv 2 2 (by omega) rfl) (hv 3 3 (by omega) rfl) (hv 4 4 (by omega) rfl) (hv 5 5 (by omega) rfl) rfl rfl rfl rfl rfl sx sm hinv kk
    have n11 := ne_ti (z := 11) (by decide) c11
    by_cases c12 : v = (12 : Int32)
    · refine L_tableIn (tgt := 586) hC d_law_33 (by rw [c12]; decide) (by rw [c12]; decide) (by rw [c12]; rfl) (by decide) ?_
      exact law_fits t12 hC x3 _ _ _ _ _ (hv 1 1 (by omega) rfl) (hv 2 2 (by omega) rfl) (hv 3 3 (by omega) rfl) (hv 4 4 (by omega) rfl) (hv 5 5 (by omega) rfl) rfl rfl rfl rfl rfl sx sm hinv kk
    have n12 := ne_ti (z := 12) (by decide) c12
    by_cases c13 : v = (13 : Int32)
    · refine L_tableIn (tgt := 629) hC d_law_33 (by rw [c13]; decide) (by rw [c13]; decide) (by rw [c13]; rfl) (by decide) ?_
      exact law_hoist t13 hC x3 _ _ _ _ _ (hv 1 1 (by omega) rfl) (hv 2 2 (by omega) rfl) (hv 3 3 (by omega) rfl) (hv 4 4 (by omega) rfl) (hv 5 5 (by omega) rfl) rfl rfl rfl rfl rfl sx sm hinv kk
    have n13 := ne_ti (z := 13) (by decide) c13
    by_cases c14 : v = (14 : Int32)
    · refine L_tableIn (tgt := 672) hC d_law_33 (by rw [c14]; decide) (by rw [c14]; decide) (by rw [c14]; rfl) (by decide) ?_
      exact law_broken t14 hC x3 _ _ _ _ _ (hv 1 1 (by omega) rfl) (hv 2 2 (by omega) rfl) (hv 3 3 (by omega) rfl) (hv 4 4 (by omega) rfl) (hv 5 5 (by omega) rfl) rfl rfl rfl rfl rfl sx sm hinv kk
    have n14 := ne_ti (z := 14) (by decide) c14
    by_cases c15 : v = (15 : Int32)
    · refine L_tableIn (tgt := 721) hC d_law_33 (by rw [c15]; decide) (by rw [c15]; decide) (by rw [c15]; rfl) (by decide) ?_
      exact law_lift t15 hC x3 _ _ _ _ _ (hv 1 1 (by omega) rfl) (hv 2 2 (by omega) rfl) (hv 3 3 (by omega) rfl) (hv 4 4 (by omega) rfl) (hv 5 5 (by omega) rfl) rfl rfl rfl rfl rfl sx sm hinv kk
    have n15 := ne_ti (z := 15) (by decide) c15
    by_cases c16 : v = (16 : Int32)
    · refine L_tableIn (tgt := 764) hC d_law_33 (by rw [c16]; decide) (by rw [c16]; decide) (by rw [c16]; rfl) (by decide) ?_
      exact law_lifted t16 hC x3 _ _ _ _ _ (hv 1 1 (by omega) rfl) (hv 2 2 (by omega) rfl) (hv 3 3 (by omega) rfl) (hv 4 4 (by omega) rfl) (hv 5 5 (by omega) rfl) rfl rfl rfl rfl rfl sx sm hinv kk
    have n16 := ne_ti (z := 16) (by decide) c16
    by_cases c17 : v = (17 : Int32)
    · refine L_tableIn (tgt := 787) hC d_law_33 (by rw [c17]; decide) (by rw [c17]; decide) (by rw [c17]; rfl) (by decide) ?_
      exact law_shed t17 hC x3 _ _ _ _ _ (hv 1 1 (by omega) rfl) (hv 2 2 (by omega) rfl) (hv 3 3 (by omega) rfl) (hv 4 4 (by omega) rfl) (hv 5 5 (by omega) rfl) rfl rfl rfl rfl rfl sx sm hinv kk
    have n17 := ne_ti (z := 17) (by decide) c17
    by_cases c18 : v = (18 : Int32)
    · refine L_tableIn (tgt := 820) hC d_law_33 (by rw [c18]; decide) (by rw [c18]; decide) (by rw [c18]; rfl) (by decide) ?_
      exact law_winter t18 hC x3 _ _ _ _ _ (hv 1 1 (by omega) rfl) (hv 2 2 (by omega) rfl) (hv 3 3 (by omega) rfl) (hv 4 4 (by omega) rfl) (hv 5 5 (by omega) rfl) rfl rfl rfl rfl rfl sx sm hinv kk
    have n18 := ne_ti (z := 18) (by decide) c18
    by_cases c19 : v = (19 : Int32)
    · refine L_tableIn (tgt := 853) hC d_law_33 (by rw [c19]; decide) (by rw [c19]; decide) (by rw [c19]; rfl) (by decide) ?_
      exact law_moves t19 hC x3 _ _ _ _ _ (hv 1 1 (by omega) rfl) (hv 2 2 (by omega) rfl) (hv 3 3 (by omega) rfl) (hv 4 4 (by omega) rfl) (hv 5 5 (by omega) rfl) rfl rfl rfl rfl rfl sx sm hinv kk
    have n19 := ne_ti (z := 19) (by decide) c19
    by_cases c20 : v = (20 : Int32)
    · refine L_tableIn (tgt := 866) hC d_law_33 (by rw [c20]; decide) (by rw [c20]; decide) (by rw [c20]; rfl) (by decide) ?_
      exact law_lane t20 hC x3 _ _ _ _ _ (hv 1 1 (by omega) rfl) (hv 2 2 (by omega) rfl) (hv 3 3 (by omega) rfl) (hv 4 4 (by omega) rfl) (hv 5 5 (by omega) rfl) rfl rfl rfl rfl rfl sx sm hinv kk
    have n20 := ne_ti (z := 20) (by decide) c20
    by_cases c21 : v = (21 : Int32)
    · refine L_tableIn (tgt := 889) hC d_law_33 (by rw [c21]; decide) (by rw [c21]; decide) (by rw [c21]; rfl) (by decide) ?_
      exact law_feed t21 hC x3 _ _ _ _ _ (hv 1 1 (by omega) rfl) (hv 2 2 (by omega) rfl) (hv 3 3 (by omega) rfl) (hv 4 4 (by omega) rfl) (hv 5 5 (by omega) rfl) rfl rfl rfl rfl rfl sx sm hinv kk
    have n21 := ne_ti (z := 21) (by decide) c21
    by_cases c22 : v = (22 : Int32)
    · refine L_tableIn (tgt := 952) hC d_law_33 (by rw [c22]; decide) (by rw [c22]; decide) (by rw [c22]; rfl) (by decide) ?_
      exact law_end t22 hC x3 _ _ _ _ _ (hv 1 1 (by omega) rfl) (hv 2 2 (by omega) rfl) (hv 3 3 (by omega) rfl) (hv 4 4 (by omega) rfl) (hv 5 5 (by omega) rfl) rfl rfl rfl rfl rfl sx sm hinv kk
    have n22 := ne_ti (z := 22) (by decide) c22
    by_cases c23 : v = (23 : Int32)
    · refine L_tableIn (tgt := 975) hC d_law_33 (by rw [c23]; decide) (by rw [c23]; decide) (by rw [c23]; rfl) (by decide) ?_
      exact law_rule t23 hC x3 _ _ _ _ _ (hv 1 1 (by omega) rfl) (hv 2 2 (by omega) rfl) (hv 3 3 (by omega) rfl) (hv 4 4 (by omega) rfl) (hv 5 5 (by omega) rfl) rfl rfl rfl rfl rfl sx sm hinv kk
    have n23 := ne_ti (z := 23) (by decide) c23
    by_cases c24 : v = (24 : Int32)
    · refine L_tableIn (tgt := 998) hC d_law_33 (by rw [c24]; decide) (by rw [c24]; decide) (by rw [c24]; rfl) (by decide) ?_
      exact law_fault t24 hC x3 _ _ _ _ _ (hv 1 1 (by omega) rfl) (hv 2 2 (by omega) rfl) (hv 3 3 (by omega) rfl) (hv 4 4 (by omega) rfl) (hv 5 5 (by omega) rfl) rfl rfl rfl rfl rfl sx sm hinv kk
    have n24 := ne_ti (z := 24) (by decide) c24
    by_cases c25 : v = (25 : Int32)
    · refine L_tableIn (tgt := 1021) hC d_law_33 (by rw [c25]; decide) (by rw [c25]; decide) (by rw [c25]; rfl) (by decide) ?_
      exact law_says t25 hC x3 _ _ _ _ _ (hv 1 1 (by omega) rfl) (hv 2 2 (by omega) rfl) (hv 3 3 (by omega) rfl) (hv 4 4 (by omega) rfl) (hv 5 5 (by omega) rfl) rfl rfl rfl rfl rfl sx sm hinv kk
    have n25 := ne_ti (z := 25) (by decide) c25
    by_cases c26 : v = (26 : Int32)
    · refine L_tableIn (tgt := 1074) hC d_law_33 (by rw [c26]; decide) (by rw [c26]; decide) (by rw [c26]; rfl) (by decide) ?_
      exact law_owes t26 hC x3 _ _ _ _ _ (hv 1 1 (by omega) rfl) (hv 2 2 (by omega) rfl) (hv 3 3 (by omega) rfl) (hv 4 4 (by omega) rfl) (hv 5 5 (by omega) rfl) rfl rfl rfl rfl rfl sx sm hinv kk
    have n26 := ne_ti (z := 26) (by decide) c26
    by_cases c27 : v = (27 : Int32)
    · refine L_tableIn (tgt := 1097) hC d_law_33 (by rw [c27]; decide) (by rw [c27]; decide) (by rw [c27]; rfl) (by decide) ?_
      exact law_about t27 hC x3 _ _ _ _ _ (hv 1 1 (by omega) rfl) (hv 2 2 (by omega) rfl) (hv 3 3 (by omega) rfl) (hv 4 4 (by omega) rfl) (hv 5 5 (by omega) rfl) rfl rfl rfl rfl rfl sx sm hinv kk
    have n27 := ne_ti (z := 27) (by decide) c27
    refine L_tableOut (tgt := 1120) hC d_law_33 (by omega) (by decide) ?_
    exact kk sx sm hinv
