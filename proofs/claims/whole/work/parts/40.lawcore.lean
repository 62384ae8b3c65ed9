/-! THE CLAIM OUT OF ONE WALK OF THE LAW'S BODY. Your part is whole_start (and what it stands on); all else here is the same for every law, but numbers. -/
def R_law : String := "SmallHarbourLaw"
def lw_P (b : Addr) (xs : List Int32) (args : Array Value) (s : State) : Prop := args = #[.ref b] ∧ s.IntsAt b xs ∧ xs.length ≤ 3072 ∧ (Jvm.Cond.and given_1 narrow_1).before args s = true
def lw_Q (_ : Array Value) (s : State) (o : Outcome) (t : State) : Prop := o = .returned (some (.int 1)) ∧ Framed s o t [] 600000 7302249
def lw_Z (below : List Frame) (a : Array Value) (s : State) : State → Prop := fun t => ∃ o, t.status = .running ∧ Ended t below o ∧ lw_Q a s o t
/-- the law's own end, with 1 on the stack, nothing written that was there before, its room as the claim has it -/
theorem lw_ret {p : Program} {l : Launch} {e : Env} {s : State} {m : MethodId} {below : List Frame} {meth : Method} {c : Code} {b : Nat} (hx : p.tables.exec = Jvm.exec) (hb : c.code = code) (hr : meth.sig.returnType = ret) (hlocks : meth.locks = false) {pc : Nat} {H : Heap} {ls : Array Slot} (hdg : decode code pc = .ok (.ireturn, 1)) : W p l e room_1 s m #[Value.ref b] below meth c H [] 600000 7302249 (lw_Z below #[Value.ref b] s) (F0 m pc ls [.int 1]) := by
  intro T hT X
  obtain ⟨fs, hret, hrun, hended, hW, hframe⟩ := X.leave (v := some (.int 1)) (hlocks := hlocks) (fun h => by rw [hr] at h; cases h)
  have hmeth' : T.vm.method? m = some meth := X.method'
  refine ⟨T.setFrames fs, ?_, .returned (some (.int 1)), hrun, hended, rfl, ⟨_, rfl⟩, hW, hframe⟩
  jvm_step X.here [X.here.top, hx, hb, hdg, hmeth', hr, ret, narrow_b1]
  (try refine ⟨rfl, ?_⟩); (try refine ⟨rfl, ?_⟩)
  first | (intro acts; rw [hret _ acts rfl rfl rfl]) | rw [hret _ _ rfl rfl rfl]
  exact Steps.refl _
/-- what holds at the law's entry: the machine, the code, the tables' words (any of lw_tbl by 'hts w (by decide +kernel)'), the script of L ints xs at the cell b, what the Statement gives of the start (any of its parts by flat_of_before) -/
def lw_At (p : Program) (s : State) (m : MethodId) (meth : Method) (c : Code) (b L : Nat) (xs : Nat → Int32) : Prop :=
  p.tables.exec = Jvm.exec ∧ c.code = code ∧ meth.sig.returnType = ret ∧ c.maxLocals = 4 ∧ s.vm.findClass R_law = some m.cls ∧ (∀ w ∈ lw_tbl, w.before #[Value.ref b] s = true) ∧ va_X b L xs s s.heap ∧ b < s.heap.size ∧ meth.locks = false ∧ (Jvm.Cond.and given_1 narrow_1).before #[Value.ref b] s = true
theorem ap_left {D : va_G} {cl : List vw_C} {a b : va_W} {H : Heap} (h : va_P D cl (a ++ b) H) : va_P D cl a H := fun k q hk => h k q (by rw [List.getElem?_append_left (List.getElem?_eq_some_iff.mp hk).1]; exact hk)
theorem ap_right {D : va_G} {cl : List vw_C} {a b : va_W} {H : Heap} (h : va_P D cl (a ++ b) H) : va_P D cl b H := fun k q hk => h (a.length + k) q (by rw [List.getElem?_append_right (by omega), Nat.add_sub_cancel_left]; exact hk)
theorem aD_left {A : Nat → Prop} {a b : va_W} (h : va_D A (a ++ b)) : va_D A a := ⟨fun i j p q hi hj e => h.1 i j p q (by rw [List.getElem?_append_left (List.getElem?_eq_some_iff.mp hi).1]; exact hi) (by rw [List.getElem?_append_left (List.getElem?_eq_some_iff.mp hj).1]; exact hj) e, fun k q hk => h.2 k q (by rw [List.getElem?_append_left (List.getElem?_eq_some_iff.mp hk).1]; exact hk)⟩
theorem aD_right {A : Nat → Prop} {a b : va_W} (h : va_D A (a ++ b)) : va_D A b := ⟨fun i j p q hi hj e => by
  have := h.1 (a.length + i) (a.length + j) p q (by rw [List.getElem?_append_right (by omega), Nat.add_sub_cancel_left]; exact hi) (by rw [List.getElem?_append_right (by omega), Nat.add_sub_cancel_left]; exact hj) e
  omega, fun k q hk => h.2 (a.length + k) q (by rw [List.getElem?_append_right (by omega), Nat.add_sub_cancel_left]; exact hk)⟩
theorem aD_apart {A : Nat → Prop} {a b : va_W} (h : va_D A (a ++ b)) {i j : Nat} {x y : Nat × va_E} (hx : a[i]? = some x) (hy : b[j]? = some y) : x.1 ≠ y.1 := fun e => by
  have hl := (List.getElem?_eq_some_iff.mp hx).1
  have := h.1 i (a.length + j) x y (by rw [List.getElem?_append_left hl]; exact hx) (by rw [List.getElem?_append_right (by omega), Nat.add_sub_cancel_left]; exact hy) e
  omega
theorem a_joinL {A : Nat → Prop} {D : va_G} {cl : List vw_C} {a b a1 : va_W} {H H1 : Heap} (hP : va_P D cl (a ++ b) H) (hD : va_D A (a ++ b)) (hk : ∀ q : Nat, q < H.size → ¬ va_A a H.size q → H1[q]? = H[q]?) (hF : ∀ q, va_A a H.size q → A q) (hP1 : va_P D cl a1 H1) (hD1 : va_D (va_A a H.size) a1) : va_P D cl (a1 ++ b) H1 ∧ va_D A (a1 ++ b) := by
  have out : ∀ (k : Nat) (q : Nat × va_E), b[k]? = some q → q.1 < H.size ∧ ¬ va_A a H.size q.1 := fun k q hq => by
    have hl := (ap_right hP k q hq).lt
    refine ⟨hl, fun h => ?_⟩
    rcases h with ⟨i, e, h⟩ | h
    · exact aD_apart hD h hq rfl
    · omega
  exact ⟨va_P.app hP1 (fun k q hq => (ap_right hP k q hq).kept (hk q.1 (out k q hq).1 (out k q hq).2)), va_D.app (hD1.weaken (fun k q _ h => hF q.1 h)) (aD_right hD) (fun i j x y hx hy hxy => (out j y hy).2 (by rw [← hxy]; exact hD1.2 i x hx))⟩
theorem a_joinR {A : Nat → Prop} {D : va_G} {cl : List vw_C} {a b b1 : va_W} {H H1 : Heap} (hP : va_P D cl (a ++ b) H) (hD : va_D A (a ++ b)) (hk : ∀ q : Nat, q < H.size → ¬ va_A b H.size q → H1[q]? = H[q]?) (hF : ∀ q, va_A b H.size q → A q) (hP1 : va_P D cl b1 H1) (hD1 : va_D (va_A b H.size) b1) : va_P D cl (a ++ b1) H1 ∧ va_D A (a ++ b1) := by
  have out : ∀ (k : Nat) (q : Nat × va_E), a[k]? = some q → q.1 < H.size ∧ ¬ va_A b H.size q.1 := fun k q hq => by
    have hl := (ap_left hP k q hq).lt
    refine ⟨hl, fun h => ?_⟩
    rcases h with ⟨i, e, h⟩ | h
    · exact aD_apart hD hq h rfl
    · omega
  exact ⟨va_P.app (fun k q hq => (ap_left hP k q hq).kept (hk q.1 (out k q hq).1 (out k q hq).2)) hP1, va_D.app (aD_left hD) (hD1.weaken (fun k q _ h => hF q.1 h)) (fun i j x y hx hy hxy => (out i x hx).2 (by rw [hxy]; exact hD1.2 j y hy))⟩
theorem tbg_in {w : Cond} (h : w ∈ tbg) : w ∈ lw_tbl := (List.mem_filter.mp h).1
def LC (p : Program) (s : State) (m : MethodId) (meth : Method) (c : Code) (b L : Nat) (xs : Nat → Int32) (D : va_G) (cI cZ cJ : ClassId) : Prop := lw_At p s m meth c b L xs ∧ va_K D classes [(cI, .int), (cZ, .boolean), (cJ, .array .int)] s ∧ NL s
def GL (l : Launch) (D : va_G) (cI cZ cJ : ClassId) (ax am : Nat → Nat) (p : Program) (e : Env) (s : State) (m : MethodId) (below : List Frame) (meth : Method) (c : Code) (b : Nat) (pc : Nat) (lv : List (Nat × Value)) (st : List Value) (sx sm : MS) : Prop :=
  ∀ (H : Heap) (locs : List Loc) (ls : Array Slot), va_P D classes (EX ax cI cZ cJ sx ++ EM am cI cZ cJ sm) H → va_D (fun q : Nat => s.heap.size ≤ q) (EX ax cI cZ cJ sx ++ EM am cI cZ cJ sm) → va_S (fun q : Nat => s.heap.size ≤ q) s.heap H locs → lv_has ls 4 lv →
    W p l e room_1 s m #[Value.ref b] below meth c H locs 93 5856 (lw_Z below #[Value.ref b] s) (F0 m pc ls st)
section LR
variable {l : Launch} {D : va_G} {cI cZ cJ : ClassId} {ax am : Nat → Nat} {p : Program} {e : Env} {s : State} {m : MethodId} {below : List Frame} {meth : Method} {c : Code} {b L : Nat} {xs : Nat → Int32} {pc : Nat} {lv : List (Nat × Value)} {st : List Value} {sx sm : MS}
theorem L_iconst (hC : LC p s m meth c b L xs D cI cZ cJ) {z : Int} {v : Int32} (hd : decode code pc = .ok (.iconst z, 1)) (hv : Int32.ofInt z = v) (k : GL l D cI cZ cJ ax am p e s m below meth c b (pc + 1) lv (.int v :: st) sx sm) : GL l D cI cZ cJ ax am p e s m below meth c b pc lv st sx sm := by
  obtain ⟨hx, hb, hr, hml, hown, hts, hX, hbl, hlocks, hgv⟩ := hC.1
  intro H locs ls hP hD hS hl
  exact lv_iconst hx hb hd hv (k H locs ls hP hD hS hl)
theorem L_bipush (hC : LC p s m meth c b L xs D cI cZ cJ) {z : Int} {v : Int32} (hd : decode code pc = .ok (.bipush z, 2)) (hv : (Int8.ofInt z).toInt32 = v) (k : GL l D cI cZ cJ ax am p e s m below meth c b (pc + 2) lv (.int v :: st) sx sm) : GL l D cI cZ cJ ax am p e s m below meth c b pc lv st sx sm := by
  obtain ⟨hx, hb, hr, hml, hown, hts, hX, hbl, hlocks, hgv⟩ := hC.1
  intro H locs ls hP hD hS hl
  exact lv_bipush hx hb hd hv (k H locs ls hP hD hS hl)
theorem L_iload_n (hC : LC p s m meth c b L xs D cI cZ cJ) {j : Fin 4} {i : Nat} {v : Int32} (hd : decode code pc = .ok (.iload_n j, 1)) (hi : (j : Nat) = i) (q : Nat) (hq : lv[q]? = some (i, .int v)) (k : GL l D cI cZ cJ ax am p e s m below meth c b (pc + 1) lv (.int v :: st) sx sm) : GL l D cI cZ cJ ax am p e s m below meth c b pc lv st sx sm := by
  obtain ⟨hx, hb, hr, hml, hown, hts, hX, hbl, hlocks, hgv⟩ := hC.1
  intro H locs ls hP hD hS hl
  exact lv_iload_n hx hb hd hi (lv_at hl q hq) (k H locs ls hP hD hS hl)
theorem L_aload_n (hC : LC p s m meth c b L xs D cI cZ cJ) {j : Fin 4} {i a : Nat} (hd : decode code pc = .ok (.aload_n j, 1)) (hi : (j : Nat) = i) (q : Nat) (hq : lv[q]? = some (i, .ref a)) (k : GL l D cI cZ cJ ax am p e s m below meth c b (pc + 1) lv (.ref a :: st) sx sm) : GL l D cI cZ cJ ax am p e s m below meth c b pc lv st sx sm := by
  obtain ⟨hx, hb, hr, hml, hown, hts, hX, hbl, hlocks, hgv⟩ := hC.1
  intro H locs ls hP hD hS hl
  exact lv_aload_n hx hb hd hi (lv_at hl q hq) (k H locs ls hP hD hS hl)
theorem L_iadd (hC : LC p s m meth c b L xs D cI cZ cJ) {x y : Int32} (hd : decode code pc = .ok (.iadd, 1)) (k : GL l D cI cZ cJ ax am p e s m below meth c b (pc + 1) lv (.int (x + y) :: st) sx sm) : GL l D cI cZ cJ ax am p e s m below meth c b pc lv (.int y :: .int x :: st) sx sm := by
  obtain ⟨hx, hb, hr, hml, hown, hts, hX, hbl, hlocks, hgv⟩ := hC.1
  intro H locs ls hP hD hS hl
  exact lv_iadd hx hb hd (k H locs ls hP hD hS hl)
theorem L_isub (hC : LC p s m meth c b L xs D cI cZ cJ) {x y : Int32} (hd : decode code pc = .ok (.isub, 1)) (k : GL l D cI cZ cJ ax am p e s m below meth c b (pc + 1) lv (.int (x - y) :: st) sx sm) : GL l D cI cZ cJ ax am p e s m below meth c b pc lv (.int y :: .int x :: st) sx sm := by
  obtain ⟨hx, hb, hr, hml, hown, hts, hX, hbl, hlocks, hgv⟩ := hC.1
  intro H locs ls hP hD hS hl
  exact lv_isub hx hb hd (k H locs ls hP hD hS hl)
theorem L_iand (hC : LC p s m meth c b L xs D cI cZ cJ) {x y : Int32} (hd : decode code pc = .ok (.iand, 1)) (k : GL l D cI cZ cJ ax am p e s m below meth c b (pc + 1) lv (.int (x &&& y) :: st) sx sm) : GL l D cI cZ cJ ax am p e s m below meth c b pc lv (.int y :: .int x :: st) sx sm := by
  obtain ⟨hx, hb, hr, hml, hown, hts, hX, hbl, hlocks, hgv⟩ := hC.1
  intro H locs ls hP hD hS hl
  exact lv_iand hx hb hd (k H locs ls hP hD hS hl)
theorem L_sld (hC : LC p s m meth c b L xs D cI cZ cJ) {i v : Int32} (hd : decode code pc = .ok (.iaload, 1)) (hin : vp_in i L) (hv : xs i.toNatClampNeg = v) (k : GL l D cI cZ cJ ax am p e s m below meth c b (pc + 1) lv (.int v :: st) sx sm) : GL l D cI cZ cJ ax am p e s m below meth c b pc lv (.int i :: .ref b :: st) sx sm := by
  obtain ⟨hx, hb, hr, hml, hown, hts, hX, hbl, hlocks, hgv⟩ := hC.1
  intro H locs ls hP hD hS hl
  exact va_sld hx hb hX hbl (Nat.not_le.mpr hbl) hS hin hd (by rw [hv]; exact (k H locs ls hP hD hS hl))
theorem L_slen (hC : LC p s m meth c b L xs D cI cZ cJ) (hd : decode code pc = .ok (.arraylength, 1)) (k : GL l D cI cZ cJ ax am p e s m below meth c b (pc + 1) lv (.int (Int32.ofNat L) :: st) sx sm) : GL l D cI cZ cJ ax am p e s m below meth c b pc lv (.ref b :: st) sx sm := by
  obtain ⟨hx, hb, hr, hml, hown, hts, hX, hbl, hlocks, hgv⟩ := hC.1
  intro H locs ls hP hD hS hl
  exact va_slen hx hb hX hbl (Nat.not_le.mpr hbl) hS hd (k H locs ls hP hD hS hl)
theorem L_goto (hC : LC p s m meth c b L xs D cI cZ cJ) {off : Int} {tgt : Nat} (hd : decode code pc = .ok (.goto off, 3)) (ht : (pc : Int) + off = (tgt : Int)) (k : GL l D cI cZ cJ ax am p e s m below meth c b tgt lv st sx sm) : GL l D cI cZ cJ ax am p e s m below meth c b pc lv st sx sm := by
  obtain ⟨hx, hb, hr, hml, hown, hts, hX, hbl, hlocks, hgv⟩ := hC.1
  intro H locs ls hP hD hS hl
  exact lv_goto hx hb hd ht (k H locs ls hP hD hS hl)
theorem L_icmp_eq (hC : LC p s m meth c b L xs D cI cZ cJ) {x y : Int32} {off : Int} {tgt : Nat} (hd : decode code pc = .ok (.if_icmp .eq off, 3)) (ht : (pc : Int) + off = (tgt : Int)) (kt : x = y → GL l D cI cZ cJ ax am p e s m below meth c b tgt lv st sx sm) (kf : ¬ x = y → GL l D cI cZ cJ ax am p e s m below meth c b (pc + 3) lv st sx sm) : GL l D cI cZ cJ ax am p e s m below meth c b pc lv (.int y :: .int x :: st) sx sm := by
  obtain ⟨hx, hb, hr, hml, hown, hts, hX, hbl, hlocks, hgv⟩ := hC.1
  intro H locs ls hP hD hS hl
  exact lv_icmp_eq hx hb hd ht (fun h => kt h H locs ls hP hD hS hl) (fun h => kf h H locs ls hP hD hS hl)
theorem L_icmp_gt (hC : LC p s m meth c b L xs D cI cZ cJ) {x y : Int32} {off : Int} {tgt : Nat} (hd : decode code pc = .ok (.if_icmp .gt off, 3)) (ht : (pc : Int) + off = (tgt : Int)) (kt : y < x → GL l D cI cZ cJ ax am p e s m below meth c b tgt lv st sx sm) (kf : ¬ y < x → GL l D cI cZ cJ ax am p e s m below meth c b (pc + 3) lv st sx sm) : GL l D cI cZ cJ ax am p e s m below meth c b pc lv (.int y :: .int x :: st) sx sm := by
  obtain ⟨hx, hb, hr, hml, hown, hts, hX, hbl, hlocks, hgv⟩ := hC.1
  intro H locs ls hP hD hS hl
  exact lv_icmp_gt hx hb hd ht (fun h => kt h H locs ls hP hD hS hl) (fun h => kf h H locs ls hP hD hS hl)
theorem L_if_eq (hC : LC p s m meth c b L xs D cI cZ cJ) {x : Int32} {off : Int} {tgt : Nat} (hd : decode code pc = .ok (.ifCond .eq off, 3)) (ht : (pc : Int) + off = (tgt : Int)) (kt : x = 0 → GL l D cI cZ cJ ax am p e s m below meth c b tgt lv st sx sm) (kf : ¬ x = 0 → GL l D cI cZ cJ ax am p e s m below meth c b (pc + 3) lv st sx sm) : GL l D cI cZ cJ ax am p e s m below meth c b pc lv (.int x :: st) sx sm := by
  obtain ⟨hx, hb, hr, hml, hown, hts, hX, hbl, hlocks, hgv⟩ := hC.1
  intro H locs ls hP hD hS hl
  exact lv_if_eq hx hb hd ht (fun h => kt h H locs ls hP hD hS hl) (fun h => kf h H locs ls hP hD hS hl)
theorem L_tableOut (hC : LC p s m meth c b L xs D cI cZ cJ) {dflt lo hi : Int} {offs : Array Int} {len : Nat} {x : Int32} {tgt : Nat} (hd : decode code pc = .ok (.tableswitch dflt lo hi offs, len)) (h : x.toInt < lo ∨ hi < x.toInt) (ht : (pc : Int) + dflt = (tgt : Int)) (k : GL l D cI cZ cJ ax am p e s m below meth c b tgt lv st sx sm) : GL l D cI cZ cJ ax am p e s m below meth c b pc lv (.int x :: st) sx sm := by
  obtain ⟨hx, hb, hr, hml, hown, hts, hX, hbl, hlocks, hgv⟩ := hC.1
  intro H locs ls hP hD hS hl
  exact lv_tableOut hx hb hd h ht (k H locs ls hP hD hS hl)
theorem L_tableIn (hC : LC p s m meth c b L xs D cI cZ cJ) {dflt lo hi : Int} {offs : Array Int} {len : Nat} {x : Int32} {off : Int} {tgt : Nat} (hd : decode code pc = .ok (.tableswitch dflt lo hi offs, len)) (h1 : ¬ x.toInt < lo) (h2 : ¬ hi < x.toInt) (ho : offs[(x.toInt - lo).toNat]? = some off) (ht : (pc : Int) + off = (tgt : Int)) (k : GL l D cI cZ cJ ax am p e s m below meth c b tgt lv st sx sm) : GL l D cI cZ cJ ax am p e s m below meth c b pc lv (.int x :: st) sx sm := by
  obtain ⟨hx, hb, hr, hml, hown, hts, hX, hbl, hlocks, hgv⟩ := hC.1
  intro H locs ls hP hD hS hl
  exact lv_tableIn hx hb hd h1 h2 ho ht (k H locs ls hP hD hS hl)
theorem L_lv (hC : LC p s m meth c b L xs D cI cZ cJ) {lv2 : List (Nat × Value)} (ks : List Nat) (hk : lv_pick lv ks = lv2) (k : GL l D cI cZ cJ ax am p e s m below meth c b pc lv2 st sx sm) : GL l D cI cZ cJ ax am p e s m below meth c b pc lv st sx sm := by
  obtain ⟨hx, hb, hr, hml, hown, hts, hX, hbl, hlocks, hgv⟩ := hC.1
  intro H locs ls hP hD hS hl
  exact k H locs ls hP hD hS (lv_sub hl ks hk)
theorem L_iinc (hC : LC p s m meth c b L xs D cI cZ cJ) {i : Nat} {z : Int} {y w v : Int32} {lv2 : List (Nat × Value)} (hd : decode code pc = .ok (.iinc i z, 3)) (q : Nat) (hq : lv[q]? = some (i, .int y)) (hw : Int32.ofInt z = w) (hv : y + w = v) (hn : i < 4) (hl2 : (i, Value.int v) :: lv.filter (fun q => !(q.1 == i) && !(q.1 + 1 == i && q.2.category == 2)) = lv2) (k : GL l D cI cZ cJ ax am p e s m below meth c b (pc + 3) lv2 st sx sm) : GL l D cI cZ cJ ax am p e s m below meth c b pc lv st sx sm := by
  obtain ⟨hx, hb, hr, hml, hown, hts, hX, hbl, hlocks, hgv⟩ := hC.1
  intro H locs ls hP hD hS hl
  exact lv_iinc hx hb hd hl hq (by rw [hw]; exact hv) hn hl2 (fun ls hl => k H locs ls hP hD hS hl)
theorem L_callX (hC : LC p s m meth c b L xs D cI cZ cJ) {y : MethodName} {cc2 : ByteArray} {nL2 na index d2 : Nat} {ty : FieldType} {As : List Value} {Q2 : Int32 → MS → Prop} (hd : decode code pc = .ok (.invokevirtual index, 3)) (hm : MI y cc2 nL2 (some ty) na) (hw : Cond.methodLink R_law index y ∈ tbg) {ci N : Nat} {T : u_T} {fs : List Value} (he : (EX ax cI cZ cJ sx)[0]? = some (ax 0, .inr (ci, fs))) (hc : classes[ci]? = some (y.cls, T, N)) (hv : MV y) (hn : As.length = na) (hs : (st.map fun v => v.category).sum ≤ 8) (hd2 : d2 ≤ 1000) (hM : Ct (XX l D cI cZ cJ ax) y cc2 nL2 (some ty) d2 (.ref (ax 0) :: As) sx Q2)
    (k : ∀ (r : Int32) (s2 : MS), Q2 r s2 → GL l D cI cZ cJ ax am p e s m below meth c b (pc + 3) lv (.int r :: st) s2 sm) : GL l D cI cZ cJ ax am p e s m below meth c b pc lv (As.reverse ++ .ref (ax 0) :: st) sx sm := by
  obtain ⟨hx, hb, hr, hml, hown, hts, hX, hbl, hlocks, hgv⟩ := hC.1
  have hK := hC.2.1
  have hnl := hC.2.2
  intro H locs ls hP hD hS hl
  have hPc := ap_left hP
  have hDc := aD_left hD
  have hF := fr_free hDc hS (fun q h => h)
  have hg : ∀ w ∈ (Cond.code y cc2 nL2 (some ty) :: tbg), w ∈ lw_tbl ∧ ((w.onTables && w.keeps) = true ∨ ∃ t, w = .arrayClass t) := fun w h => (List.mem_cons.mp h).elim (fun e => ⟨tbg_in (e ▸ hm.1), (tb_good w (e ▸ hm.1)).2⟩) (fun q => ⟨tbg_in q, (tb_good w q).2⟩)
  have hcb := callB_of (R := room_1) (rm := RM d2) (mc := 0) (ms := 0) na hts hg rfl rfl rfl (hts _ (tbg_in hm.2.1)) (hts _ (tbg_in hw)) hm.2.2.1 ⟨by show d2 + 1 ≤ 2048; omega, by show 8 + (nL2 + 11) + 40 * d2 ≤ 84000; have := hm.2.2.2.1; omega⟩
  exact va_calli (va_runV (As := As) (rest := st) ⟨hx, hb, hml, hown, hts⟩ (hM H.size) ⟨hcb, hts _ (tbg_in hv.1), hts _ (tbg_in hv.2)⟩ ⟨wblind, va_recv hK hPc hc he, fun U hU hW => ⟨rfl, by rw [hU], by rw [hU]; exact hPc, va_K.moved hW.alike hK, hDc.weaken (fun _ _ _ _ => trivial), hnl.warm hW⟩⟩ rfl hn hl.1 rfl (lv_room hs) hd ⟨by show 93 + 0 ≤ 600000; omega, by show 5856 + 0 ≤ 7302249; omega⟩) hS (fun q _ h => hF q h) hF (fun r u t H1 locs1 ht hvm hq hB hz1 hk1 hS1 => by
    obtain ⟨hP1, hK1, hD1⟩ := hB
    rw [ht] at hP1
    obtain ⟨hP2, hD2⟩ := a_joinL hP hD hk1 hF hP1 hD1
    exact k r u hq.1 H1 locs1 ls hP2 hD2 hS1 hl)
theorem L_callM (hC : LC p s m meth c b L xs D cI cZ cJ) {y : MethodName} {cc2 : ByteArray} {nL2 na index d2 : Nat} {ty : FieldType} {As : List Value} {Q2 : Int32 → MS → Prop} (hd : decode code pc = .ok (.invokevirtual index, 3)) (hm : MI y cc2 nL2 (some ty) na) (hw : Cond.methodLink R_law index y ∈ tbg) {ci N : Nat} {T : u_T} {fs : List Value} (he : (EM am cI cZ cJ sm)[0]? = some (am 0, .inr (ci, fs))) (hc : classes[ci]? = some (y.cls, T, N)) (hv : MV y) (hn : As.length = na) (hs : (st.map fun v => v.category).sum ≤ 8) (hd2 : d2 ≤ 1000) (hM : Ct (XM l D cI cZ cJ am) y cc2 nL2 (some ty) d2 (.ref (am 0) :: As) sm Q2)
    (k : ∀ (r : Int32) (s2 : MS), Q2 r s2 → GL l D cI cZ cJ ax am p e s m below meth c b (pc + 3) lv (.int r :: st) sx s2) : GL l D cI cZ cJ ax am p e s m below meth c b pc lv (As.reverse ++ .ref (am 0) :: st) sx sm := by
  obtain ⟨hx, hb, hr, hml, hown, hts, hX, hbl, hlocks, hgv⟩ := hC.1
  have hK := hC.2.1
  have hnl := hC.2.2
  intro H locs ls hP hD hS hl
  have hPc := ap_right hP
  have hDc := aD_right hD
  have hF := fr_free hDc hS (fun q h => h)
  have hg : ∀ w ∈ (Cond.code y cc2 nL2 (some ty) :: tbg), w ∈ lw_tbl ∧ ((w.onTables && w.keeps) = true ∨ ∃ t, w = .arrayClass t) := fun w h => (List.mem_cons.mp h).elim (fun e => ⟨tbg_in (e ▸ hm.1), (tb_good w (e ▸ hm.1)).2⟩) (fun q => ⟨tbg_in q, (tb_good w q).2⟩)
  have hcb := callB_of (R := room_1) (rm := RM d2) (mc := 0) (ms := 0) na hts hg rfl rfl rfl (hts _ (tbg_in hm.2.1)) (hts _ (tbg_in hw)) hm.2.2.1 ⟨by show d2 + 1 ≤ 2048; omega, by show 8 + (nL2 + 11) + 40 * d2 ≤ 84000; have := hm.2.2.2.1; omega⟩
  exact va_calli (va_runV (As := As) (rest := st) ⟨hx, hb, hml, hown, hts⟩ (hM H.size) ⟨hcb, hts _ (tbg_in hv.1), hts _ (tbg_in hv.2)⟩ ⟨wblind, va_recv hK hPc hc he, fun U hU hW => ⟨rfl, by rw [hU], by rw [hU]; exact hPc, va_K.moved hW.alike hK, hDc.weaken (fun _ _ _ _ => trivial), hnl.warm hW⟩⟩ rfl hn hl.1 rfl (lv_room hs) hd ⟨by show 93 + 0 ≤ 600000; omega, by show 5856 + 0 ≤ 7302249; omega⟩) hS (fun q _ h => hF q h) hF (fun r u t H1 locs1 ht hvm hq hB hz1 hk1 hS1 => by
    obtain ⟨hP1, hK1, hD1⟩ := hB
    rw [ht] at hP1
    obtain ⟨hP2, hD2⟩ := a_joinR hP hD hk1 hF hP1 hD1
    exact k r u hq.1 H1 locs1 ls hP2 hD2 hS1 hl)
end LR
