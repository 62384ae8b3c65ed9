-- ===== the constructors: a judgement over a list of cells that grows =====
abbrev WC : Type := Launch × va_G × List vw_C × List (ClassId × FieldType)
def RC (d mc ms : Nat) : Room := { frames := d, cells := mc, slots := ms, locals := 40 * d }
def Bc (X : WC) (A : Nat → Prop) (w : va_W) (t : State) : Prop := va_P X.2.1 X.2.2.1 w t.heap ∧ va_K X.2.1 X.2.2.1 X.2.2.2 t ∧ va_D A w
def AO (U : State) : Prop := (Cond.arrayOver (.array .int)).before #[] U = true
theorem AO.moved {u U : State} (hvm : u.vm.Alike U.vm) (h : AO u) : AO U := by
  unfold AO Cond.before Cond.holds at h ⊢
  simp only [Cond.value, beq_iff_eq] at h ⊢
  simp only [Option.bind_eq_some_iff, Option.map_eq_some_iff] at h ⊢
  obtain ⟨comp, h1, c, h2, k, h3, h4⟩ := h
  obtain ⟨k', hk', he⟩ := hvm.2.2 _ _ h3
  have e1 := va_idx_bare U.vm comp
  have e2 := va_idx_bare u.vm comp
  have e3 : U.vm.bare = u.vm.bare := by first | exact hvm.bare_eq | exact hvm.bare_eq.symm
  rw [e3] at e1
  have hi := e1.symm.trans (e2.trans h2)
  refine ⟨comp, ?_, c, hi, k', hk', ?_⟩
  · rw [hvm.findClass]; exact h1
  · rw [show k'.kind = k.kind by rw [he]]
    simp only [hvm.findClass]
    exact h4
theorem AO.same {u U : State} (h : u.vm = U.vm) (hZ : AO u) : AO U := hZ.moved (by rw [h]; exact Vm.Alike.refl U.vm)
def GC (X : WC) (own : String) (cc : ByteArray) (nL d mc ms k n pc : Nat) (lv : List (Nat × Value)) (st : List Value) (ws : va_W) (Q : va_W → Prop) : Prop :=
  ∀ (p : Program) (e : Env) (S : State) (m : MethodId) (args : Array Value) (below : List Frame) (meth : Method) (c : Code) (A : Nat → Prop) (H : Heap) (locs : List Loc) (ls : Array Slot),
    Cx p S m args meth c own cc nL none → meth.name = "<init>" → AO S → (∀ q, S.heap.size ≤ q → A q) → va_K X.2.1 X.2.2.1 X.2.2.2 S → va_P X.2.1 X.2.2.1 ws H → va_D A ws → va_S A S.heap H locs → lv_has ls nL lv →
    W p X.1 e (RC d mc ms) S m args below meth c H locs k n (MQ below (va_Qv Q (Bc X A) A) args S mc ms A) (F0 m pc ls st)
def CtC (X : WC) (y : MethodName) (cc : ByteArray) (nL d mc ms : Nat) (av : List Value) (ws : va_W) (Q : va_W → Prop) : Prop :=
  ∀ sz : Nat, Met X.1 y (.code y cc nL none :: tbg) (RC d mc ms) (va_Pc av (fun U => U.heap.size = sz ∧ va_P X.2.1 X.2.2.1 ws U.heap ∧ va_K X.2.1 X.2.2.1 X.2.2.2 U ∧ va_D (fun _ => True) ws ∧ NL U ∧ AO U)) (va_Qv Q (Bc X (va_A ws sz)) (va_A ws sz)) mc ms (va_A ws sz)
section GCR
variable {X : WC} {own : String} {cc : ByteArray} {nL d mc ms k n pc : Nat} {lv : List (Nat × Value)} {st : List Value} {ws ws2 : va_W} {Q : va_W → Prop}
theorem C_iconst {z : Int} {v : Int32} (hd : decode cc pc = .ok (.iconst z, 1)) (hv : Int32.ofInt z = v) (kk : GC X own cc nL d mc ms k n (pc + 1) lv (.int v :: st) ws Q) : GC X own cc nL d mc ms k n pc lv st ws Q := by
  intro p e S m args below meth c A H locs ls C hin hao hA hK hP hD hS hl
  obtain ⟨hx, hb, hr, hml, hown, hts, hlk, hnl⟩ := id C
  exact lv_iconst hx hb hd hv (kk p e S m args below meth c A H locs ls C hin hao hA hK hP hD hS hl)
theorem C_bipush {z : Int} {v : Int32} (hd : decode cc pc = .ok (.bipush z, 2)) (hv : (Int8.ofInt z).toInt32 = v) (kk : GC X own cc nL d mc ms k n (pc + 2) lv (.int v :: st) ws Q) : GC X own cc nL d mc ms k n pc lv st ws Q := by
  intro p e S m args below meth c A H locs ls C hin hao hA hK hP hD hS hl
  obtain ⟨hx, hb, hr, hml, hown, hts, hlk, hnl⟩ := id C
  exact lv_bipush hx hb hd hv (kk p e S m args below meth c A H locs ls C hin hao hA hK hP hD hS hl)
theorem C_sipush {z : Int} {v : Int32} (hd : decode cc pc = .ok (.sipush z, 3)) (hv : (Int16.ofInt z).toInt32 = v) (kk : GC X own cc nL d mc ms k n (pc + 3) lv (.int v :: st) ws Q) : GC X own cc nL d mc ms k n pc lv st ws Q := by
  intro p e S m args below meth c A H locs ls C hin hao hA hK hP hD hS hl
  obtain ⟨hx, hb, hr, hml, hown, hts, hlk, hnl⟩ := id C
  exact lv_sipush hx hb hd hv (kk p e S m args below meth c A H locs ls C hin hao hA hK hP hD hS hl)
theorem C_aload_n {j : Fin 4} {i a : Nat} (hd : decode cc pc = .ok (.aload_n j, 1)) (hi : (j : Nat) = i) (q : Nat) (hq : lv[q]? = some (i, .ref a)) (kk : GC X own cc nL d mc ms k n (pc + 1) lv (.ref a :: st) ws Q) : GC X own cc nL d mc ms k n pc lv st ws Q := by
  intro p e S m args below meth c A H locs ls C hin hao hA hK hP hD hS hl
  obtain ⟨hx, hb, hr, hml, hown, hts, hlk, hnl⟩ := id C
  exact lv_aload_n hx hb hd hi (lv_at hl q hq) (kk p e S m args below meth c A H locs ls C hin hao hA hK hP hD hS hl)
theorem C_dup {v : Value} (hd : decode cc pc = .ok (.dup, 1)) (hv : v.category = 1) (kk : GC X own cc nL d mc ms k n (pc + 1) lv (v :: v :: st) ws Q) : GC X own cc nL d mc ms k n pc lv (v :: st) ws Q := by
  intro p e S m args below meth c A H locs ls C hin hao hA hK hP hD hS hl
  obtain ⟨hx, hb, hr, hml, hown, hts, hlk, hnl⟩ := id C
  exact lv_dup hx hb hd hv (kk p e S m args below meth c A H locs ls C hin hao hA hK hP hD hS hl)
theorem C_get {C0 : String} {T : u_T} {N ci index a : Nat} {fs : List Value} {v : Value} (hd : decode cc pc = .ok (.getfield index, 3)) (q : Nat) (he : ws[q]? = some (a, .inr (ci, fs))) (hc : X.2.2.1[ci]? = some (C0, T, N)) (hi : ∀ w ∈ u_ws C0 T N, w ∈ tbg) (j : Nat) (hj : j < N) (hw : Cond.fieldLink own index (T j).1 (T j).2.1 (T j).2.2.1 ∈ tbg) (hv : fs[j]? = some v) (kk : GC X own cc nL d mc ms k n (pc + 3) lv (v :: st) ws Q) : GC X own cc nL d mc ms k n pc lv (.ref a :: st) ws Q := by
  intro p e S m args below meth c A H locs ls C hin hao hA hK hP hD hS hl
  obtain ⟨hx, hb, hr, hml, hown, hts, hlk, hnl⟩ := id C
  exact va_get hx hb hts hi hown hK hP q he hc j hj (hts _ hw) (fun _ h => h) hv hd (kk p e S m args below meth c A H locs ls C hin hao hA hK hP hD hS hl)
theorem C_put {C0 : String} {T : u_T} {N ci index a : Nat} {fs : List Value} {v : Value} {ty : FieldType} (hd : decode cc pc = .ok (.putfield index, 3)) (q : Nat) (he : ws[q]? = some (a, .inr (ci, fs))) (hc : X.2.2.1[ci]? = some (C0, T, N)) (hi : ∀ w ∈ u_ws C0 T N, w ∈ tbg) (ty0 : Nat → FieldType) (hty : ∀ k, k < N → parseFieldDescriptor (T k).2.2.1 = some (ty0 k)) (hnm : ∀ a, a < N → ∀ b, b < N → a ≠ b → (T a).2.1 ≠ (T b).2.1) (j : Nat) (hj : j < N) (hw : Cond.fieldLink own index (T j).1 (T j).2.1 (T j).2.2.1 ∈ tbg) (hfin : (T j).2.2.2 = false) (hpd : parseFieldDescriptor (T j).2.2.1 = some ty) (hn : narrow ty v = v) (hft : fits ty v = true) (hlen : j < fs.length) (hs2 : ws.set q (a, .inr (ci, fs.set j v)) = ws2) (kk : GC X own cc nL d mc ms k n (pc + 3) lv st ws2 Q) : GC X own cc nL d mc ms k n pc lv (v :: .ref a :: st) ws Q := by
  intro p e S m args below meth c A H locs ls C hin hao hA hK hP hD hS hl
  obtain ⟨hx, hb, hr, hml, hown, hts, hlk, hnl⟩ := id C
  exact va_put hx hb hts hi ty0 hty hnm hown hK hP hD hS q he hc j hj (hts _ hw) (fun _ h => h) hfin hpd hn hft hlen hd (fun H1 locs1 hP1 hD1 hS1 => kk p e S m args below meth c A H1 locs1 ls C hin hao hA hK (by rw [← hs2]; exact hP1) (by rw [← hs2]; exact hD1) hS1 hl)
theorem C_putF {C0 : String} {T : u_T} {N ci index a : Nat} {fs : List Value} {v : Value} {ty : FieldType} (hd : decode cc pc = .ok (.putfield index, 3)) (q : Nat) (he : ws[q]? = some (a, .inr (ci, fs))) (hc : X.2.2.1[ci]? = some (C0, T, N)) (hi : ∀ w ∈ u_ws C0 T N, w ∈ tbg) (ty0 : Nat → FieldType) (hty : ∀ k, k < N → parseFieldDescriptor (T k).2.2.1 = some (ty0 k)) (hnm : ∀ a, a < N → ∀ b, b < N → a ≠ b → (T a).2.1 ≠ (T b).2.1) (j : Nat) (hj : j < N) (hw : Cond.fieldLink own index (T j).1 (T j).2.1 (T j).2.2.1 ∈ tbg) (hfin : (T j).2.2.2 = true) (hdc : (T j).1 = own) (hpd : parseFieldDescriptor (T j).2.2.1 = some ty) (hn : narrow ty v = v) (hft : fits ty v = true) (hlen : j < fs.length) (hs2 : ws.set q (a, .inr (ci, fs.set j v)) = ws2) (kk : GC X own cc nL d mc ms k n (pc + 3) lv st ws2 Q) : GC X own cc nL d mc ms k n pc lv (v :: .ref a :: st) ws Q := by
  intro p e S m args below meth c A H locs ls C hin hao hA hK hP hD hS hl
  obtain ⟨hx, hb, hr, hml, hown, hts, hlk, hnl⟩ := id C
  exact va_putF hx hb hts hi ty0 hty hnm hown hK hP hD hS q he hc j hj (hts _ hw) (fun _ h => h) hfin hin hdc hpd hn hft hlen hd (fun H1 locs1 hP1 hD1 hS1 => kk p e S m args below meth c A H1 locs1 ls C hin hao hA hK (by rw [← hs2]; exact hP1) (by rw [← hs2]; exact hD1) hS1 hl)
theorem C_objInit {index a : Nat} (hd : decode cc pc = .ok (.invokespecial index, 3)) (hw : Cond.methodLink own index Lib.objectInit ∈ tbg) (h1 : Cond.instanceMethod Lib.objectInit ∈ tbg) (h2 : Cond.code Lib.objectInit ⟨#[0xb1]⟩ 1 none ∈ tbg) (hd1 : 1 ≤ d) (hs : (st.map fun v => v.category).sum ≤ 8) (kk : GC X own cc nL d mc ms k n (pc + 3) lv st ws Q) : GC X own cc nL d mc ms k n pc lv (.ref a :: st) ws Q := by
  intro p e S m args below meth c A H locs ls C hin hao hA hK hP hD hS hl
  obtain ⟨hx, hb, hr, hml, hown, hts, hlk, hnl⟩ := id C
  exact W.objInit hx hb hown (hts _ hw) (hts _ h1) (hts _ h2) rfl (by rw [hml]; exact hl.1) rfl hd hd1 (by have := lv_room (m := m) (pc := pc) (ls := ls) (rest := .ref a :: st) hs; show _ ≤ 40 * d; omega) (kk p e S m args below meth c A H locs ls C hin hao hA hK hP hD hS hl)
/-- a new row of ints, or of booleans: its class is the one that the world has for them -/
theorem C_newarr {atype : ArrayType} {ty : FieldType} {v : Int32} {N' t0 : Nat} {cA : ClassId} (hd : decode cc pc = .ok (.newarray atype, 2)) (hty : newarray.typeOf atype = ty) (harr : Cond.arrayClass ty ∈ tbg) (hra : ∀ U : State, va_RA U cA ty → U.vm.findClass ("[" ++ ty.toString) = some cA) (ht : X.2.2.2[t0]? = some (cA, ty)) (hdv : defaultValue ty = .int 0) (hn : ¬ v < 0) (hN : v.toNatClampNeg = N') (hby : N' * componentBytes ty ≤ 536870912) (hk : k + 1 ≤ mc) (hsl : n + N' ≤ ms)
    (kk : ∀ q : Nat, GC X own cc nL d mc ms (k + 1) (n + N') (pc + 2) lv (.ref q :: st) (ws ++ [(q, .inl (cA, N', .inl (fun _ => 0)))]) Q) : GC X own cc nL d mc ms k n pc lv (.int v :: st) ws Q := by
  intro p e S m args below meth c A H locs ls C hin hao hA hK hP hD hS hl
  obtain ⟨hx, hb, hr, hml, hown, hts, hlk, hnl⟩ := id C
  subst hty
  refine va_newaK hx hb (hts _ harr) rfl hd rfl hn hN hby hk hsl rfl fun H1 cB e1 z1 o1 hAr hNm => ?_
  have hcb : cB = cA := Option.some.inj (hNm.symm.trans (hra S (hK.2 t0 _ ht).2))
  subst hcb
  have hkp : ∀ (k : Nat) (x : Nat × va_E), ws[k]? = some x → H1[x.1]? = H[x.1]? := fun k x hx => o1 x.1 ((hP k x hx).lt)
  refine kk H.size p e S m args below meth c A H1 locs ls C hin hao hA hK ((hP.kept hkp).app (fun k x hx => ?_)) (hD.push hP rfl (hA _ hS.1)) ⟨Nat.le_trans hS.1 (by omega), fun x h1 h2 => (o1 x (Nat.lt_of_lt_of_le h1 hS.1)).trans (hS.2.1 x h1 h2), hS.2.2⟩ hl
  have hz : k < 1 := (List.getElem?_eq_some_iff.mp hx).1
  rw [show k = 0 by omega] at hx
  cases hx
  show H1[H.size]? = some (vp_cell _ _)
  rw [vp_cell_i, e1, hdv]
theorem C_new {C0 : String} {T : u_T} {N ci index : Nat} {fs : List Value} (hd : decode cc pc = .ok (.new index, 3)) (hi : ∀ w ∈ u_ws C0 T N, w ∈ tbg) (ty : Nat → FieldType) (hty : ∀ k, k < N → parseFieldDescriptor (T k).2.2.1 = some (ty k)) (hcl : Cond.classLink own index C0 ∈ tbg) (hinst : Cond.instantiable C0 N ∈ tbg) (hini : Cond.initialized C0 ∈ tbg) (hc : X.2.2.1[ci]? = some (C0, T, N)) (hfs : ∀ j, j < N → defaultValue (ty j) = vp_V fs j) (hk : k + 1 ≤ mc) (hsl : n + N ≤ ms)
    (kk : ∀ q : Nat, GC X own cc nL d mc ms (k + 1) (n + N) (pc + 3) lv (.ref q :: st) (ws ++ [(q, .inr (ci, fs))]) Q) : GC X own cc nL d mc ms k n pc lv st ws Q := by
  intro p e S m args below meth c A H locs ls C hin hao hA hK hP hD hS hl
  obtain ⟨hx, hb, hr, hml, hown, hts, hlk, hnl⟩ := id C
  exact va_new hx hb hts hi ty hty hown (hts _ hcl) (hts _ hinst) (hts _ hini) hK hP hD hS hA hc hfs hk hsl hd (fun q H1 hP1 hD1 hS1 => kk q p e S m args below meth c A H1 locs ls C hin hao hA hK hP1 hD1 hS1 hl)
theorem C_ret (hd : decode cc pc = .ok (.return_, 1)) (hk : k = mc) (hn : n = ms) (hq : Q ws) : GC X own cc nL d mc ms k n pc lv [] ws Q := by
  intro p e S m args below meth c A H locs ls C hin hao hA hK hP hD hS hl
  obtain ⟨hx, hb, hr, hml, hown, hts, hlk, hnl⟩ := id C
  subst hk
  subst hn
  exact W.vret hx hb hr (fun t ht hW => ⟨⟨ws, rfl, hq, by rw [ht]; exact hP, va_K.moved hW.alike hK, hD⟩, hS.F ht⟩) hS.2.2 hd hlk
theorem C_perm (is : List Nat) (hp : is.filterMap (fun i => ws[i]?) = ws2) (hm : is.map (fun i => ws[i]?) = ws2.map some) (hnd : va_nd is = true) (kk : GC X own cc nL d mc ms k n pc lv st ws2 Q) : GC X own cc nL d mc ms k n pc lv st ws Q := by
  intro p e S m args below meth c A H locs ls C hin hao hA hK hP hD hS hl
  exact kk p e S m args below meth c A H locs ls C hin hao hA hK (hP.sub is hp) (hD.sub is hnd hm) hS hl
theorem cblind {X : WC} {av : List Value} {sz : Nat} {ws : va_W} : FrameBlind (va_Pc av (fun U => U.heap.size = sz ∧ va_P X.2.1 X.2.2.1 ws U.heap ∧ va_K X.2.1 X.2.2.1 X.2.2.2 U ∧ va_D (fun _ => True) ws ∧ NL U ∧ AO U)) := fun a U g mk q => by
  obtain ⟨q0, q1, qP, qK, qD, qN, qA⟩ := q
  exact ⟨q0, q1, qP, va_K.moved (u := U) (U := U.calling g mk a) (Vm.Alike.refl U.vm) qK, qD, fun a i x h w => va_Nw.same rfl rfl (qN a i x h w), qA.same rfl⟩
theorem CtC.of {y : MethodName} {na : Nat} {av : List Value} (hm : MI y cc nL none na) (hy : y.name = "<init>") (hlen : (lg_sl av).length ≤ nL) (h : GC X y.cls cc nL d mc ms 0 0 0 (lv_args 0 av) [] ws Q) : CtC X y cc nL d mc ms av ws Q := by
  intro sz
  refine Met.ofW (cc := cc) (maxL := nL) (ret := none) hm.2.2.2.2 rfl ?_
  intro p e S m args below meth c s₁ B hml hv
  obtain ⟨rfl, hsz, hP, hK, hD0, hN, hAO⟩ := hv
  have hts := atoms_spec (ws := .code y cc nL none :: tbg) B.pre
  have hown : S.vm.findClass y.cls = some m.cls := findClass_of_methodNamed B.named
  have hin : meth.name = "<init>" := (name_of_methodNamed B.named B.method).1.trans hy
  subst hsz
  have hD := hD0.self (sz := S.heap.size)
  rw [lg_entry_eq]
  exact h p e S m _ below meth c _ S.heap [] _ ⟨B.exec, B.bytes, B.returns, hml, hown, fun w hw => hts w (List.mem_cons_of_mem _ hw), B.notSynchronized, hN⟩ hin hAO (fun q hq => Or.inr hq) hK hP hD va_S.rf (lv_entry av hlen)
theorem rc_ok {d2 nL2 mc2 ms2 : Nat} (h : d2 + 1 ≤ d) (hn : nL2 ≤ 20) : (RC d2 mc2 ms2).frames + 1 ≤ (RC d mc ms).frames ∧ 8 + (nL2 + 11) + (RC d2 mc2 ms2).locals ≤ (RC d mc ms).locals := ⟨h, by show 8 + (nL2 + 11) + 40 * d2 ≤ 40 * d; omega⟩
theorem AO.warm {u U : State} (hW : u.WarmedH U.vm) (h : AO u) : AO U := h.moved hW.alike
theorem C_callI {y : MethodName} {cc2 : ByteArray} {nL2 na index d2 mc2 ms2 : Nat} {As : List Value} {b : Nat} {wc wr : va_W} {Q2 : va_W → Prop} (hd : decode cc pc = .ok (.invokespecial index, 3)) (hm : MI y cc2 nL2 none na) (hy : y.name = "<init>") (hw : Cond.methodLink own index y ∈ tbg) (hv : Cond.instanceMethod y ∈ tbg) (hn : As.length = na) (hs : (st.map fun v => v.category).sum ≤ 8) (hd2 : d2 + 1 ≤ d) (isC isR : List Nat) (hC : isC.map (fun i => ws[i]?) = wc.map some) (hCf : isC.filterMap (fun i => ws[i]?) = wc) (hCn : va_nd isC = true) (hR : isR.map (fun i => ws[i]?) = wr.map some) (hRn : va_nd isR = true) (hdis : ∀ i ∈ isR, i ∉ isC) (hk : k + mc2 ≤ mc) (hsl : n + ms2 ≤ ms) (hM : CtC X y cc2 nL2 d2 mc2 ms2 (.ref b :: As) wc Q2)
    (kk : ∀ w1 : va_W, Q2 w1 → GC X own cc nL d mc ms (k + mc2) (n + ms2) (pc + 3) lv st (wr ++ w1) Q) : GC X own cc nL d mc ms k n pc lv (As.reverse ++ .ref b :: st) ws Q := by
  intro p e S m args below meth c A H locs ls C hin hao hA hK hP hD hS hl
  obtain ⟨hx, hb, hr, hml, hown, hts, hlk, hnl⟩ := id C
  have hPc := hP.sub isC hCf
  have hDc := hD.sub isC hCn hC
  have hF := va_free (wc := wc) hD hS hA isC hC
  exact va_callv (va_runI (As := As) (rest := st) ⟨hx, hb, hml, hown, hts⟩ (hM H.size) ⟨callB_of na hts (fun w h => (List.mem_cons.mp h).elim (fun e => tb_good w (e ▸ hm.1)) (tb_good w)) rfl rfl rfl (hts _ hm.2.1) (hts _ hw) hm.2.2.1 (rc_ok hd2 hm.2.2.2.1), hy, hts _ hv⟩ ⟨cblind, fun U hU hW => ⟨rfl, by rw [hU], by rw [hU]; exact hPc, va_K.moved hW.alike hK, hDc.weaken (fun _ _ _ _ => trivial), hnl.warm hW, hao.warm hW⟩⟩ rfl hn hl.1 rfl (lv_room hs) hd ⟨hk, hsl⟩) hS (fun q _ h => hF q h) hF (fun u t H1 locs1 ht hvm hq hB hz1 hk1 hS1 => by
    obtain ⟨hP1, hK1, hD1⟩ := hB
    rw [ht] at hP1
    obtain ⟨hP2, hD2⟩ := va_join (wr := wr) (w1 := u) hP hD isC isR hC hR hRn hdis hk1 hF hP1 hD1
    exact kk u hq p e S m args below meth c A H1 locs1 ls C hin hao hA hK hP2 hD2 hS1 hl)
theorem C_callN {y : MethodName} {cc2 : ByteArray} {nL2 na index d2 mc2 ms2 : Nat} {As : List Value} {b : Nat} {wc wr : va_W} {Q2 : va_W → Prop} (hd : decode cc pc = .ok (.invokespecial index, 3)) (hm : MI y cc2 nL2 none na) (hy : y.name = "<init>") {host : String} (hw : Cond.methodLinkNest own index y host ∈ tables_1) (hv : Cond.instanceMethod y ∈ tbg) (hn : As.length = na) (hs : (st.map fun v => v.category).sum ≤ 8) (hd2 : d2 + 1 ≤ d) (isC isR : List Nat) (hC : isC.map (fun i => ws[i]?) = wc.map some) (hCf : isC.filterMap (fun i => ws[i]?) = wc) (hCn : va_nd isC = true) (hR : isR.map (fun i => ws[i]?) = wr.map some) (hRn : va_nd isR = true) (hdis : ∀ i ∈ isR, i ∉ isC) (hk : k + mc2 ≤ mc) (hsl : n + ms2 ≤ ms) (hM : CtC X y cc2 nL2 d2 mc2 ms2 (.ref b :: As) wc Q2)
    (kk : ∀ w1 : va_W, Q2 w1 → GC X own cc nL d mc ms (k + mc2) (n + ms2) (pc + 3) lv st (wr ++ w1) Q) : GC X own cc nL d mc ms k n pc lv (As.reverse ++ .ref b :: st) ws Q := by
  intro p e S m args below meth c A H locs ls C hin hao hA hK hP hD hS hl
  obtain ⟨hx, hb, hr, hml, hown, hts, hlk, hnl⟩ := id C
  have hPc := hP.sub isC hCf
  have hDc := hD.sub isC hCn hC
  have hF := va_free (wc := wc) hD hS hA isC hC
  exact va_callv (va_runIN (As := As) (rest := st) ⟨hx, hb, hml, hown, hts⟩ (hM H.size) ⟨va_cnB na hts (fun w h => (List.mem_cons.mp h).elim (fun e => tb_good w (e ▸ hm.1)) (tb_good w)) rfl rfl rfl (hnl _ _ _ _ hw) (hts _ hm.2.1) hm.2.2.1 (rc_ok hd2 hm.2.2.2.1), hy, hts _ hv⟩ ⟨cblind, fun U hU hW => ⟨rfl, by rw [hU], by rw [hU]; exact hPc, va_K.moved hW.alike hK, hDc.weaken (fun _ _ _ _ => trivial), hnl.warm hW, hao.warm hW⟩⟩ rfl hn hl.1 rfl (lv_room hs) hd ⟨hk, hsl⟩) hS (fun q _ h => hF q h) hF (fun u t H1 locs1 ht hvm hq hB hz1 hk1 hS1 => by
    obtain ⟨hP1, hK1, hD1⟩ := hB
    rw [ht] at hP1
    obtain ⟨hP2, hD2⟩ := va_join (wr := wr) (w1 := u) hP hD isC isR hC hR hRn hdis hk1 hF hP1 hD1
    exact kk u hq p e S m args below meth c A H1 locs1 ls C hin hao hA hK hP2 hD2 hS1 hl)
end GCR
