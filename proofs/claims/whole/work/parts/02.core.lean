def tbg : List Cond := lw_tbl.filter goodWord
-- ===== the pure words: options, loops, the state of a world =====
def Ok {α : Type} (o : Option α) (P : α → Prop) : Prop := ∃ r, o = some r ∧ P r
def bnd {α β : Type} (x : α) (k : α → Option β) : Option β := k x
def chk {β : Type} (b : Bool) (o : Option β) : Option β := if b = true then o else none
/-- an index within -/
def inb (i : Int32) (n : Nat) : Bool := decide (0 ≤ i.toInt ∧ i.toInt < (n : Int))
theorem inb_in {i : Int32} {n : Nat} (h : inb i n = true) : vp_in i n := vp_in_iff.mpr (of_decide_eq_true h)
theorem Ok_bnd {α β : Type} {x : α} {k : α → Option β} {P : β → Prop} (h : Ok (bnd x k) P) (y : α) (e : y = x) : Ok (k y) P := by subst e; exact h
theorem Ok_chk {β : Type} {b : Bool} {o : Option β} {P : β → Prop} (h : Ok (chk b o) P) : b = true ∧ Ok o P := by
  cases b with
  | true => exact ⟨rfl, h⟩
  | false =>
    obtain ⟨r, h1, -⟩ := h
    cases h1
theorem Ok_bind {α β : Type} {o : Option α} {k : α → Option β} {P : β → Prop} (h : Ok (o.bind k) P) : Ok o (fun r => Ok (k r) P) := by
  cases o with
  | none =>
    obtain ⟨r, h1, -⟩ := h
    cases h1
  | some x => exact ⟨x, rfl, h⟩
theorem Ok_some {α : Type} {r : α} {P : α → Prop} (h : Ok (some r) P) : P r := by
  obtain ⟨x, h1, h2⟩ := h
  cases h1
  exact h2
theorem Ok_none {α : Type} {P : α → Prop} {C : Prop} (h : Ok (none : Option α) P) : C := by
  obtain ⟨x, h1, -⟩ := h
  cases h1
theorem Ok_t {α : Type} {c : Prop} [Decidable c] {a b : Option α} {P : α → Prop} (hc : c) (h : Ok (if c then a else b) P) : Ok a P := by rwa [if_pos hc] at h
theorem Ok_f {α : Type} {c : Prop} [Decidable c] {a b : Option α} {P : α → Prop} (hc : ¬ c) (h : Ok (if c then a else b) P) : Ok b P := by rwa [if_neg hc] at h
theorem Ok_mono {α : Type} {o : Option α} {P Q : α → Prop} (h : Ok o P) (hi : ∀ r, P r → Q r) : Ok o Q := by
  obtain ⟨r, h1, h2⟩ := h
  exact ⟨r, h1, hi r h2⟩
/-- a loop: a step goes on with a new state, or ends with an answer -/
def itr {S R : Type} (f : S → Option (S ⊕ R)) : Nat → S → Option R
  | 0, _ => none
  | n + 1, s => (f s).bind (Sum.elim (itr f n) some)
theorem itr_mono {S R : Type} {f : S → Option (S ⊕ R)} : ∀ (n k : Nat) (s : S) (r : R), itr f n s = some r → itr f (n + k) s = some r
  | 0, k, s, r, h => by cases h
  | n + 1, k, s, r, h => by
    rw [show n + 1 + k = (n + k) + 1 by omega]
    show (f s).bind _ = _
    have h : (f s).bind (Sum.elim (itr f n) some) = some r := h
    cases hf : f s with
    | none => rw [hf] at h; cases h
    | some x =>
      rw [hf] at h
      cases x with
      | inl s' => exact itr_mono n k s' r h
      | inr r' => exact h
theorem itr_one {S R : Type} {f : S → Option (S ⊕ R)} {n m : Nat} {s : S} {r q : R} (h1 : itr f n s = some r) (h2 : itr f m s = some q) : r = q := by
  have a := itr_mono n m s r h1
  have b := itr_mono m n s q h2
  rw [Nat.add_comm m n, a] at b
  exact Option.some.inj b
noncomputable def loop {S R : Type} (f : S → Option (S ⊕ R)) (s : S) : Option R := @dite _ (∃ r n, itr f n s = some r) (Classical.propDecidable _) (fun h => some h.choose) (fun _ => none)
theorem loop_of {S R : Type} {f : S → Option (S ⊕ R)} {n : Nat} {s : S} {r : R} (h : itr f n s = some r) : loop f s = some r := by
  have hx : ∃ r n, itr f n s = some r := ⟨r, n, h⟩
  unfold loop
  rw [dif_pos hx]
  obtain ⟨m, hm⟩ := hx.choose_spec
  rw [itr_one hm h]
theorem loop_some {S R : Type} {f : S → Option (S ⊕ R)} {s : S} {r : R} (h : loop f s = some r) : ∃ n, itr f n s = some r := by
  unfold loop at h
  by_cases hx : ∃ r n, itr f n s = some r
  · rw [dif_pos hx] at h
    obtain ⟨m, hm⟩ := hx.choose_spec
    exact ⟨m, by rw [← Option.some.inj h]; exact hm⟩
  · rw [dif_neg hx] at h
    cases h
theorem loop_eq {S R : Type} (f : S → Option (S ⊕ R)) (s : S) : loop f s = (f s).bind (Sum.elim (loop f) some) := by
  cases hf : f s with
  | none =>
    cases hl : loop f s with
    | none => rfl
    | some r =>
      obtain ⟨n, hn⟩ := loop_some hl
      cases n with
      | zero => cases hn
      | succ n =>
        have hn : (f s).bind _ = _ := hn
        rw [hf] at hn
        cases hn
  | some x =>
    cases x with
    | inr r => exact loop_of (n := 1) (by show (f s).bind _ = _; rw [hf]; rfl)
    | inl s' =>
      show loop f s = loop f s'
      cases hl : loop f s' with
      | none =>
        cases hl2 : loop f s with
        | none => rfl
        | some r =>
          obtain ⟨n, hn⟩ := loop_some hl2
          cases n with
          | zero => cases hn
          | succ n =>
            have hn : (f s).bind _ = _ := hn
            rw [hf] at hn
            rw [loop_of (n := n) (r := r) hn] at hl
            cases hl
      | some r =>
        obtain ⟨n, hn⟩ := loop_some hl
        exact loop_of (n := n + 1) (by show (f s).bind _ = _; rw [hf]; exact hn)
theorem G_loop {S R : Type} {f : S → Option (S ⊕ R)} {J : S → Prop} {Post : R → Prop} (hs : ∀ z, Ok (f z) (Sum.elim J Post) → J z) (z : S) (h : Ok (loop f z) Post) : J z := by
  obtain ⟨r, h1, h2⟩ := h
  obtain ⟨n, hn⟩ := loop_some h1
  clear h1
  induction n generalizing z with
  | zero => cases hn
  | succ n ih =>
    refine hs z ?_
    have hn : (f z).bind (Sum.elim (itr f n) some) = some r := hn
    cases hf : f z with
    | none => rw [hf] at hn; cases hn
    | some x =>
      rw [hf] at hn
      refine ⟨x, rfl, ?_⟩
      cases x with
      | inl z' => exact ih z' hn
      | inr r' =>
        have e : r' = r := Option.some.inj hn
        subst e
        exact h2
/-- a world's numbers: its fields, and its rows -/
abbrev MS : Type := (Nat → Int32) × (Nat → Nat → Int32)
def pf (s : MS) (i : Nat) (v : Int32) : MS := (fun j => if j = i then v else s.1 j, s.2)
def pr (s : MS) (i : Nat) (f : Nat → Int32) : MS := (s.1, fun j => if j = i then f else s.2 j)
def pa (s : MS) (i k : Nat) (v : Int32) : MS := pr s i (upd (s.2 i) k v)
-- ===== the judgement =====
abbrev WX : Type := Launch × va_G × List vw_C × List (ClassId × FieldType) × (MS → va_W)
def RM (d : Nat) : Room := { frames := d, cells := 0, slots := 0, locals := 40 * d }
def Bw (X : WX) (A : Nat → Prop) (u : MS) (t : State) : Prop := va_P X.2.1 X.2.2.1 (X.2.2.2.2 u) t.heap ∧ va_K X.2.1 X.2.2.1 X.2.2.2.1 t ∧ va_D A (X.2.2.2.2 u)
def Qof (X : WX) (ret : Option FieldType) (Q : Int32 → MS → Prop) (A : Nat → Prop) : Array Value → State → Outcome → State → Prop := match ret with
  | none => va_Qv (fun u => Q 0 u) (Bw X A) A
  | some ty => va_Qi (fun r u => Q r u ∧ narrow ty (.int r) = .int r) (Bw X A) A
/-- the links to nest mates, as the tables have them -/
def NL (U : State) : Prop := ∀ (a : String) (i : Nat) (x : MethodName) (h : String), Cond.methodLinkNest a i x h ∈ tables_1 → va_Nw (.methodLinkNest a i x h) U
theorem NL.warm {u U : State} (hW : u.WarmedH U.vm) (h : NL u) : NL U := fun a i x k q => va_Nw.warmM hW (h a i x k q)
def Cx (p : Program) (s : State) (m : MethodId) (args : Array Value) (meth : Method) (c : Code) (own : String) (cc : ByteArray) (nL : Nat) (ret : Option FieldType) : Prop :=
  p.tables.exec = Jvm.exec ∧ c.code = cc ∧ meth.sig.returnType = ret ∧ c.maxLocals = nL ∧ s.vm.findClass own = some m.cls ∧ (∀ w ∈ tbg, w.before args s = true) ∧ meth.locks = false ∧ NL s
def G (X : WX) (own : String) (cc : ByteArray) (nL : Nat) (ret : Option FieldType) (d pc : Nat) (lv : List (Nat × Value)) (st : List Value) (s : MS) (Q : Int32 → MS → Prop) : Prop :=
  ∀ (p : Program) (e : Env) (S : State) (m : MethodId) (args : Array Value) (below : List Frame) (meth : Method) (c : Code) (A : Nat → Prop) (H : Heap) (locs : List Loc) (ls : Array Slot),
    Cx p S m args meth c own cc nL ret → (∀ q, S.heap.size ≤ q → A q) → va_K X.2.1 X.2.2.1 X.2.2.2.1 S → va_P X.2.1 X.2.2.1 (X.2.2.2.2 s) H → va_D A (X.2.2.2.2 s) → va_S A S.heap H locs → lv_has ls nL lv →
    W p X.1 e (RM d) S m args below meth c H locs 0 0 (MQ below (Qof X ret Q A) args S 0 0 A) (F0 m pc ls st)
/-- a method's contract in a world -/
def Ct (X : WX) (y : MethodName) (cc : ByteArray) (nL : Nat) (ret : Option FieldType) (d : Nat) (av : List Value) (s : MS) (Q : Int32 → MS → Prop) : Prop :=
  ∀ sz : Nat, Met X.1 y (.code y cc nL ret :: tbg) (RM d) (va_Pc av (fun U => U.heap.size = sz ∧ va_P X.2.1 X.2.2.1 (X.2.2.2.2 s) U.heap ∧ va_K X.2.1 X.2.2.1 X.2.2.2.1 U ∧ va_D (fun _ => True) (X.2.2.2.2 s) ∧ NL U)) (Qof X ret Q (va_A (X.2.2.2.2 s) sz)) 0 0 (va_A (X.2.2.2.2 s) sz)
/-- what the tables say of a method -/
def MI (y : MethodName) (cc : ByteArray) (nL : Nat) (ret : Option FieldType) (n : Nat) : Prop :=
  Cond.code y cc nL ret ∈ tbg ∧ Cond.initialized y.cls ∈ tbg ∧ (y.cls ≠ "java/lang/invoke/MethodHandle" ∧ y.cls ≠ "java/lang/invoke/VarHandle" ∧ (parseMethodDescriptor y.desc).map (fun d => d.parameters.length) = some n) ∧ nL ≤ 20 ∧ plainName y.cls = true
def MV (y : MethodName) : Prop := Cond.instanceMethod y ∈ tbg ∧ Cond.selects y.cls y y ∈ tbg
theorem tb_good : GoodIn tbg tbg := fun w hw => ⟨hw, good_of_word (List.mem_filter.mp hw).2⟩
theorem tb_in {w : Cond} (h : w ∈ tables_1) (hg : goodWord w = true) : w ∈ tbg := List.mem_filter.mpr ⟨List.mem_append_right _ h, hg⟩
theorem tb_sel {w : Cond} (h : w ∈ k2_sels lw_privs) (hg : goodWord w = true) : w ∈ tbg := List.mem_filter.mpr ⟨List.mem_append_left _ h, hg⟩
section GR
variable {X : WX} {own : String} {cc : ByteArray} {nL : Nat} {ret : Option FieldType} {d pc : Nat} {lv lv' : List (Nat × Value)} {st : List Value} {s : MS} {Q : Int32 → MS → Prop}
theorem G_iconst {n : Int} {v : Int32} (hd : decode cc pc = .ok (.iconst n, 1)) (hv : Int32.ofInt n = v) (k : G X own cc nL ret d (pc + 1) lv (.int v :: st) s Q) : G X own cc nL ret d pc lv st s Q := by
  intro p e S m args below meth c A H locs ls C hA hK hP hD hS hl
  obtain ⟨hx, hb, hr, hml, hown, hts, hlk, hnl⟩ := id C
  exact lv_iconst hx hb hd hv (k p e S m args below meth c A H locs ls C hA hK hP hD hS hl)
theorem G_bipush {n : Int} {v : Int32} (hd : decode cc pc = .ok (.bipush n, 2)) (hv : (Int8.ofInt n).toInt32 = v) (k : G X own cc nL ret d (pc + 2) lv (.int v :: st) s Q) : G X own cc nL ret d pc lv st s Q := by
  intro p e S m args below meth c A H locs ls C hA hK hP hD hS hl
  obtain ⟨hx, hb, hr, hml, hown, hts, hlk, hnl⟩ := id C
  exact lv_bipush hx hb hd hv (k p e S m args below meth c A H locs ls C hA hK hP hD hS hl)
theorem G_sipush {n : Int} {v : Int32} (hd : decode cc pc = .ok (.sipush n, 3)) (hv : (Int16.ofInt n).toInt32 = v) (k : G X own cc nL ret d (pc + 3) lv (.int v :: st) s Q) : G X own cc nL ret d pc lv st s Q := by
  intro p e S m args below meth c A H locs ls C hA hK hP hD hS hl
  obtain ⟨hx, hb, hr, hml, hown, hts, hlk, hnl⟩ := id C
  exact lv_sipush hx hb hd hv (k p e S m args below meth c A H locs ls C hA hK hP hD hS hl)
theorem G_ldc {index : Nat} {v : Int32} (hd : decode cc pc = .ok (.ldc index, 2)) (hw : Cond.constant own index v ∈ tbg) (k : G X own cc nL ret d (pc + 2) lv (.int v :: st) s Q) : G X own cc nL ret d pc lv st s Q := by
  intro p e S m args below meth c A H locs ls C hA hK hP hD hS hl
  obtain ⟨hx, hb, hr, hml, hown, hts, hlk, hnl⟩ := id C
  exact lv_ldc hx hb hown (hts _ hw) hd (k p e S m args below meth c A H locs ls C hA hK hP hD hS hl)
theorem G_ldc_w {index : Nat} {v : Int32} (hd : decode cc pc = .ok (.ldc_w index, 3)) (hw : Cond.constant own index v ∈ tbg) (k : G X own cc nL ret d (pc + 3) lv (.int v :: st) s Q) : G X own cc nL ret d pc lv st s Q := by
  intro p e S m args below meth c A H locs ls C hA hK hP hD hS hl
  obtain ⟨hx, hb, hr, hml, hown, hts, hlk, hnl⟩ := id C
  exact lv_ldcw hx hb hown (hts _ hw) hd (k p e S m args below meth c A H locs ls C hA hK hP hD hS hl)
theorem G_iload_n {j : Fin 4} {i : Nat} {v : Int32} (hd : decode cc pc = .ok (.iload_n j, 1)) (hi : (j : Nat) = i) (q : Nat) (hq : lv[q]? = some (i, .int v)) (k : G X own cc nL ret d (pc + 1) lv (.int v :: st) s Q) : G X own cc nL ret d pc lv st s Q := by
  intro p e S m args below meth c A H locs ls C hA hK hP hD hS hl
  obtain ⟨hx, hb, hr, hml, hown, hts, hlk, hnl⟩ := id C
  exact lv_iload_n hx hb hd hi (lv_at hl q hq) (k p e S m args below meth c A H locs ls C hA hK hP hD hS hl)
theorem G_iload {i : Nat} {v : Int32} (hd : decode cc pc = .ok (.iload i, 2)) (q : Nat) (hq : lv[q]? = some (i, .int v)) (k : G X own cc nL ret d (pc + 2) lv (.int v :: st) s Q) : G X own cc nL ret d pc lv st s Q := by
  intro p e S m args below meth c A H locs ls C hA hK hP hD hS hl
  obtain ⟨hx, hb, hr, hml, hown, hts, hlk, hnl⟩ := id C
  exact lv_iload hx hb hd (lv_at hl q hq) (k p e S m args below meth c A H locs ls C hA hK hP hD hS hl)
theorem G_aload_n {j : Fin 4} {i a : Nat} (hd : decode cc pc = .ok (.aload_n j, 1)) (hi : (j : Nat) = i) (q : Nat) (hq : lv[q]? = some (i, .ref a)) (k : G X own cc nL ret d (pc + 1) lv (.ref a :: st) s Q) : G X own cc nL ret d pc lv st s Q := by
  intro p e S m args below meth c A H locs ls C hA hK hP hD hS hl
  obtain ⟨hx, hb, hr, hml, hown, hts, hlk, hnl⟩ := id C
  exact lv_aload_n hx hb hd hi (lv_at hl q hq) (k p e S m args below meth c A H locs ls C hA hK hP hD hS hl)
theorem G_aload {i a : Nat} (hd : decode cc pc = .ok (.aload i, 2)) (q : Nat) (hq : lv[q]? = some (i, .ref a)) (k : G X own cc nL ret d (pc + 2) lv (.ref a :: st) s Q) : G X own cc nL ret d pc lv st s Q := by
  intro p e S m args below meth c A H locs ls C hA hK hP hD hS hl
  obtain ⟨hx, hb, hr, hml, hown, hts, hlk, hnl⟩ := id C
  exact lv_aload hx hb hd (lv_at hl q hq) (k p e S m args below meth c A H locs ls C hA hK hP hD hS hl)
theorem G_istore_n {j : Fin 4} {i : Nat} {v : Int32} (hd : decode cc pc = .ok (.istore_n j, 1)) (hi : (j : Nat) = i) (hn : i < nL) (lv2 : Int32 → List (Nat × Value)) (hl2 : ∀ v, (i, Value.int v) :: lv.filter (fun q => !(q.1 == i) && !(q.1 + 1 == i && q.2.category == 2)) = lv2 v) (k : ∀ x, v = x → G X own cc nL ret d (pc + 1) (lv2 x) st s Q) : G X own cc nL ret d pc lv (.int v :: st) s Q := by
  intro p e S m args below meth c A H locs ls C hA hK hP hD hS hl
  obtain ⟨hx, hb, hr, hml, hown, hts, hlk, hnl⟩ := id C
  exact lv_istore_n hx hb hd hi hl hn (hl2 v) (fun ls hl => k v rfl p e S m args below meth c A H locs ls C hA hK hP hD hS hl)
theorem G_istore {i : Nat} {v : Int32} (hd : decode cc pc = .ok (.istore i, 2)) (hn : i < nL) (lv2 : Int32 → List (Nat × Value)) (hl2 : ∀ v, (i, Value.int v) :: lv.filter (fun q => !(q.1 == i) && !(q.1 + 1 == i && q.2.category == 2)) = lv2 v) (k : ∀ x, v = x → G X own cc nL ret d (pc + 2) (lv2 x) st s Q) : G X own cc nL ret d pc lv (.int v :: st) s Q := by
  intro p e S m args below meth c A H locs ls C hA hK hP hD hS hl
  obtain ⟨hx, hb, hr, hml, hown, hts, hlk, hnl⟩ := id C
  exact lv_istore hx hb hd hl hn (hl2 v) (fun ls hl => k v rfl p e S m args below meth c A H locs ls C hA hK hP hD hS hl)
theorem G_iinc {i : Nat} {n : Int} {z w v : Int32} (hd : decode cc pc = .ok (.iinc i n, 3)) (q : Nat) (hq : lv[q]? = some (i, .int z)) (hw : Int32.ofInt n = w) (hv : z + w = v) (hn : i < nL) (lv2 : Int32 → List (Nat × Value)) (hl2 : ∀ v, (i, Value.int v) :: lv.filter (fun q => !(q.1 == i) && !(q.1 + 1 == i && q.2.category == 2)) = lv2 v) (k : ∀ x, x = v → G X own cc nL ret d (pc + 3) (lv2 x) st s Q) : G X own cc nL ret d pc lv st s Q := by
  intro p e S m args below meth c A H locs ls C hA hK hP hD hS hl
  obtain ⟨hx, hb, hr, hml, hown, hts, hlk, hnl⟩ := id C
  exact lv_iinc hx hb hd hl hq (by rw [hw]; exact hv) hn (hl2 v) (fun ls hl => k v rfl p e S m args below meth c A H locs ls C hA hK hP hD hS hl)
theorem G_lv (ks : List Nat) (hk : lv_pick lv ks = lv') (k : G X own cc nL ret d pc lv' st s Q) : G X own cc nL ret d pc lv st s Q := by
  intro p e S m args below meth c A H locs ls C hA hK hP hD hS hl
  obtain ⟨hx, hb, hr, hml, hown, hts, hlk, hnl⟩ := id C
  exact k p e S m args below meth c A H locs ls C hA hK hP hD hS (lv_sub hl ks hk)
theorem G_topi {v : Int32} (k : ∀ x, x = v → G X own cc nL ret d pc lv (.int x :: st) s Q) : G X own cc nL ret d pc lv (.int v :: st) s Q := by
  intro p e S m args below meth c A H locs ls C hA hK hP hD hS hl
  obtain ⟨hx, hb, hr, hml, hown, hts, hlk, hnl⟩ := id C
  exact k v rfl p e S m args below meth c A H locs ls C hA hK hP hD hS hl
theorem G_iadd {x y : Int32} (hd : decode cc pc = .ok (.iadd, 1)) (k : G X own cc nL ret d (pc + 1) lv (.int (x + y) :: st) s Q) : G X own cc nL ret d pc lv (.int y :: .int x :: st) s Q := by
  intro p e S m args below meth c A H locs ls C hA hK hP hD hS hl
  obtain ⟨hx, hb, hr, hml, hown, hts, hlk, hnl⟩ := id C
  exact lv_iadd hx hb hd (k p e S m args below meth c A H locs ls C hA hK hP hD hS hl)
theorem G_isub {x y : Int32} (hd : decode cc pc = .ok (.isub, 1)) (k : G X own cc nL ret d (pc + 1) lv (.int (x - y) :: st) s Q) : G X own cc nL ret d pc lv (.int y :: .int x :: st) s Q := by
  intro p e S m args below meth c A H locs ls C hA hK hP hD hS hl
  obtain ⟨hx, hb, hr, hml, hown, hts, hlk, hnl⟩ := id C
  exact lv_isub hx hb hd (k p e S m args below meth c A H locs ls C hA hK hP hD hS hl)
theorem G_imul {x y : Int32} (hd : decode cc pc = .ok (.imul, 1)) (k : G X own cc nL ret d (pc + 1) lv (.int (x * y) :: st) s Q) : G X own cc nL ret d pc lv (.int y :: .int x :: st) s Q := by
  intro p e S m args below meth c A H locs ls C hA hK hP hD hS hl
  obtain ⟨hx, hb, hr, hml, hown, hts, hlk, hnl⟩ := id C
  exact lv_imul hx hb hd (k p e S m args below meth c A H locs ls C hA hK hP hD hS hl)
theorem G_iand {x y : Int32} (hd : decode cc pc = .ok (.iand, 1)) (k : G X own cc nL ret d (pc + 1) lv (.int (x &&& y) :: st) s Q) : G X own cc nL ret d pc lv (.int y :: .int x :: st) s Q := by
  intro p e S m args below meth c A H locs ls C hA hK hP hD hS hl
  obtain ⟨hx, hb, hr, hml, hown, hts, hlk, hnl⟩ := id C
  exact lv_iand hx hb hd (k p e S m args below meth c A H locs ls C hA hK hP hD hS hl)
theorem G_ior {x y : Int32} (hd : decode cc pc = .ok (.ior, 1)) (k : G X own cc nL ret d (pc + 1) lv (.int (x ||| y) :: st) s Q) : G X own cc nL ret d pc lv (.int y :: .int x :: st) s Q := by
  intro p e S m args below meth c A H locs ls C hA hK hP hD hS hl
  obtain ⟨hx, hb, hr, hml, hown, hts, hlk, hnl⟩ := id C
  exact lv_ior hx hb hd (k p e S m args below meth c A H locs ls C hA hK hP hD hS hl)
theorem G_ixor {x y : Int32} (hd : decode cc pc = .ok (.ixor, 1)) (k : G X own cc nL ret d (pc + 1) lv (.int (x ^^^ y) :: st) s Q) : G X own cc nL ret d pc lv (.int y :: .int x :: st) s Q := by
  intro p e S m args below meth c A H locs ls C hA hK hP hD hS hl
  obtain ⟨hx, hb, hr, hml, hown, hts, hlk, hnl⟩ := id C
  exact lv_ixor hx hb hd (k p e S m args below meth c A H locs ls C hA hK hP hD hS hl)
theorem G_ishl {x y : Int32} (hd : decode cc pc = .ok (.ishl, 1)) (k : G X own cc nL ret d (pc + 1) lv (.int (x <<< (y &&& 31)) :: st) s Q) : G X own cc nL ret d pc lv (.int y :: .int x :: st) s Q := by
  intro p e S m args below meth c A H locs ls C hA hK hP hD hS hl
  obtain ⟨hx, hb, hr, hml, hown, hts, hlk, hnl⟩ := id C
  exact lv_ishl hx hb hd (k p e S m args below meth c A H locs ls C hA hK hP hD hS hl)
theorem G_ishr {x y : Int32} (hd : decode cc pc = .ok (.ishr, 1)) (k : G X own cc nL ret d (pc + 1) lv (.int (x >>> (y &&& 31)) :: st) s Q) : G X own cc nL ret d pc lv (.int y :: .int x :: st) s Q := by
  intro p e S m args below meth c A H locs ls C hA hK hP hD hS hl
  obtain ⟨hx, hb, hr, hml, hown, hts, hlk, hnl⟩ := id C
  exact lv_ishr hx hb hd (k p e S m args below meth c A H locs ls C hA hK hP hD hS hl)
theorem G_iushr {x y : Int32} (hd : decode cc pc = .ok (.iushr, 1)) (k : G X own cc nL ret d (pc + 1) lv (.int ((x.toUInt32 >>> (y.toUInt32 &&& Int32.toUInt32 31)).toInt32) :: st) s Q) : G X own cc nL ret d pc lv (.int y :: .int x :: st) s Q := by
  intro p e S m args below meth c A H locs ls C hA hK hP hD hS hl
  obtain ⟨hx, hb, hr, hml, hown, hts, hlk, hnl⟩ := id C
  exact lv_iushr hx hb hd rfl (k p e S m args below meth c A H locs ls C hA hK hP hD hS hl)
theorem G_ineg {x : Int32} (hd : decode cc pc = .ok (.ineg, 1)) (k : G X own cc nL ret d (pc + 1) lv (.int (-x) :: st) s Q) : G X own cc nL ret d pc lv (.int x :: st) s Q := by
  intro p e S m args below meth c A H locs ls C hA hK hP hD hS hl
  obtain ⟨hx, hb, hr, hml, hown, hts, hlk, hnl⟩ := id C
  exact lv_ineg hx hb hd (k p e S m args below meth c A H locs ls C hA hK hP hD hS hl)
theorem G_idiv {x y : Int32} (hd : decode cc pc = .ok (.idiv, 1)) (hne : ¬ y = 0) (k : G X own cc nL ret d (pc + 1) lv (.int (x / y) :: st) s Q) : G X own cc nL ret d pc lv (.int y :: .int x :: st) s Q := by
  intro p e S m args below meth c A H locs ls C hA hK hP hD hS hl
  obtain ⟨hx, hb, hr, hml, hown, hts, hlk, hnl⟩ := id C
  exact lv_idiv hx hb hd hne (k p e S m args below meth c A H locs ls C hA hK hP hD hS hl)
theorem G_irem {x y : Int32} (hd : decode cc pc = .ok (.irem, 1)) (hne : ¬ y = 0) (k : G X own cc nL ret d (pc + 1) lv (.int (x - x / y * y) :: st) s Q) : G X own cc nL ret d pc lv (.int y :: .int x :: st) s Q := by
  intro p e S m args below meth c A H locs ls C hA hK hP hD hS hl
  obtain ⟨hx, hb, hr, hml, hown, hts, hlk, hnl⟩ := id C
  exact lv_irem hx hb hd hne (k p e S m args below meth c A H locs ls C hA hK hP hD hS hl)
theorem G_dup {v : Value} (hd : decode cc pc = .ok (.dup, 1)) (hv : v.category = 1) (k : G X own cc nL ret d (pc + 1) lv (v :: v :: st) s Q) : G X own cc nL ret d pc lv (v :: st) s Q := by
  intro p e S m args below meth c A H locs ls C hA hK hP hD hS hl
  obtain ⟨hx, hb, hr, hml, hown, hts, hlk, hnl⟩ := id C
  exact lv_dup hx hb hd hv (k p e S m args below meth c A H locs ls C hA hK hP hD hS hl)
theorem G_pop {v : Value} (hd : decode cc pc = .ok (.pop, 1)) (hv : v.category = 1) (k : G X own cc nL ret d (pc + 1) lv st s Q) : G X own cc nL ret d pc lv (v :: st) s Q := by
  intro p e S m args below meth c A H locs ls C hA hK hP hD hS hl
  obtain ⟨hx, hb, hr, hml, hown, hts, hlk, hnl⟩ := id C
  exact lv_pop hx hb hd hv (k p e S m args below meth c A H locs ls C hA hK hP hD hS hl)
theorem G_dup2 {v w : Value} (hd : decode cc pc = .ok (.dup2, 1)) (hv : v.category = 1) (hw : w.category = 1) (k : G X own cc nL ret d (pc + 1) lv (v :: w :: v :: w :: st) s Q) : G X own cc nL ret d pc lv (v :: w :: st) s Q := by
  intro p e S m args below meth c A H locs ls C hA hK hP hD hS hl
  obtain ⟨hx, hb, hr, hml, hown, hts, hlk, hnl⟩ := id C
  exact lv_dup2_11 hx hb hd hv hw (k p e S m args below meth c A H locs ls C hA hK hP hD hS hl)
theorem G_dup_x1 {v w : Value} (hd : decode cc pc = .ok (.dup_x1, 1)) (hv : v.category = 1) (hw : w.category = 1) (k : G X own cc nL ret d (pc + 1) lv (v :: w :: v :: st) s Q) : G X own cc nL ret d pc lv (v :: w :: st) s Q := by
  intro p e S m args below meth c A H locs ls C hA hK hP hD hS hl
  obtain ⟨hx, hb, hr, hml, hown, hts, hlk, hnl⟩ := id C
  exact lv_dup_x1 hx hb hd hv hw (k p e S m args below meth c A H locs ls C hA hK hP hD hS hl)
theorem G_goto {off : Int} {tgt : Nat} (hd : decode cc pc = .ok (.goto off, 3)) (ht : (pc : Int) + off = (tgt : Int)) (k : G X own cc nL ret d tgt lv st s Q) : G X own cc nL ret d pc lv st s Q := by
  intro p e S m args below meth c A H locs ls C hA hK hP hD hS hl
  obtain ⟨hx, hb, hr, hml, hown, hts, hlk, hnl⟩ := id C
  exact lv_goto hx hb hd ht (k p e S m args below meth c A H locs ls C hA hK hP hD hS hl)
theorem G_icmp_eq {x y : Int32} {off : Int} {tgt : Nat} (hd : decode cc pc = .ok (.if_icmp .eq off, 3)) (ht : (pc : Int) + off = (tgt : Int)) (kt : x = y → G X own cc nL ret d tgt lv st s Q) (kf : ¬ x = y → G X own cc nL ret d (pc + 3) lv st s Q) : G X own cc nL ret d pc lv (.int y :: .int x :: st) s Q := by
  intro p e S m args below meth c A H locs ls C hA hK hP hD hS hl
  obtain ⟨hx, hb, hr, hml, hown, hts, hlk, hnl⟩ := id C
  exact lv_icmp_eq hx hb hd ht (fun h => kt h p e S m args below meth c A H locs ls C hA hK hP hD hS hl) (fun h => kf h p e S m args below meth c A H locs ls C hA hK hP hD hS hl)
theorem G_icmp_ne {x y : Int32} {off : Int} {tgt : Nat} (hd : decode cc pc = .ok (.if_icmp .ne off, 3)) (ht : (pc : Int) + off = (tgt : Int)) (kt : ¬ x = y → G X own cc nL ret d tgt lv st s Q) (kf : x = y → G X own cc nL ret d (pc + 3) lv st s Q) : G X own cc nL ret d pc lv (.int y :: .int x :: st) s Q := by
  intro p e S m args below meth c A H locs ls C hA hK hP hD hS hl
  obtain ⟨hx, hb, hr, hml, hown, hts, hlk, hnl⟩ := id C
  exact lv_icmp_ne hx hb hd ht (fun h => kt h p e S m args below meth c A H locs ls C hA hK hP hD hS hl) (fun h => kf h p e S m args below meth c A H locs ls C hA hK hP hD hS hl)
theorem G_icmp_lt {x y : Int32} {off : Int} {tgt : Nat} (hd : decode cc pc = .ok (.if_icmp .lt off, 3)) (ht : (pc : Int) + off = (tgt : Int)) (kt : x < y → G X own cc nL ret d tgt lv st s Q) (kf : ¬ x < y → G X own cc nL ret d (pc + 3) lv st s Q) : G X own cc nL ret d pc lv (.int y :: .int x :: st) s Q := by
  intro p e S m args below meth c A H locs ls C hA hK hP hD hS hl
  obtain ⟨hx, hb, hr, hml, hown, hts, hlk, hnl⟩ := id C
  exact lv_icmp_lt hx hb hd ht (fun h => kt h p e S m args below meth c A H locs ls C hA hK hP hD hS hl) (fun h => kf h p e S m args below meth c A H locs ls C hA hK hP hD hS hl)
theorem G_icmp_ge {x y : Int32} {off : Int} {tgt : Nat} (hd : decode cc pc = .ok (.if_icmp .ge off, 3)) (ht : (pc : Int) + off = (tgt : Int)) (kt : y ≤ x → G X own cc nL ret d tgt lv st s Q) (kf : ¬ y ≤ x → G X own cc nL ret d (pc + 3) lv st s Q) : G X own cc nL ret d pc lv (.int y :: .int x :: st) s Q := by
  intro p e S m args below meth c A H locs ls C hA hK hP hD hS hl
  obtain ⟨hx, hb, hr, hml, hown, hts, hlk, hnl⟩ := id C
  exact lv_icmp_ge hx hb hd ht (fun h => kt h p e S m args below meth c A H locs ls C hA hK hP hD hS hl) (fun h => kf h p e S m args below meth c A H locs ls C hA hK hP hD hS hl)
theorem G_icmp_gt {x y : Int32} {off : Int} {tgt : Nat} (hd : decode cc pc = .ok (.if_icmp .gt off, 3)) (ht : (pc : Int) + off = (tgt : Int)) (kt : y < x → G X own cc nL ret d tgt lv st s Q) (kf : ¬ y < x → G X own cc nL ret d (pc + 3) lv st s Q) : G X own cc nL ret d pc lv (.int y :: .int x :: st) s Q := by
  intro p e S m args below meth c A H locs ls C hA hK hP hD hS hl
  obtain ⟨hx, hb, hr, hml, hown, hts, hlk, hnl⟩ := id C
  exact lv_icmp_gt hx hb hd ht (fun h => kt h p e S m args below meth c A H locs ls C hA hK hP hD hS hl) (fun h => kf h p e S m args below meth c A H locs ls C hA hK hP hD hS hl)
theorem G_icmp_le {x y : Int32} {off : Int} {tgt : Nat} (hd : decode cc pc = .ok (.if_icmp .le off, 3)) (ht : (pc : Int) + off = (tgt : Int)) (kt : x ≤ y → G X own cc nL ret d tgt lv st s Q) (kf : ¬ x ≤ y → G X own cc nL ret d (pc + 3) lv st s Q) : G X own cc nL ret d pc lv (.int y :: .int x :: st) s Q := by
  intro p e S m args below meth c A H locs ls C hA hK hP hD hS hl
  obtain ⟨hx, hb, hr, hml, hown, hts, hlk, hnl⟩ := id C
  exact lv_icmp_le hx hb hd ht (fun h => kt h p e S m args below meth c A H locs ls C hA hK hP hD hS hl) (fun h => kf h p e S m args below meth c A H locs ls C hA hK hP hD hS hl)
theorem G_if_eq {x : Int32} {off : Int} {tgt : Nat} (hd : decode cc pc = .ok (.ifCond .eq off, 3)) (ht : (pc : Int) + off = (tgt : Int)) (kt : x = 0 → G X own cc nL ret d tgt lv st s Q) (kf : ¬ x = 0 → G X own cc nL ret d (pc + 3) lv st s Q) : G X own cc nL ret d pc lv (.int x :: st) s Q := by
  intro p e S m args below meth c A H locs ls C hA hK hP hD hS hl
  obtain ⟨hx, hb, hr, hml, hown, hts, hlk, hnl⟩ := id C
  exact lv_if_eq hx hb hd ht (fun h => kt h p e S m args below meth c A H locs ls C hA hK hP hD hS hl) (fun h => kf h p e S m args below meth c A H locs ls C hA hK hP hD hS hl)
theorem G_if_ne {x : Int32} {off : Int} {tgt : Nat} (hd : decode cc pc = .ok (.ifCond .ne off, 3)) (ht : (pc : Int) + off = (tgt : Int)) (kt : ¬ x = 0 → G X own cc nL ret d tgt lv st s Q) (kf : x = 0 → G X own cc nL ret d (pc + 3) lv st s Q) : G X own cc nL ret d pc lv (.int x :: st) s Q := by
  intro p e S m args below meth c A H locs ls C hA hK hP hD hS hl
  obtain ⟨hx, hb, hr, hml, hown, hts, hlk, hnl⟩ := id C
  exact lv_if_ne hx hb hd ht (fun h => kt h p e S m args below meth c A H locs ls C hA hK hP hD hS hl) (fun h => kf h p e S m args below meth c A H locs ls C hA hK hP hD hS hl)
theorem G_if_lt {x : Int32} {off : Int} {tgt : Nat} (hd : decode cc pc = .ok (.ifCond .lt off, 3)) (ht : (pc : Int) + off = (tgt : Int)) (kt : x < 0 → G X own cc nL ret d tgt lv st s Q) (kf : ¬ x < 0 → G X own cc nL ret d (pc + 3) lv st s Q) : G X own cc nL ret d pc lv (.int x :: st) s Q := by
  intro p e S m args below meth c A H locs ls C hA hK hP hD hS hl
  obtain ⟨hx, hb, hr, hml, hown, hts, hlk, hnl⟩ := id C
  exact lv_if_lt hx hb hd ht (fun h => kt h p e S m args below meth c A H locs ls C hA hK hP hD hS hl) (fun h => kf h p e S m args below meth c A H locs ls C hA hK hP hD hS hl)
theorem G_if_ge {x : Int32} {off : Int} {tgt : Nat} (hd : decode cc pc = .ok (.ifCond .ge off, 3)) (ht : (pc : Int) + off = (tgt : Int)) (kt : 0 ≤ x → G X own cc nL ret d tgt lv st s Q) (kf : ¬ 0 ≤ x → G X own cc nL ret d (pc + 3) lv st s Q) : G X own cc nL ret d pc lv (.int x :: st) s Q := by
  intro p e S m args below meth c A H locs ls C hA hK hP hD hS hl
  obtain ⟨hx, hb, hr, hml, hown, hts, hlk, hnl⟩ := id C
  exact lv_if_ge hx hb hd ht (fun h => kt h p e S m args below meth c A H locs ls C hA hK hP hD hS hl) (fun h => kf h p e S m args below meth c A H locs ls C hA hK hP hD hS hl)
theorem G_if_gt {x : Int32} {off : Int} {tgt : Nat} (hd : decode cc pc = .ok (.ifCond .gt off, 3)) (ht : (pc : Int) + off = (tgt : Int)) (kt : 0 < x → G X own cc nL ret d tgt lv st s Q) (kf : ¬ 0 < x → G X own cc nL ret d (pc + 3) lv st s Q) : G X own cc nL ret d pc lv (.int x :: st) s Q := by
  intro p e S m args below meth c A H locs ls C hA hK hP hD hS hl
  obtain ⟨hx, hb, hr, hml, hown, hts, hlk, hnl⟩ := id C
  exact lv_if_gt hx hb hd ht (fun h => kt h p e S m args below meth c A H locs ls C hA hK hP hD hS hl) (fun h => kf h p e S m args below meth c A H locs ls C hA hK hP hD hS hl)
theorem G_if_le {x : Int32} {off : Int} {tgt : Nat} (hd : decode cc pc = .ok (.ifCond .le off, 3)) (ht : (pc : Int) + off = (tgt : Int)) (kt : x ≤ 0 → G X own cc nL ret d tgt lv st s Q) (kf : ¬ x ≤ 0 → G X own cc nL ret d (pc + 3) lv st s Q) : G X own cc nL ret d pc lv (.int x :: st) s Q := by
  intro p e S m args below meth c A H locs ls C hA hK hP hD hS hl
  obtain ⟨hx, hb, hr, hml, hown, hts, hlk, hnl⟩ := id C
  exact lv_if_le hx hb hd ht (fun h => kt h p e S m args below meth c A H locs ls C hA hK hP hD hS hl) (fun h => kf h p e S m args below meth c A H locs ls C hA hK hP hD hS hl)
theorem G_tableOut {dflt lo hi : Int} {offs : Array Int} {len : Nat} {x : Int32} {tgt : Nat} (hd : decode cc pc = .ok (.tableswitch dflt lo hi offs, len)) (h : x.toInt < lo ∨ hi < x.toInt) (ht : (pc : Int) + dflt = (tgt : Int)) (k : G X own cc nL ret d tgt lv st s Q) : G X own cc nL ret d pc lv (.int x :: st) s Q := by
  intro p e S m args below meth c A H locs ls C hA hK hP hD hS hl
  obtain ⟨hx, hb, hr, hml, hown, hts, hlk, hnl⟩ := id C
  exact lv_tableOut hx hb hd h ht (k p e S m args below meth c A H locs ls C hA hK hP hD hS hl)
theorem G_tableIn {dflt lo hi : Int} {offs : Array Int} {len : Nat} {x : Int32} {off : Int} {tgt : Nat} (hd : decode cc pc = .ok (.tableswitch dflt lo hi offs, len)) (h1 : ¬ x.toInt < lo) (h2 : ¬ hi < x.toInt) (ho : offs[(x.toInt - lo).toNat]? = some off) (ht : (pc : Int) + off = (tgt : Int)) (k : G X own cc nL ret d tgt lv st s Q) : G X own cc nL ret d pc lv (.int x :: st) s Q := by
  intro p e S m args below meth c A H locs ls C hA hK hP hD hS hl
  obtain ⟨hx, hb, hr, hml, hown, hts, hlk, hnl⟩ := id C
  exact lv_tableIn hx hb hd h1 h2 ho ht (k p e S m args below meth c A H locs ls C hA hK hP hD hS hl)
theorem G_lookup {dflt : Int} {ps : Array (Int × Int)} {len : Nat} {x : Int32} {off : Int} {tgt : Nat} (hd : decode cc pc = .ok (.lookupswitch dflt ps, len)) (hp : (ps.toList.zip (ps.toList.drop 1)).all (fun (a, next) => a.1 < next.1) = true) (ho : Op.lookupswitch.offset ps.toList dflt x.toInt = off) (ht : (pc : Int) + off = (tgt : Int)) (k : G X own cc nL ret d tgt lv st s Q) : G X own cc nL ret d pc lv (.int x :: st) s Q := by
  intro p e S m args below meth c A H locs ls C hA hK hP hD hS hl
  obtain ⟨hx, hb, hr, hml, hown, hts, hlk, hnl⟩ := id C
  exact lv_lookup hx hb hd hp ho ht (k p e S m args below meth c A H locs ls C hA hK hP hD hS hl)
theorem G_get {C : String} {T : u_T} {N ci index a : Nat} {fs : List Value} {v : Value} (hd : decode cc pc = .ok (.getfield index, 3)) (q : Nat) (he : (X.2.2.2.2 s)[q]? = some (a, .inr (ci, fs))) (hc : X.2.2.1[ci]? = some (C, T, N)) (hin : ∀ w ∈ u_ws C T N, w ∈ tbg) (j : Nat) (hj : j < N) (hw : Cond.fieldLink own index (T j).1 (T j).2.1 (T j).2.2.1 ∈ tbg) (hv : fs[j]? = some v) (k : G X own cc nL ret d (pc + 3) lv (v :: st) s Q) : G X own cc nL ret d pc lv (.ref a :: st) s Q := by
  intro p e S m args below meth c A H locs ls C hA hK hP hD hS hl
  obtain ⟨hx, hb, hr, hml, hown, hts, hlk, hnl⟩ := id C
  exact va_get hx hb hts hin hown hK hP q he hc j hj (hts _ hw) (fun _ h => h) hv hd (k p e S m args below meth c A H locs ls C hA hK hP hD hS hl)
theorem G_put {C : String} {T : u_T} {N ci index a : Nat} {fs : List Value} {v : Value} {s2 : MS} {ty : FieldType} (hd : decode cc pc = .ok (.putfield index, 3)) (q : Nat) (he : (X.2.2.2.2 s)[q]? = some (a, .inr (ci, fs))) (hc : X.2.2.1[ci]? = some (C, T, N)) (hin : ∀ w ∈ u_ws C T N, w ∈ tbg) (ty0 : Nat → FieldType) (hty : ∀ k, k < N → parseFieldDescriptor (T k).2.2.1 = some (ty0 k)) (hnm : ∀ a, a < N → ∀ b, b < N → a ≠ b → (T a).2.1 ≠ (T b).2.1) (j : Nat) (hj : j < N) (hw : Cond.fieldLink own index (T j).1 (T j).2.1 (T j).2.2.1 ∈ tbg) (hfin : (T j).2.2.2 = false) (hpd : parseFieldDescriptor (T j).2.2.1 = some ty) (hn : narrow ty v = v) (hft : fits ty v = true) (hlen : j < fs.length) (hs2 : (X.2.2.2.2 s).set q (a, .inr (ci, fs.set j v)) = X.2.2.2.2 s2) (k : G X own cc nL ret d (pc + 3) lv st s2 Q) : G X own cc nL ret d pc lv (v :: .ref a :: st) s Q := by
  intro p e S m args below meth c A H locs ls C hA hK hP hD hS hl
  obtain ⟨hx, hb, hr, hml, hown, hts, hlk, hnl⟩ := id C
  exact va_put hx hb hts hin ty0 hty hnm hown hK hP hD hS q he hc j hj (hts _ hw) (fun _ h => h) hfin hpd hn hft hlen hd (fun H1 locs1 hP1 hD1 hS1 => k p e S m args below meth c A H1 locs1 ls C hA hK (by rw [← hs2]; exact hP1) (by rw [← hs2]; exact hD1) hS1 hl)
theorem G_iald {a n : Nat} {cA : ClassId} {f : Nat → Int32} {i : Int32} (hd : decode cc pc = .ok (.iaload, 1)) (q t : Nat) (ha : (X.2.2.2.2 s)[q]? = some (a, .inl (cA, n, .inl f))) (ht : X.2.2.2.1[t]? = some (cA, .int)) (hi : inb i n = true) (k : G X own cc nL ret d (pc + 1) lv (.int (f i.toNatClampNeg) :: st) s Q) : G X own cc nL ret d pc lv (.int i :: .ref a :: st) s Q := by
  intro p e S m args below meth c A H locs ls C hA hK hP hD hS hl
  obtain ⟨hx, hb, hr, hml, hown, hts, hlk, hnl⟩ := id C
  exact va_iald hx hb hK hP q t ha ht (inb_in hi) hd (k p e S m args below meth c A H locs ls C hA hK hP hD hS hl)
theorem G_zald {a n : Nat} {cA : ClassId} {f : Nat → Int32} {i : Int32} (hd : decode cc pc = .ok (.baload, 1)) (q t : Nat) (ha : (X.2.2.2.2 s)[q]? = some (a, .inl (cA, n, .inl f))) (ht : X.2.2.2.1[t]? = some (cA, .boolean)) (hi : inb i n = true) (k : G X own cc nL ret d (pc + 1) lv (.int (f i.toNatClampNeg) :: st) s Q) : G X own cc nL ret d pc lv (.int i :: .ref a :: st) s Q := by
  intro p e S m args below meth c A H locs ls C hA hK hP hD hS hl
  obtain ⟨hx, hb, hr, hml, hown, hts, hlk, hnl⟩ := id C
  exact va_zald hx hb hK hP q t ha ht (inb_in hi) hd (k p e S m args below meth c A H locs ls C hA hK hP hD hS hl)
theorem G_iast {a n : Nat} {cA : ClassId} {f : Nat → Int32} {i x : Int32} {s2 : MS} (hd : decode cc pc = .ok (.iastore, 1)) (q t : Nat) (ha : (X.2.2.2.2 s)[q]? = some (a, .inl (cA, n, .inl f))) (ht : X.2.2.2.1[t]? = some (cA, .int)) (hi : inb i n = true) (hs2 : (X.2.2.2.2 s).set q (a, .inl (cA, n, .inl (upd f i.toNatClampNeg x))) = X.2.2.2.2 s2) (k : G X own cc nL ret d (pc + 1) lv st s2 Q) : G X own cc nL ret d pc lv (.int x :: .int i :: .ref a :: st) s Q := by
  intro p e S m args below meth c A H locs ls C hA hK hP hD hS hl
  obtain ⟨hx, hb, hr, hml, hown, hts, hlk, hnl⟩ := id C
  exact va_iast hx hb hK hP hD hS q t ha ht (inb_in hi) hd (fun H1 locs1 hP1 hD1 hS1 => k p e S m args below meth c A H1 locs1 ls C hA hK (by rw [← hs2]; exact hP1) (by rw [← hs2]; exact hD1) hS1 hl)
theorem G_zast {a n : Nat} {cA : ClassId} {f : Nat → Int32} {i x : Int32} {s2 : MS} (hd : decode cc pc = .ok (.bastore, 1)) (q t : Nat) (ha : (X.2.2.2.2 s)[q]? = some (a, .inl (cA, n, .inl f))) (ht : X.2.2.2.1[t]? = some (cA, .boolean)) (hi : inb i n = true) (hs2 : (X.2.2.2.2 s).set q (a, .inl (cA, n, .inl (upd f i.toNatClampNeg (vp_nar .boolean x)))) = X.2.2.2.2 s2) (k : G X own cc nL ret d (pc + 1) lv st s2 Q) : G X own cc nL ret d pc lv (.int x :: .int i :: .ref a :: st) s Q := by
  intro p e S m args below meth c A H locs ls C hA hK hP hD hS hl
  obtain ⟨hx, hb, hr, hml, hown, hts, hlk, hnl⟩ := id C
  exact va_zast hx hb hK hP hD hS q t ha ht (inb_in hi) hd (fun H1 locs1 hP1 hD1 hS1 => k p e S m args below meth c A H1 locs1 ls C hA hK (by rw [← hs2]; exact hP1) (by rw [← hs2]; exact hD1) hS1 hl)
theorem G_alen {a : Nat} {cA : ClassId} {x : vp_A} {ty : FieldType} {v : Int32} (hd : decode cc pc = .ok (.arraylength, 1)) (q t : Nat) (ha : (X.2.2.2.2 s)[q]? = some (a, .inl (cA, x))) (ht : X.2.2.2.1[t]? = some (cA, ty)) (hv : Int32.ofNat x.1 = v) (k : G X own cc nL ret d (pc + 1) lv (.int v :: st) s Q) : G X own cc nL ret d pc lv (.ref a :: st) s Q := by
  intro p e S m args below meth c A H locs ls C hA hK hP hD hS hl
  obtain ⟨hx, hb, hr, hml, hown, hts, hlk, hnl⟩ := id C
  exact va_alen hx hb hK hP q t ha ht hv hd (k p e S m args below meth c A H locs ls C hA hK hP hD hS hl)
theorem G_iret {ty : FieldType} {v : Int32} (hret : ret = some ty) (hn : narrow ty (.int v) = .int v) (hd : decode cc pc = .ok (.ireturn, 1)) (hq : Q v s) : G X own cc nL ret d pc lv [.int v] s Q := by
  intro p e S m args below meth c A H locs ls C hA hK hP hD hS hl
  obtain ⟨hx, hb, hr, hml, hown, hts, hlk, hnl⟩ := id C
  subst hret
  exact W.zret hx hb hr hn (fun t ht hW => ⟨⟨v, s, rfl, ⟨hq, hn⟩, by rw [ht]; exact hP, va_K.moved hW.alike hK, hD⟩, hS.F ht⟩) hS.2.2 hd hlk
theorem G_vret (hret : ret = none) (hd : decode cc pc = .ok (.return_, 1)) (hq : Q 0 s) : G X own cc nL ret d pc lv [] s Q := by
  intro p e S m args below meth c A H locs ls C hA hK hP hD hS hl
  obtain ⟨hx, hb, hr, hml, hown, hts, hlk, hnl⟩ := id C
  subst hret
  exact W.vret hx hb hr (fun t ht hW => ⟨⟨s, rfl, hq, by rw [ht]; exact hP, va_K.moved hW.alike hK, hD⟩, hS.F ht⟩) hS.2.2 hd hlk
/-- Math.max, Math.min -/
theorem G_max {index : Nat} {x y : Int32} (hd : decode cc pc = .ok (.invokestatic index, 3)) (hw : Cond.methodLink own index Lib.Math.max.name ∈ tbg) (h1 : Cond.static Lib.Math.max.name ∈ tbg) (h2 : Cond.initialized "java/lang/Math" ∈ tbg) (h3 : Cond.code Lib.Math.max.name Lib.Math.max.code 2 (some .int) ∈ tbg) (hd1 : 1 ≤ d) (hs : (st.map fun v => v.category).sum ≤ 8) (k : G X own cc nL ret d (pc + 3) lv (.int (if x < y then y else x) :: st) s Q) : G X own cc nL ret d pc lv (.int y :: .int x :: st) s Q := by
  intro p e S m args below meth c A H locs ls C hA hK hP hD hS hl
  obtain ⟨hx, hb, hr, hml, hown, hts, hlk, hnl⟩ := id C
  exact va_mmax hx hb (by rw [hml]; exact hl.1.symm) hown (hts _ hw) (hts _ h1) (hts _ h2) (hts _ h3) hd1 (by show _ ≤ 40 * d; omega) (Nat.le_refl _) (Nat.le_refl _) hd (k p e S m args below meth c A H locs ls C hA hK hP hD hS hl)
theorem G_min {index : Nat} {x y : Int32} (hd : decode cc pc = .ok (.invokestatic index, 3)) (hw : Cond.methodLink own index Lib.Math.min.name ∈ tbg) (h1 : Cond.static Lib.Math.min.name ∈ tbg) (h2 : Cond.initialized "java/lang/Math" ∈ tbg) (h3 : Cond.code Lib.Math.min.name Lib.Math.min.code 2 (some .int) ∈ tbg) (hd1 : 1 ≤ d) (hs : (st.map fun v => v.category).sum ≤ 8) (k : G X own cc nL ret d (pc + 3) lv (.int (if y < x then y else x) :: st) s Q) : G X own cc nL ret d pc lv (.int y :: .int x :: st) s Q := by
  intro p e S m args below meth c A H locs ls C hA hK hP hD hS hl
  obtain ⟨hx, hb, hr, hml, hown, hts, hlk, hnl⟩ := id C
  exact va_mmin hx hb (by rw [hml]; exact hl.1.symm) hown (hts _ hw) (hts _ h1) (hts _ h2) (hts _ h3) hd1 (by show _ ≤ 40 * d; omega) (Nat.le_refl _) (Nat.le_refl _) hd (k p e S m args below meth c A H locs ls C hA hK hP hD hS hl)
/-- System.arraycopy of ints, within the bounds -/
theorem G_copy {index : Nat} {sp dp n : Int32} {a0 a1 n0 n1 : Nat} {c0 c1 : ClassId} {f g : Nat → Int32} {s2 : MS} (hd : decode cc pc = .ok (.invokestatic index, 3)) (hw : Cond.methodLink own index arraycopyName ∈ tbg) (h1 : Cond.native arraycopyName ∈ tbg) (h2 : Cond.static arraycopyName ∈ tbg) (h3 : Cond.initialized "java/lang/System" ∈ tbg) (hd1 : 1 ≤ d) (hs : (st.map fun v => v.category).sum ≤ 8)
    (q0 q1 t0 t1 : Nat) (ha0 : (X.2.2.2.2 s)[q0]? = some (a0, .inl (c0, n0, .inl f))) (ha1 : (X.2.2.2.2 s)[q1]? = some (a1, .inl (c1, n1, .inl g))) (ht0 : X.2.2.2.1[t0]? = some (c0, .int)) (ht1 : X.2.2.2.1[t1]? = some (c1, .int))
    (hc : (decide (0 ≤ sp.toInt ∧ 0 ≤ dp.toInt ∧ 0 ≤ n.toInt ∧ sp.toInt + n.toInt ≤ (n0 : Int) ∧ dp.toInt + n.toInt ≤ (n1 : Int))) = true) (hs2 : (X.2.2.2.2 s).set q1 (a1, .inl (c1, n1, .inl (va_cpy f g sp.toNatClampNeg dp.toNatClampNeg n.toNatClampNeg))) = X.2.2.2.2 s2) (k : G X own cc nL ret d (pc + 3) lv st s2 Q) : G X own cc nL ret d pc lv (.int n :: .int dp :: .ref a1 :: .int sp :: .ref a0 :: st) s Q := by
  intro p e S m args below meth c A H locs ls C hA hK hP hD hS hl
  obtain ⟨hx, hb, hr, hml, hown, hts, hlk, hnl⟩ := id C
  obtain ⟨e1, e2, e3, e4, e5⟩ := of_decide_eq_true hc
  have nn : ∀ z : Int32, 0 ≤ z.toInt → ¬ z < 0 ∧ (z.toNatClampNeg : Int) = z.toInt := fun z hz => ⟨by rw [Int32.lt_iff_toInt_lt]; show ¬ z.toInt < 0; omega, by show ((z.toInt.toNat : Nat) : Int) = z.toInt; omega⟩
  have a1 := nn sp e1
  have a2 := nn dp e2
  have a3 := nn n e3
  have hnf : nativeFrameWords "java/lang/System" "arraycopy" 5 + 11 ≤ 32 := by decide +kernel
  have hlo : (st.map fun v => v.category).sum + (nativeFrameWords "java/lang/System" "arraycopy" 5 + 11) ≤ (RM d).locals := by
    show _ ≤ 40 * d
    omega
  exact va_copyi hx hb (by rw [hml]; exact hl.1.symm) hown (hts _ hw) (hts _ h1) (hts _ h2) (hts _ h3) hK hP hD hS q0 q1 t0 t1 ha0 ha1 ht0 ht1 rfl a1.1 a2.1 a3.1 (by omega) (by omega) (fun i _ => rfl) hd1 hlo hd (fun H1 locs1 hP1 hD1 hS1 => k p e S m args below meth c A H1 locs1 ls C hA hK (by rw [← hs2]; exact hP1) (by rw [← hs2]; exact hD1) hS1 hl)
theorem wblind {X : WX} {av : List Value} {sz : Nat} {s : MS} : FrameBlind (va_Pc av (fun U => U.heap.size = sz ∧ va_P X.2.1 X.2.2.1 (X.2.2.2.2 s) U.heap ∧ va_K X.2.1 X.2.2.1 X.2.2.2.1 U ∧ va_D (fun _ => True) (X.2.2.2.2 s) ∧ NL U)) := fun a U g mk q => by
  obtain ⟨q0, q1, qP, qK, qD, qN⟩ := q
  exact ⟨q0, q1, qP, va_K.moved (u := U) (U := U.calling g mk a) (Vm.Alike.refl U.vm) qK, qD, fun a i x h w => va_Nw.same rfl rfl (qN a i x h w)⟩
/-- a contract out of the method's walk -/
theorem Ct.of {y : MethodName} {n : Nat} {av : List Value} (hm : MI y cc nL ret n) (hlen : (lg_sl av).length ≤ nL) (h : G X y.cls cc nL ret d 0 (lv_args 0 av) [] s Q) : Ct X y cc nL ret d av s Q := by
  intro sz
  refine Met.ofW (cc := cc) (maxL := nL) (ret := ret) hm.2.2.2.2 rfl ?_
  intro p e S m args below meth c s₁ B hml hv
  obtain ⟨rfl, hsz, hP, hK, hD0, hN⟩ := hv
  have hts := atoms_spec (ws := .code y cc nL ret :: tbg) B.pre
  have hown : S.vm.findClass y.cls = some m.cls := findClass_of_methodNamed B.named
  subst hsz
  have hD := hD0.self (sz := S.heap.size)
  rw [lg_entry_eq]
  exact h p e S m _ below meth c _ S.heap [] _ ⟨B.exec, B.bytes, B.returns, hml, hown, fun w hw => hts w (List.mem_cons_of_mem _ hw), B.notSynchronized, hN⟩ (fun q hq => Or.inr hq) hK hP hD va_S.rf (lv_entry av hlen)
theorem fr_free {A : Nat → Prop} {ws : va_W} {H0 H : Heap} {locs : List Loc} (hD : va_D A ws) (hS : va_S A H0 H locs) (hA : ∀ q, H0.size ≤ q → A q) : ∀ q, va_A ws H.size q → A q := by
  intro q h
  rcases h with ⟨k, e, h⟩ | h
  · exact hD.2 k (q, e) h
  · exact hA q (Nat.le_trans hS.1 h)
theorem cb_of {R : Room} {S : State} {args : Array Value} {y : MethodName} {cc2 : ByteArray} {nL2 n index d2 : Nat} {ret2 : Option FieldType} (hts : ∀ w ∈ tbg, w.before args S = true) (hm : MI y cc2 nL2 ret2 n) (hw : Cond.methodLink own index y ∈ tbg) (hR : (RM d2).frames + 1 ≤ R.frames ∧ 8 + (nL2 + 11) + (RM d2).locals ≤ R.locals) : CallB R S args own index y cc2 nL2 ret2 (.code y cc2 nL2 ret2 :: tbg) (RM d2) 0 0 n :=
  callB_of n hts (fun w h => (List.mem_cons.mp h).elim (fun e => tb_good w (e ▸ hm.1)) (tb_good w)) rfl rfl rfl (hts _ hm.2.1) (hts _ hw) hm.2.2.1 hR
theorem rm_ok {d2 nL2 : Nat} (h : d2 + 1 ≤ d) (hn : nL2 ≤ 20) : (RM d2).frames + 1 ≤ (RM d).frames ∧ 8 + (nL2 + 11) + (RM d2).locals ≤ (RM d).locals := ⟨h, by show 8 + (nL2 + 11) + 40 * d2 ≤ 40 * d; omega⟩
theorem G_callVi {y : MethodName} {cc2 : ByteArray} {nL2 n index d2 : Nat} {ty : FieldType} {As : List Value} {Q2 : Int32 → MS → Prop} (hd : decode cc pc = .ok (.invokevirtual index, 3)) (hm : MI y cc2 nL2 (some ty) n) (hw : Cond.methodLink own index y ∈ tbg) (q : Nat) {ci b N : Nat} {T : u_T} {fs : List Value} (he : (X.2.2.2.2 s)[q]? = some (b, .inr (ci, fs))) (hc : X.2.2.1[ci]? = some (y.cls, T, N)) (hv : MV y) (hn : As.length = n) (hs : (st.map fun v => v.category).sum ≤ 8) (hd2 : d2 + 1 ≤ d) (hM : Ct X y cc2 nL2 (some ty) d2 (.ref b :: As) s Q2)
    (k : ∀ (r : Int32) (s2 : MS), Q2 r s2 → narrow ty (.int r) = .int r → G X own cc nL ret d (pc + 3) lv (.int r :: st) s2 Q) : G X own cc nL ret d pc lv (As.reverse ++ .ref b :: st) s Q := by
  intro p e S m args below meth c A H locs ls C hA hK hP hD hS hl
  obtain ⟨hx, hb, hr, hml, hown, hts, hlk, hnl⟩ := id C
  have hF := fr_free hD hS hA
  exact va_calli (va_runV (As := As) (rest := st) ⟨hx, hb, hml, hown, hts⟩ (hM H.size) ⟨cb_of hts hm hw (rm_ok hd2 hm.2.2.2.1), hts _ hv.1, hts _ hv.2⟩ ⟨wblind, va_recv hK hP hc he, fun U hU hW => ⟨rfl, by rw [hU], by rw [hU]; exact hP, va_K.moved hW.alike hK, hD.weaken (fun _ _ _ _ => trivial), hnl.warm hW⟩⟩ rfl hn hl.1 rfl (lv_room hs) hd ⟨Nat.le_refl _, Nat.le_refl _⟩) hS (fun q _ h => hF q h) hF (fun r u t H1 locs1 ht hvm hq hB hz1 hk1 hS1 => k r u hq.1 hq.2 p e S m args below meth c A H1 locs1 ls C hA hK (by rw [← ht]; exact hB.1) (hB.2.2.weaken (fun _ _ _ h => hF _ h)) hS1 hl)
theorem G_callVv {y : MethodName} {cc2 : ByteArray} {nL2 n index d2 : Nat} {As : List Value} {Q2 : Int32 → MS → Prop} (hd : decode cc pc = .ok (.invokevirtual index, 3)) (hm : MI y cc2 nL2 none n) (hw : Cond.methodLink own index y ∈ tbg) (q : Nat) {ci b N : Nat} {T : u_T} {fs : List Value} (he : (X.2.2.2.2 s)[q]? = some (b, .inr (ci, fs))) (hc : X.2.2.1[ci]? = some (y.cls, T, N)) (hv : MV y) (hn : As.length = n) (hs : (st.map fun v => v.category).sum ≤ 8) (hd2 : d2 + 1 ≤ d) (hM : Ct X y cc2 nL2 none d2 (.ref b :: As) s Q2)
    (k : ∀ (s2 : MS), Q2 0 s2 → G X own cc nL ret d (pc + 3) lv st s2 Q) : G X own cc nL ret d pc lv (As.reverse ++ .ref b :: st) s Q := by
  intro p e S m args below meth c A H locs ls C hA hK hP hD hS hl
  obtain ⟨hx, hb, hr, hml, hown, hts, hlk, hnl⟩ := id C
  have hF := fr_free hD hS hA
  exact va_callv (va_runV (As := As) (rest := st) ⟨hx, hb, hml, hown, hts⟩ (hM H.size) ⟨cb_of hts hm hw (rm_ok hd2 hm.2.2.2.1), hts _ hv.1, hts _ hv.2⟩ ⟨wblind, va_recv hK hP hc he, fun U hU hW => ⟨rfl, by rw [hU], by rw [hU]; exact hP, va_K.moved hW.alike hK, hD.weaken (fun _ _ _ _ => trivial), hnl.warm hW⟩⟩ rfl hn hl.1 rfl (lv_room hs) hd ⟨Nat.le_refl _, Nat.le_refl _⟩) hS (fun q _ h => hF q h) hF (fun u t H1 locs1 ht hvm hq hB hz1 hk1 hS1 => k u hq p e S m args below meth c A H1 locs1 ls C hA hK (by rw [← ht]; exact hB.1) (hB.2.2.weaken (fun _ _ _ h => hF _ h)) hS1 hl)
theorem G_callSi {y : MethodName} {cc2 : ByteArray} {nL2 n index d2 : Nat} {ty : FieldType} {As : List Value} {Q2 : Int32 → MS → Prop} (hd : decode cc pc = .ok (.invokestatic index, 3)) (hm : MI y cc2 nL2 (some ty) n) (hw : Cond.methodLink own index y ∈ tbg) (hv : Cond.static y ∈ tbg) (hn : As.length = n) (hs : (st.map fun v => v.category).sum ≤ 8) (hd2 : d2 + 1 ≤ d) (hM : Ct X y cc2 nL2 (some ty) d2 As s Q2)
    (k : ∀ (r : Int32) (s2 : MS), Q2 r s2 → narrow ty (.int r) = .int r → G X own cc nL ret d (pc + 3) lv (.int r :: st) s2 Q) : G X own cc nL ret d pc lv (As.reverse ++ st) s Q := by
  intro p e S m args below meth c A H locs ls C hA hK hP hD hS hl
  obtain ⟨hx, hb, hr, hml, hown, hts, hlk, hnl⟩ := id C
  have hF := fr_free hD hS hA
  exact va_calli (va_runS (As := As) (rest := st) ⟨hx, hb, hml, hown, hts⟩ (hM H.size) ⟨cb_of hts hm hw (rm_ok hd2 hm.2.2.2.1), hts _ hv⟩ ⟨wblind, fun U hU hW => ⟨rfl, by rw [hU], by rw [hU]; exact hP, va_K.moved hW.alike hK, hD.weaken (fun _ _ _ _ => trivial), hnl.warm hW⟩⟩ rfl hn hl.1 rfl (lv_room hs) hd ⟨Nat.le_refl _, Nat.le_refl _⟩) hS (fun q _ h => hF q h) hF (fun r u t H1 locs1 ht hvm hq hB hz1 hk1 hS1 => k r u hq.1 hq.2 p e S m args below meth c A H1 locs1 ls C hA hK (by rw [← ht]; exact hB.1) (hB.2.2.weaken (fun _ _ _ h => hF _ h)) hS1 hl)
theorem G_callSv {y : MethodName} {cc2 : ByteArray} {nL2 n index d2 : Nat} {As : List Value} {Q2 : Int32 → MS → Prop} (hd : decode cc pc = .ok (.invokestatic index, 3)) (hm : MI y cc2 nL2 none n) (hw : Cond.methodLink own index y ∈ tbg) (hv : Cond.static y ∈ tbg) (hn : As.length = n) (hs : (st.map fun v => v.category).sum ≤ 8) (hd2 : d2 + 1 ≤ d) (hM : Ct X y cc2 nL2 none d2 As s Q2)
    (k : ∀ (s2 : MS), Q2 0 s2 → G X own cc nL ret d (pc + 3) lv st s2 Q) : G X own cc nL ret d pc lv (As.reverse ++ st) s Q := by
  intro p e S m args below meth c A H locs ls C hA hK hP hD hS hl
  obtain ⟨hx, hb, hr, hml, hown, hts, hlk, hnl⟩ := id C
  have hF := fr_free hD hS hA
  exact va_callv (va_runS (As := As) (rest := st) ⟨hx, hb, hml, hown, hts⟩ (hM H.size) ⟨cb_of hts hm hw (rm_ok hd2 hm.2.2.2.1), hts _ hv⟩ ⟨wblind, fun U hU hW => ⟨rfl, by rw [hU], by rw [hU]; exact hP, va_K.moved hW.alike hK, hD.weaken (fun _ _ _ _ => trivial), hnl.warm hW⟩⟩ rfl hn hl.1 rfl (lv_room hs) hd ⟨Nat.le_refl _, Nat.le_refl _⟩) hS (fun q _ h => hF q h) hF (fun u t H1 locs1 ht hvm hq hB hz1 hk1 hS1 => k u hq p e S m args below meth c A H1 locs1 ls C hA hK (by rw [← ht]; exact hB.1) (hB.2.2.weaken (fun _ _ _ h => hF _ h)) hS1 hl)
theorem G_callNi {y : MethodName} {cc2 : ByteArray} {nL2 n index d2 : Nat} {ty : FieldType} {As : List Value} {Q2 : Int32 → MS → Prop} (hd : decode cc pc = .ok (.invokestatic index, 3)) (hm : MI y cc2 nL2 (some ty) n) {host : String} (hw : Cond.methodLinkNest own index y host ∈ tables_1) (hv : Cond.static y ∈ tbg) (hn : As.length = n) (hs : (st.map fun v => v.category).sum ≤ 8) (hd2 : d2 + 1 ≤ d) (hM : Ct X y cc2 nL2 (some ty) d2 As s Q2)
    (k : ∀ (r : Int32) (s2 : MS), Q2 r s2 → narrow ty (.int r) = .int r → G X own cc nL ret d (pc + 3) lv (.int r :: st) s2 Q) : G X own cc nL ret d pc lv (As.reverse ++ st) s Q := by
  intro p e S m args below meth c A H locs ls C hA hK hP hD hS hl
  obtain ⟨hx, hb, hr, hml, hown, hts, hlk, hnl⟩ := id C
  have hF := fr_free hD hS hA
  exact va_calli (va_runSN (As := As) (rest := st) ⟨hx, hb, hml, hown, hts⟩ (hM H.size) ⟨va_cnB n hts (fun w h => (List.mem_cons.mp h).elim (fun e => tb_good w (e ▸ hm.1)) (tb_good w)) rfl rfl rfl (hnl _ _ _ _ hw) (hts _ hm.2.1) hm.2.2.1 (rm_ok hd2 hm.2.2.2.1), hts _ hv, trivial⟩ ⟨wblind, fun U hU hW => ⟨rfl, by rw [hU], by rw [hU]; exact hP, va_K.moved hW.alike hK, hD.weaken (fun _ _ _ _ => trivial), hnl.warm hW⟩⟩ rfl hn hl.1 rfl (lv_room hs) hd ⟨Nat.le_refl _, Nat.le_refl _⟩) hS (fun q _ h => hF q h) hF (fun r u t H1 locs1 ht hvm hq hB hz1 hk1 hS1 => k r u hq.1 hq.2 p e S m args below meth c A H1 locs1 ls C hA hK (by rw [← ht]; exact hB.1) (hB.2.2.weaken (fun _ _ _ h => hF _ h)) hS1 hl)
theorem G_callNv {y : MethodName} {cc2 : ByteArray} {nL2 n index d2 : Nat} {As : List Value} {Q2 : Int32 → MS → Prop} (hd : decode cc pc = .ok (.invokestatic index, 3)) (hm : MI y cc2 nL2 none n) {host : String} (hw : Cond.methodLinkNest own index y host ∈ tables_1) (hv : Cond.static y ∈ tbg) (hn : As.length = n) (hs : (st.map fun v => v.category).sum ≤ 8) (hd2 : d2 + 1 ≤ d) (hM : Ct X y cc2 nL2 none d2 As s Q2)
    (k : ∀ (s2 : MS), Q2 0 s2 → G X own cc nL ret d (pc + 3) lv st s2 Q) : G X own cc nL ret d pc lv (As.reverse ++ st) s Q := by
  intro p e S m args below meth c A H locs ls C hA hK hP hD hS hl
  obtain ⟨hx, hb, hr, hml, hown, hts, hlk, hnl⟩ := id C
  have hF := fr_free hD hS hA
  exact va_callv (va_runSN (As := As) (rest := st) ⟨hx, hb, hml, hown, hts⟩ (hM H.size) ⟨va_cnB n hts (fun w h => (List.mem_cons.mp h).elim (fun e => tb_good w (e ▸ hm.1)) (tb_good w)) rfl rfl rfl (hnl _ _ _ _ hw) (hts _ hm.2.1) hm.2.2.1 (rm_ok hd2 hm.2.2.2.1), hts _ hv, trivial⟩ ⟨wblind, fun U hU hW => ⟨rfl, by rw [hU], by rw [hU]; exact hP, va_K.moved hW.alike hK, hD.weaken (fun _ _ _ _ => trivial), hnl.warm hW⟩⟩ rfl hn hl.1 rfl (lv_room hs) hd ⟨Nat.le_refl _, Nat.le_refl _⟩) hS (fun q _ h => hF q h) hF (fun u t H1 locs1 ht hvm hq hB hz1 hk1 hS1 => k u hq p e S m args below meth c A H1 locs1 ls C hA hK (by rw [← ht]; exact hB.1) (hB.2.2.weaken (fun _ _ _ h => hF _ h)) hS1 hl)
end GR
-- ===== more of the words =====
def xit {S T : Type} (o : Option T) : Option (S ⊕ T) := o.bind (fun r => some (.inr r))
theorem Ok_xit {S T : Type} {o : Option T} {P : S ⊕ T → Prop} (h : Ok (xit o) P) : Ok o (fun r => P (.inr r)) := Ok_mono (Ok_bind h) (fun _ q => Ok_some q)
def bd2 {β : Type} (o : Option (Int32 × MS)) (k : Int32 → MS → Option β) : Option β := o.bind (fun q => k q.1 q.2)
def Ok2 (o : Option (Int32 × MS)) (P : Int32 → MS → Prop) : Prop := ∃ r s, o = some (r, s) ∧ P r s
theorem Ok_bd2 {β : Type} {o : Option (Int32 × MS)} {k : Int32 → MS → Option β} {P : β → Prop} (h : Ok (bd2 o k) P) : Ok2 o (fun r s => Ok (k r s) P) := by
  obtain ⟨q, h1, h2⟩ := Ok_bind h
  exact ⟨q.1, q.2, h1, h2⟩
theorem Ok2_ok {o : Option (Int32 × MS)} {P : Int32 → MS → Prop} (h : Ok2 o P) : Ok o (fun q => P q.1 q.2) := by
  obtain ⟨r, s, h1, h2⟩ := h
  exact ⟨(r, s), h1, h2⟩
theorem Ok_ld {α β : Type} {b : Bool} {x : α} {k : α → Option β} {P : β → Prop} (h : Ok (chk b (bnd x k)) P) : b = true ∧ ∀ y, y = x → Ok (k y) P := ⟨(Ok_chk h).1, fun y e => Ok_bnd (Ok_chk h).2 y e⟩
theorem ne_ti {x k : Int32} {z : Int} (hz : k.toInt = z) (h : ¬ x = k) : ¬ z = x.toInt := fun e => h (Int32.toInt_inj.mp (by rw [hz, e]))
theorem eq_ti {x k : Int32} {z : Int} (hz : k.toInt = z) (h : x = k) : x.toInt = z := by rw [h, hz]
section GP
variable {X : WX} {own : String} {cc : ByteArray} {nL : Nat} {ret : Option FieldType} {d pc : Nat} {lv : List (Nat × Value)} {st : List Value} {s : MS} {Q : Int32 → MS → Prop}
theorem G_callVp {y : MethodName} {cc2 : ByteArray} {nL2 n index d2 : Nat} {ty : FieldType} {As : List Value} {P : Int32 → Prop} (hd : decode cc pc = .ok (.invokevirtual index, 3)) (hm : MI y cc2 nL2 (some ty) n) (hw : Cond.methodLink own index y ∈ tbg) (q : Nat) {ci b N : Nat} {T : u_T} {fs : List Value} (he : (X.2.2.2.2 s)[q]? = some (b, .inr (ci, fs))) (hc : X.2.2.1[ci]? = some (y.cls, T, N)) (hv : MV y) (hn : As.length = n) (hs : (st.map fun v => v.category).sum ≤ 8) (hd2 : d2 + 1 ≤ d) (hM : Ct X y cc2 nL2 (some ty) d2 (.ref b :: As) s (fun r s2 => s2 = s ∧ P r))
    (k : ∀ (r : Int32), P r → narrow ty (.int r) = .int r → G X own cc nL ret d (pc + 3) lv (.int r :: st) s Q) : G X own cc nL ret d pc lv (As.reverse ++ .ref b :: st) s Q :=
  G_callVi hd hm hw q he hc hv hn hs hd2 hM (fun r s2 hq hn => by rw [hq.1]; exact k r hq.2 hn)
theorem G_callSp {y : MethodName} {cc2 : ByteArray} {nL2 n index d2 : Nat} {ty : FieldType} {As : List Value} {P : Int32 → Prop} (hd : decode cc pc = .ok (.invokestatic index, 3)) (hm : MI y cc2 nL2 (some ty) n) (hw : Cond.methodLink own index y ∈ tbg) (hv : Cond.static y ∈ tbg) (hn : As.length = n) (hs : (st.map fun v => v.category).sum ≤ 8) (hd2 : d2 + 1 ≤ d) (hM : Ct X y cc2 nL2 (some ty) d2 As s (fun r s2 => s2 = s ∧ P r))
    (k : ∀ (r : Int32), P r → narrow ty (.int r) = .int r → G X own cc nL ret d (pc + 3) lv (.int r :: st) s Q) : G X own cc nL ret d pc lv (As.reverse ++ st) s Q :=
  G_callSi hd hm hw hv hn hs hd2 hM (fun r s2 hq hn => by rw [hq.1]; exact k r hq.2 hn)
theorem G_callNp {y : MethodName} {cc2 : ByteArray} {nL2 n index d2 : Nat} {ty : FieldType} {As : List Value} {P : Int32 → Prop} (hd : decode cc pc = .ok (.invokestatic index, 3)) (hm : MI y cc2 nL2 (some ty) n) {host : String} (hw : Cond.methodLinkNest own index y host ∈ tables_1) (hv : Cond.static y ∈ tbg) (hn : As.length = n) (hs : (st.map fun v => v.category).sum ≤ 8) (hd2 : d2 + 1 ≤ d) (hM : Ct X y cc2 nL2 (some ty) d2 As s (fun r s2 => s2 = s ∧ P r))
    (k : ∀ (r : Int32), P r → narrow ty (.int r) = .int r → G X own cc nL ret d (pc + 3) lv (.int r :: st) s Q) : G X own cc nL ret d pc lv (As.reverse ++ st) s Q :=
  G_callNi hd hm hw hv hn hs hd2 hM (fun r s2 hq hn => by rw [hq.1]; exact k r hq.2 hn)
end GP
/-- a place in an array of rows, known -/
theorem G_aald {X : WX} {own : String} {cc : ByteArray} {nL : Nat} {ret : Option FieldType} {d pc : Nat} {lv : List (Nat × Value)} {st : List Value} {s : MS} {Q : Int32 → MS → Prop} {a n : Nat} {cA : ClassId} {f : Nat → Option Nat} {i : Int32} {b : Nat} (hd : decode cc pc = .ok (.aaload, 1)) (q t : Nat) (ha : (X.2.2.2.2 s)[q]? = some (a, .inl (cA, n, .inr (.inr (.inr (.inr f)))))) (ht : X.2.2.2.1[t]? = some (cA, .array .int)) (hi : inb i n = true) (hb : f i.toNatClampNeg = some b) (k : G X own cc nL ret d (pc + 1) lv (.ref b :: st) s Q) : G X own cc nL ret d pc lv (.int i :: .ref a :: st) s Q := by
  intro p e S m args below meth c A H locs ls C hA hK hP hD hS hl
  obtain ⟨hx, hb', hr, hml, hown, hts, hlk, hnl⟩ := id C
  have hin := inb_in hi
  have hlt : i.toNatClampNeg < n := Nat.not_le.mp fun q => hin (Or.inr q)
  exact W.aald (v := .ref b) (ty := .array .int) hx hb' (hP q _ ha) ((hK.2 t _ ht).1 n (fun j => va_rf (f j))) rfl (fun q => by cases q) (by show ¬ (i < 0 ∨ (arrV _ _ _).slots.size ≤ _); rw [arrV_size]; exact hin) (by show (arrV _ _ _).slots[_]? = _; rw [arrV_read _ _ hlt, hb]; rfl) rfl rfl hd (k p e S m args below meth c A H locs ls C hA hK hP hD hS hl)
