-- ===== new int[3][12] =====
theorem mr_outer (c : ClassId) (N h0 : Nat) : ∀ i : Nat, Jvm.Free.Multi.outerC c N h0 i = arrV c N (fun j => va_rf (if j < i then some (h0 + 1 + j) else none))
  | 0 => by
    show ({ cls := c, slots := Array.replicate N .null, vm := .none } : Cell) = _
    rw [arrV_new]
    refine congrArg (arrV c N) (funext fun j => ?_)
    simp [va_rf]
  | i + 1 => by
    show (Jvm.Free.Multi.outerC c N h0 i).setSlot i (.ref (h0 + 1 + i)) = _
    rw [mr_outer c N h0 i, arrV_store]
    refine congrArg (arrV c N) (funext fun j => ?_)
    by_cases e : j = i
    · subst e
      simp [updV, va_rf]
    · by_cases h : j < i
      · simp [updV, e, h, Nat.lt_succ_of_lt h]
      · simp [updV, e, h, show ¬ j < i + 1 by omega]
theorem C_mna {X : WC} {own : String} {cc : ByteArray} {nL d mc ms k n pc : Nat} {lv : List (Nat × Value)} {st : List Value} {ws : va_W} {Q : va_W → Prop} {index t0 t1 : Nat} {cI cJ : ClassId} (hd : decode cc pc = .ok (.multianewarray index 2, 4)) (hcl : Cond.classLink own index "[[I" ∈ tbg) (harr : Cond.arrayClass .int ∈ tbg) (ht0 : X.2.2.2[t0]? = some (cI, .int)) (ht1 : X.2.2.2[t1]? = some (cJ, .array .int)) (hk : k + 4 ≤ mc) (hsl : n + 39 ≤ ms)
    (kk : ∀ q : Nat, GC X own cc nL d mc ms (k + 4) (n + 39) (pc + 4) lv (.ref q :: st) (ws ++ [(q, .inl (cJ, 3, .inr (.inr (.inr (.inr (fun i => if i < 3 then some (q + 1 + i) else none)))))), (q + 1, .inl (cI, 12, .inl (fun _ => 0))), (q + 2, .inl (cI, 12, .inl (fun _ => 0))), (q + 3, .inl (cI, 12, .inl (fun _ => 0)))]) Q) : GC X own cc nL d mc ms k n pc lv (.int 12 :: .int 3 :: st) ws Q := by
  intro p e S m args below meth c A H locs ls C hin hao hA hK hP hD hS hl
  obtain ⟨hx, hb, hr, hml, hown, hts, hlk, hnl⟩ := id C
  intro T hT Xs
  have e3 : (3 : Int32).toNatClampNeg = 3 := by decide
  have e12 : (12 : Int32).toNatClampNeg = 12 := by decide
  obtain ⟨vm₁, cA, comp, -, fA, fC, hO, -, X', step⟩ := Xs.multianewarray2F (ty := .int) hx hown (index := index) (by
    have := hts _ hcl
    exact this) hao (hts _ harr) (g := F0 m pc ls (.int 12 :: .int 3 :: st)) rfl (by rw [hb]; exact hd) rfl (by decide) (by decide) (by decide) (by decide) (by decide) rfl rfl (by rw [e3]; exact hk) (by rw [e3, e12]; exact hsl)
  have hcA : cA = cJ := Option.some.inj (fA.symm.trans (hK.2 t1 _ ht1).2)
  have hcI : comp = cI := Option.some.inj (fC.symm.trans (hK.2 t0 _ ht0).2)
  subst hcA
  subst hcI
  rw [e3, e12] at X' step
  generalize hF : Jvm.Free.Multi.fill (T.setVm vm₁) cA comp 3 12 (defaultValue .int) 3 = F at X' step
  have hTh : (T.setVm vm₁).heap = H := hT
  obtain ⟨f1, f2, -, -⟩ := Jvm.Free.Multi.fill_facts (T.setVm vm₁) cA comp 3 12 (defaultValue .int) 3
  rw [hF, hTh] at f1 f2
  have hold : ∀ x : Nat, x < H.size → F.heap[x]? = H[x]? := fun x hx => by
    have := Jvm.Free.Multi.fill_old (T.setVm vm₁) cA comp 3 12 (defaultValue .int) (a := x) (by rw [hTh]; exact hx) 3
    rw [hF, hTh] at this
    exact this
  have hrow : ∀ j : Nat, j < 3 → F.heap[H.size + 1 + j]? = some (vp_cell comp (12, .inl (fun _ => 0))) := fun j hj => by
    have := Jvm.Free.Multi.fill_inner (T.setVm vm₁) cA comp 3 12 (defaultValue .int) 3 j hj
    rw [hF, hTh] at this
    rw [this, vp_cell_i]
    exact congrArg some (arrV_new comp 12 (defaultValue .int))
  rw [mr_outer] at f2
  have hP0 : va_P X.2.1 X.2.2.1 ws F.heap := hP.kept (fun k9 x hx => hold x.1 ((hP k9 x hx).lt))
  have hnew : va_P X.2.1 X.2.2.1 [(H.size, .inl (cA, 3, .inr (.inr (.inr (.inr (fun i => if i < 3 then some (H.size + 1 + i) else none)))))), (H.size + 1, .inl (comp, 12, .inl (fun _ => 0))), (H.size + 2, .inl (comp, 12, .inl (fun _ => 0))), (H.size + 3, .inl (comp, 12, .inl (fun _ => 0)))] F.heap := by
    intro k9 x hx
    match k9, hx with
    | 0, hx =>
      cases hx
      show F.heap[H.size]? = some (vp_cell _ _)
      rw [vp_cell_q]
      exact f2
    | 1, hx => cases hx; exact hrow 0 (by omega)
    | 2, hx => cases hx; exact hrow 1 (by omega)
    | 3, hx => cases hx; exact hrow 2 (by omega)
    | k9 + 4, hx => simp at hx
  have hlt : ∀ (i : Nat) (x : Nat × va_E), ws[i]? = some x → x.1 < H.size := fun i x hx => (hP i x hx).lt
  have hDn : va_D A [(H.size, .inl (cA, 3, .inr (.inr (.inr (.inr (fun i => if i < 3 then some (H.size + 1 + i) else none)))))), (H.size + 1, .inl (comp, 12, .inl (fun _ => 0))), (H.size + 2, .inl (comp, 12, .inl (fun _ => 0))), (H.size + 3, .inl (comp, 12, .inl (fun _ => 0)))] := by
    have ha : ∀ (k9 : Nat) (x : Nat × va_E), ([(H.size, .inl (cA, 3, .inr (.inr (.inr (.inr (fun i => if i < 3 then some (H.size + 1 + i) else none)))))), (H.size + 1, .inl (comp, 12, .inl (fun _ => 0))), (H.size + 2, .inl (comp, 12, .inl (fun _ => 0))), (H.size + 3, .inl (comp, 12, .inl (fun _ => 0)))] : va_W)[k9]? = some x → x.1 = H.size + k9 := by
      intro k9 x hx
      match k9, hx with
      | 0, hx => cases hx; rfl
      | 1, hx => cases hx; rfl
      | 2, hx => cases hx; rfl
      | 3, hx => cases hx; rfl
      | k9 + 4, hx => simp at hx
    refine ⟨fun i j x y hi hj hxy => ?_, fun k9 x hx => hA _ ?_⟩
    · have h1 := ha i x hi
      have h2 := ha j y hj
      omega
    · have h1 := ha k9 x hx
      have h2 := hS.1
      omega
  have hD2 := va_D.app hD hDn (fun i j x y hx hy hxy => by
    have h1 := hlt i x hx
    have h2 : H.size ≤ y.1 := by
      match j, hy with
      | 0, hy => cases hy; exact Nat.le_refl _
      | 1, hy => cases hy; exact Nat.le_add_right _ _
      | 2, hy => cases hy; exact Nat.le_add_right _ _
      | 3, hy => cases hy; exact Nat.le_add_right _ _
      | k9 + 4, hy => simp at hy
    omega)
  obtain ⟨t, a1, b1⟩ := kk H.size p e S m args below meth c A F.heap locs ls C hin hao hA hK (hP0.app hnew) hD2 ⟨by rw [f1]; have := hS.1; omega, fun x h1 h2 => (hold x (Nat.lt_of_lt_of_le h1 hS.1)).trans (hS.2.1 x h1 h2), hS.2.2⟩ hl F rfl X'
  refine ⟨t, step t ?_, b1⟩
  have e : T.heap.size = H.size := by rw [hT]
  rw [e]
  exact a1
