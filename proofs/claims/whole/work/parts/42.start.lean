theorem w_AO : (Cond.arrayOver (.array .int)) ∈ lw_tbl := List.mem_append_right _ (List.mem_append_right _ (List.mem_append_left _ (List.mem_of_getElem? (i := 106) rfl)))
theorem kn_arr {args : Array Value} {s : State} {ty : FieldType} (h : (Cond.arrayClass ty).before args s = true) : ∃ cA : ClassId, ArrOfT s cA ty ∧ s.vm.findClass ("[" ++ ty.toString) = some cA := by
  obtain ⟨cA, kA, comp, h1, h2, h3⟩ := Cond.arrayClass_spec h
  exact ⟨cA, fun n z => ⟨fun k h => (by cases h), kA, h2, comp, h3⟩, h1⟩
theorem kn_arr2 {s : State} (h : AO s) : ∃ cA : ClassId, ArrOfT s cA (.array .int) ∧ s.vm.findClass ("[" ++ (FieldType.array .int).toString) = some cA := by
  unfold AO Cond.before Cond.holds at h
  simp only [Cond.value, beq_iff_eq] at h
  simp only [Option.bind_eq_some_iff, Option.map_eq_some_iff] at h
  obtain ⟨comp, h1, c, h2, k, h3, h4⟩ := h
  cases hk : k.kind with
  | array comp2 ty =>
    rw [hk] at h4
    simp only [Bool.and_eq_true, decide_eq_true_eq] at h4
    obtain ⟨h5, h6⟩ := h4
    subst h5
    exact ⟨c, fun n z => ⟨fun k h => (by cases h), k, h3, comp2, hk⟩, h6⟩
  | _ => rw [hk] at h4; simp at h4
theorem whole_of {I : MS → MS → Prop} (hI : I ix im) (hSt : Steps_ok I) {p : Program} {e : Env} {s : State} {m : MethodId} {below : List Frame} {meth : Method} {c : Code} (l : Launch) {b L : Nat} {xs : Nat → Int32} (hL : L ≤ 3072) (C0 : lw_At p s m meth c b L xs) : W p l e room_1 s m #[Value.ref b] below meth c s.heap [] 0 0 (lw_Z below #[Value.ref b] s) (entryFrame m ([Value.ref b] : List Value).toArray 4) := by
  obtain ⟨hx, hb, hr, hml, hown, hts, hX, hbl, hlocks, hgv⟩ := id C0
  have hA : ∀ q : Nat, s.heap.size ≤ q → (fun q : Nat => s.heap.size ≤ q) q := fun _ h => h
  obtain ⟨c0, i0, k0⟩ := u_known (C := "SmallHarbour$Berths") (T := T_Berths) (N := 4) (n := 4) hts (fun w h => tbg_in (i_Berths w h)) (hts _ (tbg_in w_40))
  obtain ⟨c1, i1, k1⟩ := u_known (C := "SmallHarbour$Boats") (T := T_Boats) (N := 5) (n := 5) hts (fun w h => tbg_in (i_Boats w h)) (hts _ (tbg_in w_61))
  obtain ⟨c2, i2, k2⟩ := u_known (C := "SmallHarbour$Hoist") (T := T_Hoist) (N := 8) (n := 8) hts (fun w h => tbg_in (i_Hoist w h)) (hts _ (tbg_in w_186))
  obtain ⟨c3, i3, k3⟩ := u_known (C := "SmallHarbour$Reader") (T := T_Reader) (N := 11) (n := 11) hts (fun w h => tbg_in (i_Reader w h)) (hts _ (tbg_in w_276))
  obtain ⟨c4, i4, k4⟩ := u_known (C := "SmallHarbour$Rules") (T := T_Rules) (N := 6) (n := 6) hts (fun w h => tbg_in (i_Rules w h)) (hts _ (tbg_in w_320))
  obtain ⟨c5, i5, k5⟩ := u_known (C := "SmallHarbour$Shed") (T := T_Shed) (N := 10) (n := 10) hts (fun w h => tbg_in (i_Shed w h)) (hts _ (tbg_in w_220))
  obtain ⟨c6, i6, k6⟩ := u_known (C := "SmallHarbour$Spans") (T := T_Spans) (N := 4) (n := 4) hts (fun w h => tbg_in (i_Spans w h)) (hts _ (tbg_in w_88))
  obtain ⟨c7, i7, k7⟩ := u_known (C := "SmallHarbour$Stays") (T := T_Stays) (N := 5) (n := 5) hts (fun w h => tbg_in (i_Stays w h)) (hts _ (tbg_in w_110))
  obtain ⟨c8, i8, k8⟩ := u_known (C := "SmallHarbour$Tape") (T := T_Tape) (N := 2) (n := 2) hts (fun w h => tbg_in (i_Tape w h)) (hts _ (tbg_in w_260))
  obtain ⟨c9, i9, k9⟩ := u_known (C := "SmallHarbour$Tide") (T := T_Tide) (N := 2) (n := 2) hts (fun w h => tbg_in (i_Tide w h)) (hts _ (tbg_in w_26))
  obtain ⟨c10, i10, k10⟩ := u_known (C := "SmallHarbour$Walk") (T := T_Walk) (N := 13) (n := 13) hts (fun w h => tbg_in (i_Walk w h)) (hts _ (tbg_in w_137))
  obtain ⟨c11, i11, k11⟩ := u_known (C := "SmallHarbour") (T := T_Hb) (N := 13) (n := 13) hts (fun w h => tbg_in (i_Hb w h)) (hts _ (tbg_in w_18))
  obtain ⟨c12, i12, k12⟩ := u_known (C := "SmallHarbourModel") (T := T_Md) (N := 68) (n := 68) hts (fun w h => tbg_in (i_Md w h)) (hts _ (tbg_in w_831))
  obtain ⟨dC, dI, hKc⟩ : ∃ (dC : Nat → ClassId) (dI : Nat → Nat → Nat), ∀ (k : Nat) (q : vw_C), classes[k]? = some q → u_Kn s q.1 q.2.1 q.2.2 (dC k) (dI k) := by
    refine ⟨fun k => [c0, c1, c2, c3, c4, c5, c6, c7, c8, c9, c10, c11, c12].getD k c0, fun k => [i0, i1, i2, i3, i4, i5, i6, i7, i8, i9, i10, i11, i12].getD k i0, ?_⟩
    intro k q hq
    match k, hq with
    | 0, hq => cases hq; exact k0
    | 1, hq => cases hq; exact k1
    | 2, hq => cases hq; exact k2
    | 3, hq => cases hq; exact k3
    | 4, hq => cases hq; exact k4
    | 5, hq => cases hq; exact k5
    | 6, hq => cases hq; exact k6
    | 7, hq => cases hq; exact k7
    | 8, hq => cases hq; exact k8
    | 9, hq => cases hq; exact k9
    | 10, hq => cases hq; exact k10
    | 11, hq => cases hq; exact k11
    | 12, hq => cases hq; exact k12
    | k + 13, hq => simp [classes] at hq
  have hao : AO s := hts _ w_AO
  have hnl : NL s := fun a i x h w => va_Nw.of rfl (hts _ (List.mem_append_right _ w))
  obtain ⟨cI, aI, rI⟩ := kn_arr (hts _ (tbg_in w_38))
  obtain ⟨cZ, aZ, rZ⟩ := kn_arr (hts _ (tbg_in w_218))
  obtain ⟨cJ, aJ, rJ⟩ := kn_arr2 hao
  have hK : va_K (dC, dI) classes [(cI, .int), (cZ, .boolean), (cJ, .array .int)] s := ⟨hKc, fun k q h => by
    match k, h with
    | 0, h => cases h; exact ⟨aI, rI⟩
    | 1, h => cases h; exact ⟨aZ, rZ⟩
    | 2, h => cases h; exact ⟨aJ, rJ⟩
    | k + 3, h => simp at h⟩
  have hS : va_S (fun q : Nat => s.heap.size ≤ q) s.heap s.heap [] := va_S.rf
  have hP : va_P (dC, dI) classes [] s.heap := fun k q h => by simp at h
  have hD : va_D (fun q : Nat => s.heap.size ≤ q) [] := ⟨fun i j p q h => by simp at h, fun k q h => by simp at h⟩
  have hl := lv_entry ([.ref b]) (n := 4) (Nat.le_of_ble_eq_true rfl)
  rw [lg_entry_eq]
  generalize (lg_sl ([.ref b]) ++ List.replicate (4 - (lg_sl ([.ref b])).length) Slot.unset).toArray = ls at hl ⊢
  have hl : lv_has ls 4 [(0, .ref b)] := hl
  refine va_new (ci := 11) (fs := [.null, .null, .null, .null, .null, .null, .null, .null, .null, .null, .null, .null, .int 0]) (C := "SmallHarbour") (T := T_Hb) (N := 13) hx hb hts (fun w h => tbg_in (i_Hb w h)) t_Hb tk_Hb hown (hts _ (tbg_in w_17)) (hts _ (tbg_in w_18)) (hts _ (tbg_in w_1)) hK hP hD hS hA rfl (by decide) (by decide) (by decide) d_law_0 (fun q0 H hP hD hS => ?_)
  have hP : va_P (dC, dI) classes [(q0, .inr (11, [.null, .null, .null, .null, .null, .null, .null, .null, .null, .null, .null, .null, .int 0]))] H := hP
  have hD : va_D (fun q : Nat => s.heap.size ≤ q) [(q0, .inr (11, [.null, .null, .null, .null, .null, .null, .null, .null, .null, .null, .null, .null, .int 0]))] := hD
  refine lv_dup hx hb d_law_3 rfl ?_
  have hF := fr_free hD hS hA
  refine va_callv (va_runI (As := []) (rest := [.ref q0]) ⟨hx, hb, hml, hown, hts⟩ (c_Hb_init (l := l) (D := (dC, dI)) (cI := cI) (cZ := cZ) (cJ := cJ) q0 H.size) ⟨callB_of (R := room_1) (rm := RC 2 55 2120) 0 hts (fun w h => (List.mem_cons.mp h).elim (fun e => ⟨tbg_in (e ▸ mi_Hb_init.1), (tb_good w (e ▸ mi_Hb_init.1)).2⟩) (fun q => ⟨tbg_in q, (tb_good w q).2⟩)) rfl rfl rfl (hts _ (tbg_in mi_Hb_init.2.1)) (hts _ (tbg_in w_19)) mi_Hb_init.2.2.1 (by decide), rfl, hts _ (tbg_in w_20)⟩ ⟨cblind, fun U hU hW => ⟨rfl, by rw [hU], by rw [hU]; exact hP, va_K.moved hW.alike hK, hD.weaken (fun _ _ _ _ => trivial), hnl.warm hW, hao.warm hW⟩⟩ rfl rfl hl.1 rfl (lv_room (Nat.le_of_ble_eq_true rfl)) d_law_4 (by decide)) hS (fun q _ h => hF q h) hF (fun u t H1 locs ht hvm hq hB hz1 hk1 hS5 => ?_)
  obtain ⟨ax, hax, rfl⟩ := hq
  obtain ⟨hP5, hK1, hD1⟩ := hB
  rw [ht] at hP5
  have hD5 : va_D (fun q : Nat => s.heap.size ≤ q) (EX ax cI cZ cJ ix) := hD1.weaken (fun k q _ h => hF q.1 h)
  rw [← hax]
  refine lv_astore_n (lv' := [(1, .ref (ax 0)), (0, .ref b)]) hx hb d_law_7 rfl hl (by decide) rfl (fun ls hl => ?_)
  have hP5 : va_P (dC, dI) classes (EX ax cI cZ cJ ix) H1 := hP5
  refine va_new (ci := 12) (fs := [.int 0, .null, .int 0, .null, .null, .int 0, .null, .null, .null, .null, .int 0, .null, .null, .null, .int 0, .null, .null, .null, .null, .null, .int 0, .null, .null, .int 0, .int 0, .int 0, .int 0, .int 0, .int 0, .null, .null, .null, .int 0, .int 0, .int 0, .null, .int 0, .null, .null, .null, .null, .int 0, .int 0, .int 0, .null, .null, .null, .null, .null, .int 0, .int 0, .int 0, .int 0, .int 0, .int 0, .null, .null, .null, .null, .int 0, .int 0, .int 0, .null, .int 0, .int 0, .int 0, .int 0, .null]) (C := "SmallHarbourModel") (T := T_Md) (N := 68) hx hb hts (fun w h => tbg_in (i_Md w h)) t_Md tk_Md hown (hts _ (tbg_in w_830)) (hts _ (tbg_in w_831)) (hts _ (tbg_in w_13)) hK hP5 hD5 hS5 hA rfl (by decide) (by decide) (by decide) d_law_8 (fun q1 H6 hP6 hD6 hS6 => ?_)
  refine lv_dup hx hb d_law_11 rfl ?_
  have hPc := ap_right hP6
  have hDc := aD_right hD6
  have hF := fr_free hDc hS6 hA
  refine va_callv (va_runI (As := []) (rest := [.ref q1]) ⟨hx, hb, hml, hown, hts⟩ (c_Md_init (l := l) (D := (dC, dI)) (cI := cI) (cZ := cZ) (cJ := cJ) q1 H6.size) ⟨callB_of (R := room_1) (rm := RC 1 36 3655) 0 hts (fun w h => (List.mem_cons.mp h).elim (fun e => ⟨tbg_in (e ▸ mi_Md_init.1), (tb_good w (e ▸ mi_Md_init.1)).2⟩) (fun q => ⟨tbg_in q, (tb_good w q).2⟩)) rfl rfl rfl (hts _ (tbg_in mi_Md_init.2.1)) (hts _ (tbg_in w_832)) mi_Md_init.2.2.1 (by decide), rfl, hts _ (tbg_in w_833)⟩ ⟨cblind, fun U hU hW => ⟨rfl, by rw [hU], by rw [hU]; exact hPc, va_K.moved hW.alike hK, hDc.weaken (fun _ _ _ _ => trivial), hnl.warm hW, hao.warm hW⟩⟩ rfl rfl hl.1 rfl (lv_room (Nat.le_of_ble_eq_true rfl)) d_law_12 (by decide)) hS6 (fun q _ h => hF q h) hF (fun u t H2 locs ht hvm hq hB hz1 hk1 hS7 => ?_)
  obtain ⟨am, ham, rfl⟩ := hq
  obtain ⟨hP1, hK1, hD1⟩ := hB
  rw [ht] at hP1
  obtain ⟨hP7, hD7⟩ := a_joinR hP6 hD6 hk1 hF hP1 hD1
  rw [← ham]
  refine lv_astore_n (lv' := [(2, .ref (am 0)), (1, .ref (ax 0)), (0, .ref b)]) hx hb d_law_15 rfl hl (by decide) rfl (fun ls hl => ?_)
  refine lv_iconst (v := 0) hx hb d_law_16 (by decide) ?_
  refine lv_istore_n (lv' := [(3, .int 0), (2, .ref (am 0)), (1, .ref (ax 0)), (0, .ref b)]) hx hb d_law_17 rfl hl (by decide) rfl (fun ls hl => ?_)
  exact law_loop hSt hL ⟨C0, hK, hnl⟩ (L + 1) 0 0 (Nat.zero_le L) (by omega) nI_0.symm ix im hI H2 locs ls hP7 hD7 hS7 (lv_sub hl [3, 2, 1, 0] rfl)
